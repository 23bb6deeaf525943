/-! ===== the small machine's steps are the machine's: straight ones ===== -/
theorem ofInt_toInt64 {a : Int} (h : -2147483648 ≤ a ∧ a < 2147483648) : (Int32.ofInt a).toInt64 = Int64.ofInt a := by
  apply Int64.toInt_inj.mp
  rw [Int32.toInt_toInt64, toInt_ofInt_id h, Int64.toInt_ofInt, Int.bmod_def]
  simp only [show (Int64.size : Int) = 18446744073709551616 from rfl]
  split <;> omega
theorem swW_out {x lo : Int} {ia : Nat} {f : Nat → Prop} : ∀ (sw : List (Int × Nat)), (∀ (j : Nat) (q : Int × Nat), sw[j]? = some q → q.1 = lo + j) → (x < lo ∨ lo + sw.length ≤ x) → swW x sw ia f → f ia := by
  intro sw
  induction sw generalizing lo with
  | nil => intro _ _ h; exact h
  | cons q r ih =>
    intro hk hx h
    obtain ⟨k, t⟩ := q
    have h0 : k = lo := by have := hk 0 (k, t) rfl; simpa using this
    unfold swW at h
    simp only [List.length_cons] at hx
    rw [if_neg (by omega)] at h
    refine ih (lo := lo + 1) (fun j q hq => ?_) (by omega) h
    have := hk (j + 1) q (by simpa using hq)
    rw [this]; omega
theorem swW_in {x lo : Int} {ia t : Nat} {f : Nat → Prop} : ∀ (sw : List (Int × Nat)), (∀ (j : Nat) (q : Int × Nat), sw[j]? = some q → q.1 = lo + j) → ∀ (j : Nat), sw[j]? = some (lo + j, t) → x = lo + j → swW x sw ia f → f t := by
  intro sw
  induction sw generalizing lo with
  | nil => intro _ j hj; simp at hj
  | cons q r ih =>
    intro hk j hj hx h
    obtain ⟨k, t'⟩ := q
    have h0 : k = lo := by have := hk 0 (k, t') rfl; simpa using this
    unfold swW at h
    cases j with
    | zero =>
      simp at hj
      rw [if_pos (by omega)] at h
      rw [← hj.2]; exact h
    | succ j =>
      rw [if_neg (by omega)] at h
      have e : lo + ((j + 1 : Nat) : Int) = (lo + 1) + (j : Int) := by omega
      rw [e] at hj hx
      refine ih (lo := lo + 1) (fun j q hq => ?_) j (by simpa using hj) hx h
      have := hk (j + 1) q (by simpa using hq)
      rw [this]; omega
theorem swW_look {x dd : Int} {pc ia : Nat} {f : Nat → Prop} (ht : (pc : Int) + dd = (ia : Int)) : ∀ (ps : List (Int × Int)) (sw : List (Int × Nat)), sw.length = ps.length → (ps.zip sw).all (fun q => decide (q.1.1 = q.2.1) && decide ((pc : Int) + q.1.2 = (q.2.2 : Int))) = true → swW x sw ia f → ∃ (off : Int) (tgt : Nat), Op.lookupswitch.offset ps dd x = off ∧ (pc : Int) + off = (tgt : Int) ∧ f tgt := by
  intro ps
  induction ps with
  | nil =>
    intro sw hl _ h
    cases sw with
    | nil => exact ⟨dd, ia, by rw [Op.lookupswitch.offset_nil], ht, h⟩
    | cons q r => cases hl
  | cons a ps ih =>
    intro sw hl hall h
    cases sw with
    | nil => cases hl
    | cons q r =>
      obtain ⟨k, t⟩ := q
      obtain ⟨k', o⟩ := a
      simp only [List.zip_cons_cons, List.all_cons, Bool.and_eq_true, decide_eq_true_eq] at hall
      obtain ⟨⟨e1, e2⟩, hall⟩ := hall
      subst e1
      unfold swW at h
      rw [Op.lookupswitch.offset_cons]
      by_cases hx : x = k'
      · rw [if_pos hx] at h
        exact ⟨o, t, by first | rw [if_pos hx] | rw [if_pos hx.symm], e2, h⟩
      · rw [if_neg hx] at h
        obtain ⟨off, tgt, h1, h2, h3⟩ := ih r (by simpa using hl) hall h
        exact ⟨off, tgt, by first | (rw [if_neg hx]; exact h1) | (rw [if_neg (Ne.symm hx)]; exact h1), h2, h3⟩
set_option maxRecDepth 20000 in
set_option maxHeartbeats 2000000 in
theorem cl_iconst {l : Launch} {n d y pc : Nat} {k : Int} {len ia ib ic : Nat} {z : Int} {sw : List (Int × Nat)} {kc ks : Nat} {ls : mLs} {st : List mV} {H : mH} {K : mK} (hw : okRow (y, pc, .iconst k, len, (ia, ib, ic), z, sw) = true) (hstep : stepW n (Pr l n) (ent (Pr l n)) d (y, pc, .iconst k, len, (ia, ib, ic), z, sw) kc ks ls st H K) : Pr l n d y pc kc ks ls st H K := by
  obtain ⟨hdec, hins, hyl⟩ := okRow_sp hw
  simp only [okIns, Bool.and_eq_true, Bool.or_eq_true, decide_eq_true_eq, beq_iff_eq] at hins
  intro p e R s m args below meth c A D ad cA HH locs cells slots lsR QF ad0 nx0 hctx hroom hnest hro hend hst hls hlv hW hS hag hnx hkc hks
  obtain ⟨hx, hb, hr, hml, hown, hts, hlk, hini, hA⟩ := id hctx
  have nxt : ∀ {pc' : Nat} {st' : List mV}, Pr l n d y pc' kc ks ls st' H K → okS H.2.2.2 st' → W p l e R s m args below meth c HH locs cells slots QF (F0 m pc' lsR (st'.map (mval ad))) := fun h ok => h p e R s m args below meth c A D ad cA HH locs cells slots lsR QF ad0 nx0 hctx hroom hnest hro hend ok hls hlv hW hS hag hnx hkc hks
  have nxtL : ∀ {pc' : Nat} {st' : List mV} {ls' : mLs} {lsR' : Array Slot}, Pr l n d y pc' kc ks ls' st' H K → okS H.2.2.2 st' → okLs H.2.2.2 ls' → lv_has lsR' (mMax y) (lvOf ad ls') → W p l e R s m args below meth c HH locs cells slots QF (F0 m pc' lsR' (st'.map (mval ad))) := fun h ok okl hl => h p e R s m args below meth c A D ad cA HH locs cells slots _ QF ad0 nx0 hctx hroom hnest hro hend ok okl hl hW hS hag hnx hkc hks
  dsimp only [stepW] at hstep
  obtain ⟨⟨rfl, rfl⟩, hz⟩ := hins
  simp only [inR, Bool.and_eq_true, decide_eq_true_eq] at hz
  exact lv_iconst (v := Int32.ofInt k) hx hb hdec rfl (nxt hstep (okS_c hz hst))
set_option maxRecDepth 20000 in
set_option maxHeartbeats 2000000 in
theorem cl_bipush {l : Launch} {n d y pc : Nat} {k : Int} {len ia ib ic : Nat} {z : Int} {sw : List (Int × Nat)} {kc ks : Nat} {ls : mLs} {st : List mV} {H : mH} {K : mK} (hw : okRow (y, pc, .bipush k, len, (ia, ib, ic), z, sw) = true) (hstep : stepW n (Pr l n) (ent (Pr l n)) d (y, pc, .bipush k, len, (ia, ib, ic), z, sw) kc ks ls st H K) : Pr l n d y pc kc ks ls st H K := by
  obtain ⟨hdec, hins, hyl⟩ := okRow_sp hw
  simp only [okIns, Bool.and_eq_true, Bool.or_eq_true, decide_eq_true_eq, beq_iff_eq] at hins
  intro p e R s m args below meth c A D ad cA HH locs cells slots lsR QF ad0 nx0 hctx hroom hnest hro hend hst hls hlv hW hS hag hnx hkc hks
  obtain ⟨hx, hb, hr, hml, hown, hts, hlk, hini, hA⟩ := id hctx
  have nxt : ∀ {pc' : Nat} {st' : List mV}, Pr l n d y pc' kc ks ls st' H K → okS H.2.2.2 st' → W p l e R s m args below meth c HH locs cells slots QF (F0 m pc' lsR (st'.map (mval ad))) := fun h ok => h p e R s m args below meth c A D ad cA HH locs cells slots lsR QF ad0 nx0 hctx hroom hnest hro hend ok hls hlv hW hS hag hnx hkc hks
  have nxtL : ∀ {pc' : Nat} {st' : List mV} {ls' : mLs} {lsR' : Array Slot}, Pr l n d y pc' kc ks ls' st' H K → okS H.2.2.2 st' → okLs H.2.2.2 ls' → lv_has lsR' (mMax y) (lvOf ad ls') → W p l e R s m args below meth c HH locs cells slots QF (F0 m pc' lsR' (st'.map (mval ad))) := fun h ok okl hl => h p e R s m args below meth c A D ad cA HH locs cells slots _ QF ad0 nx0 hctx hroom hnest hro hend ok okl hl hW hS hag hnx hkc hks
  dsimp only [stepW] at hstep
  obtain ⟨⟨rfl, h2⟩, hz⟩ := hins
  simp only [inR, Bool.and_eq_true, decide_eq_true_eq] at hz
  exact lv_bipush (v := Int32.ofInt z) hx hb hdec h2 (nxt hstep (okS_c hz hst))
set_option maxRecDepth 20000 in
set_option maxHeartbeats 2000000 in
theorem cl_sipush {l : Launch} {n d y pc : Nat} {k : Int} {len ia ib ic : Nat} {z : Int} {sw : List (Int × Nat)} {kc ks : Nat} {ls : mLs} {st : List mV} {H : mH} {K : mK} (hw : okRow (y, pc, .sipush k, len, (ia, ib, ic), z, sw) = true) (hstep : stepW n (Pr l n) (ent (Pr l n)) d (y, pc, .sipush k, len, (ia, ib, ic), z, sw) kc ks ls st H K) : Pr l n d y pc kc ks ls st H K := by
  obtain ⟨hdec, hins, hyl⟩ := okRow_sp hw
  simp only [okIns, Bool.and_eq_true, Bool.or_eq_true, decide_eq_true_eq, beq_iff_eq] at hins
  intro p e R s m args below meth c A D ad cA HH locs cells slots lsR QF ad0 nx0 hctx hroom hnest hro hend hst hls hlv hW hS hag hnx hkc hks
  obtain ⟨hx, hb, hr, hml, hown, hts, hlk, hini, hA⟩ := id hctx
  have nxt : ∀ {pc' : Nat} {st' : List mV}, Pr l n d y pc' kc ks ls st' H K → okS H.2.2.2 st' → W p l e R s m args below meth c HH locs cells slots QF (F0 m pc' lsR (st'.map (mval ad))) := fun h ok => h p e R s m args below meth c A D ad cA HH locs cells slots lsR QF ad0 nx0 hctx hroom hnest hro hend ok hls hlv hW hS hag hnx hkc hks
  have nxtL : ∀ {pc' : Nat} {st' : List mV} {ls' : mLs} {lsR' : Array Slot}, Pr l n d y pc' kc ks ls' st' H K → okS H.2.2.2 st' → okLs H.2.2.2 ls' → lv_has lsR' (mMax y) (lvOf ad ls') → W p l e R s m args below meth c HH locs cells slots QF (F0 m pc' lsR' (st'.map (mval ad))) := fun h ok okl hl => h p e R s m args below meth c A D ad cA HH locs cells slots _ QF ad0 nx0 hctx hroom hnest hro hend ok okl hl hW hS hag hnx hkc hks
  dsimp only [stepW] at hstep
  obtain ⟨⟨rfl, h2⟩, hz⟩ := hins
  simp only [inR, Bool.and_eq_true, decide_eq_true_eq] at hz
  exact lv_sipush (v := Int32.ofInt z) hx hb hdec h2 (nxt hstep (okS_c hz hst))
set_option maxRecDepth 20000 in
set_option maxHeartbeats 2000000 in
theorem cl_lconst {l : Launch} {n d y pc : Nat} {k : Fin 2} {len ia ib ic : Nat} {z : Int} {sw : List (Int × Nat)} {kc ks : Nat} {ls : mLs} {st : List mV} {H : mH} {K : mK} (hw : okRow (y, pc, .lconst k, len, (ia, ib, ic), z, sw) = true) (hstep : stepW n (Pr l n) (ent (Pr l n)) d (y, pc, .lconst k, len, (ia, ib, ic), z, sw) kc ks ls st H K) : Pr l n d y pc kc ks ls st H K := by
  obtain ⟨hdec, hins, hyl⟩ := okRow_sp hw
  simp only [okIns, Bool.and_eq_true, Bool.or_eq_true, decide_eq_true_eq, beq_iff_eq] at hins
  intro p e R s m args below meth c A D ad cA HH locs cells slots lsR QF ad0 nx0 hctx hroom hnest hro hend hst hls hlv hW hS hag hnx hkc hks
  obtain ⟨hx, hb, hr, hml, hown, hts, hlk, hini, hA⟩ := id hctx
  have nxt : ∀ {pc' : Nat} {st' : List mV}, Pr l n d y pc' kc ks ls st' H K → okS H.2.2.2 st' → W p l e R s m args below meth c HH locs cells slots QF (F0 m pc' lsR (st'.map (mval ad))) := fun h ok => h p e R s m args below meth c A D ad cA HH locs cells slots lsR QF ad0 nx0 hctx hroom hnest hro hend ok hls hlv hW hS hag hnx hkc hks
  have nxtL : ∀ {pc' : Nat} {st' : List mV} {ls' : mLs} {lsR' : Array Slot}, Pr l n d y pc' kc ks ls' st' H K → okS H.2.2.2 st' → okLs H.2.2.2 ls' → lv_has lsR' (mMax y) (lvOf ad ls') → W p l e R s m args below meth c HH locs cells slots QF (F0 m pc' lsR' (st'.map (mval ad))) := fun h ok okl hl => h p e R s m args below meth c A D ad cA HH locs cells slots _ QF ad0 nx0 hctx hroom hnest hro hend ok okl hl hW hS hag hnx hkc hks
  dsimp only [stepW] at hstep
  obtain ⟨rfl, h2⟩ := hins
  exact lv_lconst (v := Int64.ofInt z) hx hb hdec h2 (nxt hstep (okS_c trivial hst))
set_option maxRecDepth 20000 in
set_option maxHeartbeats 2000000 in
theorem cl_ldc2_w {l : Launch} {n d y pc : Nat} {i : Nat} {len ia ib ic : Nat} {z : Int} {sw : List (Int × Nat)} {kc ks : Nat} {ls : mLs} {st : List mV} {H : mH} {K : mK} (hw : okRow (y, pc, .ldc2_w i, len, (ia, ib, ic), z, sw) = true) (hstep : stepW n (Pr l n) (ent (Pr l n)) d (y, pc, .ldc2_w i, len, (ia, ib, ic), z, sw) kc ks ls st H K) : Pr l n d y pc kc ks ls st H K := by
  obtain ⟨hdec, hins, hyl⟩ := okRow_sp hw
  simp only [okIns, Bool.and_eq_true, Bool.or_eq_true, decide_eq_true_eq, beq_iff_eq] at hins
  intro p e R s m args below meth c A D ad cA HH locs cells slots lsR QF ad0 nx0 hctx hroom hnest hro hend hst hls hlv hW hS hag hnx hkc hks
  obtain ⟨hx, hb, hr, hml, hown, hts, hlk, hini, hA⟩ := id hctx
  have nxt : ∀ {pc' : Nat} {st' : List mV}, Pr l n d y pc' kc ks ls st' H K → okS H.2.2.2 st' → W p l e R s m args below meth c HH locs cells slots QF (F0 m pc' lsR (st'.map (mval ad))) := fun h ok => h p e R s m args below meth c A D ad cA HH locs cells slots lsR QF ad0 nx0 hctx hroom hnest hro hend ok hls hlv hW hS hag hnx hkc hks
  have nxtL : ∀ {pc' : Nat} {st' : List mV} {ls' : mLs} {lsR' : Array Slot}, Pr l n d y pc' kc ks ls' st' H K → okS H.2.2.2 st' → okLs H.2.2.2 ls' → lv_has lsR' (mMax y) (lvOf ad ls') → W p l e R s m args below meth c HH locs cells slots QF (F0 m pc' lsR' (st'.map (mval ad))) := fun h ok okl hl => h p e R s m args below meth c A D ad cA HH locs cells slots _ QF ad0 nx0 hctx hroom hnest hro hend ok okl hl hW hS hag hnx hkc hks
  dsimp only [stepW] at hstep
  obtain ⟨rfl, h2⟩ := hins
  exact lv_ldc2 (v := Int64.ofInt z) hx hb hown (hts _ (wAt_sp h2 rfl)) hdec (nxt hstep (okS_c trivial hst))
set_option maxRecDepth 20000 in
set_option maxHeartbeats 2000000 in
theorem cl_ldc_w {l : Launch} {n d y pc : Nat} {i : Nat} {len ia ib ic : Nat} {z : Int} {sw : List (Int × Nat)} {kc ks : Nat} {ls : mLs} {st : List mV} {H : mH} {K : mK} (hw : okRow (y, pc, .ldc_w i, len, (ia, ib, ic), z, sw) = true) (hstep : stepW n (Pr l n) (ent (Pr l n)) d (y, pc, .ldc_w i, len, (ia, ib, ic), z, sw) kc ks ls st H K) : Pr l n d y pc kc ks ls st H K := by
  obtain ⟨hdec, hins, hyl⟩ := okRow_sp hw
  simp only [okIns, Bool.and_eq_true, Bool.or_eq_true, decide_eq_true_eq, beq_iff_eq] at hins
  intro p e R s m args below meth c A D ad cA HH locs cells slots lsR QF ad0 nx0 hctx hroom hnest hro hend hst hls hlv hW hS hag hnx hkc hks
  obtain ⟨hx, hb, hr, hml, hown, hts, hlk, hini, hA⟩ := id hctx
  have nxt : ∀ {pc' : Nat} {st' : List mV}, Pr l n d y pc' kc ks ls st' H K → okS H.2.2.2 st' → W p l e R s m args below meth c HH locs cells slots QF (F0 m pc' lsR (st'.map (mval ad))) := fun h ok => h p e R s m args below meth c A D ad cA HH locs cells slots lsR QF ad0 nx0 hctx hroom hnest hro hend ok hls hlv hW hS hag hnx hkc hks
  have nxtL : ∀ {pc' : Nat} {st' : List mV} {ls' : mLs} {lsR' : Array Slot}, Pr l n d y pc' kc ks ls' st' H K → okS H.2.2.2 st' → okLs H.2.2.2 ls' → lv_has lsR' (mMax y) (lvOf ad ls') → W p l e R s m args below meth c HH locs cells slots QF (F0 m pc' lsR' (st'.map (mval ad))) := fun h ok okl hl => h p e R s m args below meth c A D ad cA HH locs cells slots _ QF ad0 nx0 hctx hroom hnest hro hend ok okl hl hW hS hag hnx hkc hks
  dsimp only [stepW] at hstep
  obtain ⟨⟨rfl, h2⟩, hz⟩ := hins
  simp only [inR, Bool.and_eq_true, decide_eq_true_eq] at hz
  exact lv_ldcw (v := Int32.ofInt z) hx hb hown (hts _ (wAt_sp h2 rfl)) hdec (nxt hstep (okS_c hz hst))
set_option maxRecDepth 20000 in
set_option maxHeartbeats 2000000 in
theorem cl_ldc {l : Launch} {n d y pc : Nat} {i : Nat} {len ia ib ic : Nat} {z : Int} {sw : List (Int × Nat)} {kc ks : Nat} {ls : mLs} {st : List mV} {H : mH} {K : mK} (hw : okRow (y, pc, .ldc i, len, (ia, ib, ic), z, sw) = true) (hstep : stepW n (Pr l n) (ent (Pr l n)) d (y, pc, .ldc i, len, (ia, ib, ic), z, sw) kc ks ls st H K) : Pr l n d y pc kc ks ls st H K := by
  obtain ⟨hdec, hins, hyl⟩ := okRow_sp hw
  simp only [okIns, Bool.and_eq_true, Bool.or_eq_true, decide_eq_true_eq, beq_iff_eq] at hins
  intro p e R s m args below meth c A D ad cA HH locs cells slots lsR QF ad0 nx0 hctx hroom hnest hro hend hst hls hlv hW hS hag hnx hkc hks
  obtain ⟨hx, hb, hr, hml, hown, hts, hlk, hini, hA⟩ := id hctx
  have nxt : ∀ {pc' : Nat} {st' : List mV}, Pr l n d y pc' kc ks ls st' H K → okS H.2.2.2 st' → W p l e R s m args below meth c HH locs cells slots QF (F0 m pc' lsR (st'.map (mval ad))) := fun h ok => h p e R s m args below meth c A D ad cA HH locs cells slots lsR QF ad0 nx0 hctx hroom hnest hro hend ok hls hlv hW hS hag hnx hkc hks
  have nxtL : ∀ {pc' : Nat} {st' : List mV} {ls' : mLs} {lsR' : Array Slot}, Pr l n d y pc' kc ks ls' st' H K → okS H.2.2.2 st' → okLs H.2.2.2 ls' → lv_has lsR' (mMax y) (lvOf ad ls') → W p l e R s m args below meth c HH locs cells slots QF (F0 m pc' lsR' (st'.map (mval ad))) := fun h ok okl hl => h p e R s m args below meth c A D ad cA HH locs cells slots _ QF ad0 nx0 hctx hroom hnest hro hend ok okl hl hW hS hag hnx hkc hks
  dsimp only [stepW] at hstep
  obtain ⟨⟨rfl, h2⟩, h3⟩ := hins
  rw [h2] at hown
  have h16 := hW.2.2.2.2.1
  have key : ∃ tx, vk_R RX4 i tx (ad ia) s ∧ ia < 16 := by
    simp only [List.mem_cons, Prod.mk.injEq, List.not_mem_nil, or_false] at h3
    have hq := hnest.1
    rcases h3 with ⟨rfl, rfl⟩ | ⟨rfl, rfl⟩ | ⟨rfl, rfl⟩ | ⟨rfl, rfl⟩ | ⟨rfl, rfl⟩ | ⟨rfl, rfl⟩
    · exact ⟨_, hq (84, 3, "ind ") (by simp [mStr]), by omega⟩
    · exact ⟨_, hq (90, 4, "aste ") (by simp [mStr]), by omega⟩
    · exact ⟨_, hq (92, 5, "ate ") (by simp [mStr]), by omega⟩
    · exact ⟨_, hq (94, 6, "li") (by simp [mStr]), by omega⟩
    · exact ⟨_, hq (96, 7, "e ") (by simp [mStr]), by omega⟩
    · exact ⟨_, hq (98, 8, "ght ") (by simp [mStr]), by omega⟩
  obtain ⟨tx, hR, hlt⟩ := key
  exact va_ldcS hx hb hown hR hdec (nxt hstep (okS_c (v := vr (some ia)) (Nat.lt_of_lt_of_le hlt h16) hst))
set_option maxRecDepth 20000 in
set_option maxHeartbeats 2000000 in
theorem cl_iload {l : Launch} {n d y pc : Nat} {i : Nat} {len ia ib ic : Nat} {z : Int} {sw : List (Int × Nat)} {kc ks : Nat} {ls : mLs} {st : List mV} {H : mH} {K : mK} (hw : okRow (y, pc, .iload i, len, (ia, ib, ic), z, sw) = true) (hstep : stepW n (Pr l n) (ent (Pr l n)) d (y, pc, .iload i, len, (ia, ib, ic), z, sw) kc ks ls st H K) : Pr l n d y pc kc ks ls st H K := by
  obtain ⟨hdec, hins, hyl⟩ := okRow_sp hw
  simp only [okIns, Bool.and_eq_true, Bool.or_eq_true, decide_eq_true_eq, beq_iff_eq] at hins
  intro p e R s m args below meth c A D ad cA HH locs cells slots lsR QF ad0 nx0 hctx hroom hnest hro hend hst hls hlv hW hS hag hnx hkc hks
  obtain ⟨hx, hb, hr, hml, hown, hts, hlk, hini, hA⟩ := id hctx
  have nxt : ∀ {pc' : Nat} {st' : List mV}, Pr l n d y pc' kc ks ls st' H K → okS H.2.2.2 st' → W p l e R s m args below meth c HH locs cells slots QF (F0 m pc' lsR (st'.map (mval ad))) := fun h ok => h p e R s m args below meth c A D ad cA HH locs cells slots lsR QF ad0 nx0 hctx hroom hnest hro hend ok hls hlv hW hS hag hnx hkc hks
  have nxtL : ∀ {pc' : Nat} {st' : List mV} {ls' : mLs} {lsR' : Array Slot}, Pr l n d y pc' kc ks ls' st' H K → okS H.2.2.2 st' → okLs H.2.2.2 ls' → lv_has lsR' (mMax y) (lvOf ad ls') → W p l e R s m args below meth c HH locs cells slots QF (F0 m pc' lsR' (st'.map (mval ad))) := fun h ok okl hl => h p e R s m args below meth c A D ad cA HH locs cells slots _ QF ad0 nx0 hctx hroom hnest hro hend ok okl hl hW hS hag hnx hkc hks
  dsimp only [stepW] at hstep
  obtain ⟨rfl, h2⟩ := hins
  obtain ⟨x, hx1, hstep⟩ := gI_inv hstep
  exact lv_iload hx hb hdec (lv_get hlv (h2 ▸ hx1)) (nxt hstep (okS_c (hls _ _ hx1) hst))
set_option maxRecDepth 20000 in
set_option maxHeartbeats 2000000 in
theorem cl_iload_n {l : Launch} {n d y pc : Nat} {i : Fin 4} {len ia ib ic : Nat} {z : Int} {sw : List (Int × Nat)} {kc ks : Nat} {ls : mLs} {st : List mV} {H : mH} {K : mK} (hw : okRow (y, pc, .iload_n i, len, (ia, ib, ic), z, sw) = true) (hstep : stepW n (Pr l n) (ent (Pr l n)) d (y, pc, .iload_n i, len, (ia, ib, ic), z, sw) kc ks ls st H K) : Pr l n d y pc kc ks ls st H K := by
  obtain ⟨hdec, hins, hyl⟩ := okRow_sp hw
  simp only [okIns, Bool.and_eq_true, Bool.or_eq_true, decide_eq_true_eq, beq_iff_eq] at hins
  intro p e R s m args below meth c A D ad cA HH locs cells slots lsR QF ad0 nx0 hctx hroom hnest hro hend hst hls hlv hW hS hag hnx hkc hks
  obtain ⟨hx, hb, hr, hml, hown, hts, hlk, hini, hA⟩ := id hctx
  have nxt : ∀ {pc' : Nat} {st' : List mV}, Pr l n d y pc' kc ks ls st' H K → okS H.2.2.2 st' → W p l e R s m args below meth c HH locs cells slots QF (F0 m pc' lsR (st'.map (mval ad))) := fun h ok => h p e R s m args below meth c A D ad cA HH locs cells slots lsR QF ad0 nx0 hctx hroom hnest hro hend ok hls hlv hW hS hag hnx hkc hks
  have nxtL : ∀ {pc' : Nat} {st' : List mV} {ls' : mLs} {lsR' : Array Slot}, Pr l n d y pc' kc ks ls' st' H K → okS H.2.2.2 st' → okLs H.2.2.2 ls' → lv_has lsR' (mMax y) (lvOf ad ls') → W p l e R s m args below meth c HH locs cells slots QF (F0 m pc' lsR' (st'.map (mval ad))) := fun h ok okl hl => h p e R s m args below meth c A D ad cA HH locs cells slots _ QF ad0 nx0 hctx hroom hnest hro hend ok okl hl hW hS hag hnx hkc hks
  dsimp only [stepW] at hstep
  obtain ⟨rfl, h2⟩ := hins
  obtain ⟨x, hx1, hstep⟩ := gI_inv hstep
  exact lv_iload_n hx hb hdec h2 (lv_get hlv hx1) (nxt hstep (okS_c (hls _ _ hx1) hst))
set_option maxRecDepth 20000 in
set_option maxHeartbeats 2000000 in
theorem cl_lload {l : Launch} {n d y pc : Nat} {i : Nat} {len ia ib ic : Nat} {z : Int} {sw : List (Int × Nat)} {kc ks : Nat} {ls : mLs} {st : List mV} {H : mH} {K : mK} (hw : okRow (y, pc, .lload i, len, (ia, ib, ic), z, sw) = true) (hstep : stepW n (Pr l n) (ent (Pr l n)) d (y, pc, .lload i, len, (ia, ib, ic), z, sw) kc ks ls st H K) : Pr l n d y pc kc ks ls st H K := by
  obtain ⟨hdec, hins, hyl⟩ := okRow_sp hw
  simp only [okIns, Bool.and_eq_true, Bool.or_eq_true, decide_eq_true_eq, beq_iff_eq] at hins
  intro p e R s m args below meth c A D ad cA HH locs cells slots lsR QF ad0 nx0 hctx hroom hnest hro hend hst hls hlv hW hS hag hnx hkc hks
  obtain ⟨hx, hb, hr, hml, hown, hts, hlk, hini, hA⟩ := id hctx
  have nxt : ∀ {pc' : Nat} {st' : List mV}, Pr l n d y pc' kc ks ls st' H K → okS H.2.2.2 st' → W p l e R s m args below meth c HH locs cells slots QF (F0 m pc' lsR (st'.map (mval ad))) := fun h ok => h p e R s m args below meth c A D ad cA HH locs cells slots lsR QF ad0 nx0 hctx hroom hnest hro hend ok hls hlv hW hS hag hnx hkc hks
  have nxtL : ∀ {pc' : Nat} {st' : List mV} {ls' : mLs} {lsR' : Array Slot}, Pr l n d y pc' kc ks ls' st' H K → okS H.2.2.2 st' → okLs H.2.2.2 ls' → lv_has lsR' (mMax y) (lvOf ad ls') → W p l e R s m args below meth c HH locs cells slots QF (F0 m pc' lsR' (st'.map (mval ad))) := fun h ok okl hl => h p e R s m args below meth c A D ad cA HH locs cells slots _ QF ad0 nx0 hctx hroom hnest hro hend ok okl hl hW hS hag hnx hkc hks
  dsimp only [stepW] at hstep
  obtain ⟨rfl, h2⟩ := hins
  obtain ⟨x, hx1, hstep⟩ := gL_inv hstep
  exact lv_lload hx hb hdec (lv_get hlv (h2 ▸ hx1)) (nxt hstep (okS_c (hls _ _ hx1) hst))
set_option maxRecDepth 20000 in
set_option maxHeartbeats 2000000 in
theorem cl_lload_n {l : Launch} {n d y pc : Nat} {i : Fin 4} {len ia ib ic : Nat} {z : Int} {sw : List (Int × Nat)} {kc ks : Nat} {ls : mLs} {st : List mV} {H : mH} {K : mK} (hw : okRow (y, pc, .lload_n i, len, (ia, ib, ic), z, sw) = true) (hstep : stepW n (Pr l n) (ent (Pr l n)) d (y, pc, .lload_n i, len, (ia, ib, ic), z, sw) kc ks ls st H K) : Pr l n d y pc kc ks ls st H K := by
  obtain ⟨hdec, hins, hyl⟩ := okRow_sp hw
  simp only [okIns, Bool.and_eq_true, Bool.or_eq_true, decide_eq_true_eq, beq_iff_eq] at hins
  intro p e R s m args below meth c A D ad cA HH locs cells slots lsR QF ad0 nx0 hctx hroom hnest hro hend hst hls hlv hW hS hag hnx hkc hks
  obtain ⟨hx, hb, hr, hml, hown, hts, hlk, hini, hA⟩ := id hctx
  have nxt : ∀ {pc' : Nat} {st' : List mV}, Pr l n d y pc' kc ks ls st' H K → okS H.2.2.2 st' → W p l e R s m args below meth c HH locs cells slots QF (F0 m pc' lsR (st'.map (mval ad))) := fun h ok => h p e R s m args below meth c A D ad cA HH locs cells slots lsR QF ad0 nx0 hctx hroom hnest hro hend ok hls hlv hW hS hag hnx hkc hks
  have nxtL : ∀ {pc' : Nat} {st' : List mV} {ls' : mLs} {lsR' : Array Slot}, Pr l n d y pc' kc ks ls' st' H K → okS H.2.2.2 st' → okLs H.2.2.2 ls' → lv_has lsR' (mMax y) (lvOf ad ls') → W p l e R s m args below meth c HH locs cells slots QF (F0 m pc' lsR' (st'.map (mval ad))) := fun h ok okl hl => h p e R s m args below meth c A D ad cA HH locs cells slots _ QF ad0 nx0 hctx hroom hnest hro hend ok okl hl hW hS hag hnx hkc hks
  dsimp only [stepW] at hstep
  obtain ⟨rfl, h2⟩ := hins
  obtain ⟨x, hx1, hstep⟩ := gL_inv hstep
  exact lv_lload_n hx hb hdec h2 (lv_get hlv hx1) (nxt hstep (okS_c (hls _ _ hx1) hst))
set_option maxRecDepth 20000 in
set_option maxHeartbeats 2000000 in
theorem cl_aload {l : Launch} {n d y pc : Nat} {i : Nat} {len ia ib ic : Nat} {z : Int} {sw : List (Int × Nat)} {kc ks : Nat} {ls : mLs} {st : List mV} {H : mH} {K : mK} (hw : okRow (y, pc, .aload i, len, (ia, ib, ic), z, sw) = true) (hstep : stepW n (Pr l n) (ent (Pr l n)) d (y, pc, .aload i, len, (ia, ib, ic), z, sw) kc ks ls st H K) : Pr l n d y pc kc ks ls st H K := by
  obtain ⟨hdec, hins, hyl⟩ := okRow_sp hw
  simp only [okIns, Bool.and_eq_true, Bool.or_eq_true, decide_eq_true_eq, beq_iff_eq] at hins
  intro p e R s m args below meth c A D ad cA HH locs cells slots lsR QF ad0 nx0 hctx hroom hnest hro hend hst hls hlv hW hS hag hnx hkc hks
  obtain ⟨hx, hb, hr, hml, hown, hts, hlk, hini, hA⟩ := id hctx
  have nxt : ∀ {pc' : Nat} {st' : List mV}, Pr l n d y pc' kc ks ls st' H K → okS H.2.2.2 st' → W p l e R s m args below meth c HH locs cells slots QF (F0 m pc' lsR (st'.map (mval ad))) := fun h ok => h p e R s m args below meth c A D ad cA HH locs cells slots lsR QF ad0 nx0 hctx hroom hnest hro hend ok hls hlv hW hS hag hnx hkc hks
  have nxtL : ∀ {pc' : Nat} {st' : List mV} {ls' : mLs} {lsR' : Array Slot}, Pr l n d y pc' kc ks ls' st' H K → okS H.2.2.2 st' → okLs H.2.2.2 ls' → lv_has lsR' (mMax y) (lvOf ad ls') → W p l e R s m args below meth c HH locs cells slots QF (F0 m pc' lsR' (st'.map (mval ad))) := fun h ok okl hl => h p e R s m args below meth c A D ad cA HH locs cells slots _ QF ad0 nx0 hctx hroom hnest hro hend ok okl hl hW hS hag hnx hkc hks
  dsimp only [stepW] at hstep
  obtain ⟨rfl, h2⟩ := hins
  obtain ⟨x, hx1, hstep⟩ := gR_inv hstep
  cases x with
  | none => exact lv_aloadN hx hb hdec (lv_get hlv (h2 ▸ hx1)) (nxt hstep (okS_c (hls _ _ hx1) hst))
  | some a => exact lv_aload hx hb hdec (lv_get hlv (h2 ▸ hx1)) (nxt hstep (okS_c (hls _ _ hx1) hst))
set_option maxRecDepth 20000 in
set_option maxHeartbeats 2000000 in
theorem cl_aload_n {l : Launch} {n d y pc : Nat} {i : Fin 4} {len ia ib ic : Nat} {z : Int} {sw : List (Int × Nat)} {kc ks : Nat} {ls : mLs} {st : List mV} {H : mH} {K : mK} (hw : okRow (y, pc, .aload_n i, len, (ia, ib, ic), z, sw) = true) (hstep : stepW n (Pr l n) (ent (Pr l n)) d (y, pc, .aload_n i, len, (ia, ib, ic), z, sw) kc ks ls st H K) : Pr l n d y pc kc ks ls st H K := by
  obtain ⟨hdec, hins, hyl⟩ := okRow_sp hw
  simp only [okIns, Bool.and_eq_true, Bool.or_eq_true, decide_eq_true_eq, beq_iff_eq] at hins
  intro p e R s m args below meth c A D ad cA HH locs cells slots lsR QF ad0 nx0 hctx hroom hnest hro hend hst hls hlv hW hS hag hnx hkc hks
  obtain ⟨hx, hb, hr, hml, hown, hts, hlk, hini, hA⟩ := id hctx
  have nxt : ∀ {pc' : Nat} {st' : List mV}, Pr l n d y pc' kc ks ls st' H K → okS H.2.2.2 st' → W p l e R s m args below meth c HH locs cells slots QF (F0 m pc' lsR (st'.map (mval ad))) := fun h ok => h p e R s m args below meth c A D ad cA HH locs cells slots lsR QF ad0 nx0 hctx hroom hnest hro hend ok hls hlv hW hS hag hnx hkc hks
  have nxtL : ∀ {pc' : Nat} {st' : List mV} {ls' : mLs} {lsR' : Array Slot}, Pr l n d y pc' kc ks ls' st' H K → okS H.2.2.2 st' → okLs H.2.2.2 ls' → lv_has lsR' (mMax y) (lvOf ad ls') → W p l e R s m args below meth c HH locs cells slots QF (F0 m pc' lsR' (st'.map (mval ad))) := fun h ok okl hl => h p e R s m args below meth c A D ad cA HH locs cells slots _ QF ad0 nx0 hctx hroom hnest hro hend ok okl hl hW hS hag hnx hkc hks
  dsimp only [stepW] at hstep
  obtain ⟨rfl, h2⟩ := hins
  obtain ⟨x, hx1, hstep⟩ := gR_inv hstep
  cases x with
  | none => exact lv_aload_nN hx hb hdec h2 (lv_get hlv hx1) (nxt hstep (okS_c (hls _ _ hx1) hst))
  | some a => exact lv_aload_n hx hb hdec h2 (lv_get hlv hx1) (nxt hstep (okS_c (hls _ _ hx1) hst))
set_option maxRecDepth 20000 in
set_option maxHeartbeats 2000000 in
theorem cl_istore {l : Launch} {n d y pc : Nat} {i : Nat} {len ia ib ic : Nat} {z : Int} {sw : List (Int × Nat)} {kc ks : Nat} {ls : mLs} {st : List mV} {H : mH} {K : mK} (hw : okRow (y, pc, .istore i, len, (ia, ib, ic), z, sw) = true) (hstep : stepW n (Pr l n) (ent (Pr l n)) d (y, pc, .istore i, len, (ia, ib, ic), z, sw) kc ks ls st H K) : Pr l n d y pc kc ks ls st H K := by
  obtain ⟨hdec, hins, hyl⟩ := okRow_sp hw
  simp only [okIns, Bool.and_eq_true, Bool.or_eq_true, decide_eq_true_eq, beq_iff_eq] at hins
  intro p e R s m args below meth c A D ad cA HH locs cells slots lsR QF ad0 nx0 hctx hroom hnest hro hend hst hls hlv hW hS hag hnx hkc hks
  obtain ⟨hx, hb, hr, hml, hown, hts, hlk, hini, hA⟩ := id hctx
  have nxt : ∀ {pc' : Nat} {st' : List mV}, Pr l n d y pc' kc ks ls st' H K → okS H.2.2.2 st' → W p l e R s m args below meth c HH locs cells slots QF (F0 m pc' lsR (st'.map (mval ad))) := fun h ok => h p e R s m args below meth c A D ad cA HH locs cells slots lsR QF ad0 nx0 hctx hroom hnest hro hend ok hls hlv hW hS hag hnx hkc hks
  have nxtL : ∀ {pc' : Nat} {st' : List mV} {ls' : mLs} {lsR' : Array Slot}, Pr l n d y pc' kc ks ls' st' H K → okS H.2.2.2 st' → okLs H.2.2.2 ls' → lv_has lsR' (mMax y) (lvOf ad ls') → W p l e R s m args below meth c HH locs cells slots QF (F0 m pc' lsR' (st'.map (mval ad))) := fun h ok okl hl => h p e R s m args below meth c A D ad cA HH locs cells slots _ QF ad0 nx0 hctx hroom hnest hro hend ok okl hl hW hS hag hnx hkc hks
  dsimp only [stepW] at hstep
  obtain ⟨⟨rfl, h2⟩, h3⟩ := hins
  obtain ⟨x, r, rfl, hs⟩ := eI_inv hstep
  obtain ⟨hn, hs⟩ := putL_inv hs
  subst h2
  exact lv_istore hx hb hdec hlv (Nat.lt_of_succ_le (Nat.le_of_ble_eq_true h3)) rfl (fun ls' hl' => nxtL hs (okS_t hst) (okLs_put hls (okS_h hst)) (lv_put (v := vi x) hn hl'))
set_option maxRecDepth 20000 in
set_option maxHeartbeats 2000000 in
theorem cl_istore_n {l : Launch} {n d y pc : Nat} {i : Fin 4} {len ia ib ic : Nat} {z : Int} {sw : List (Int × Nat)} {kc ks : Nat} {ls : mLs} {st : List mV} {H : mH} {K : mK} (hw : okRow (y, pc, .istore_n i, len, (ia, ib, ic), z, sw) = true) (hstep : stepW n (Pr l n) (ent (Pr l n)) d (y, pc, .istore_n i, len, (ia, ib, ic), z, sw) kc ks ls st H K) : Pr l n d y pc kc ks ls st H K := by
  obtain ⟨hdec, hins, hyl⟩ := okRow_sp hw
  simp only [okIns, Bool.and_eq_true, Bool.or_eq_true, decide_eq_true_eq, beq_iff_eq] at hins
  intro p e R s m args below meth c A D ad cA HH locs cells slots lsR QF ad0 nx0 hctx hroom hnest hro hend hst hls hlv hW hS hag hnx hkc hks
  obtain ⟨hx, hb, hr, hml, hown, hts, hlk, hini, hA⟩ := id hctx
  have nxt : ∀ {pc' : Nat} {st' : List mV}, Pr l n d y pc' kc ks ls st' H K → okS H.2.2.2 st' → W p l e R s m args below meth c HH locs cells slots QF (F0 m pc' lsR (st'.map (mval ad))) := fun h ok => h p e R s m args below meth c A D ad cA HH locs cells slots lsR QF ad0 nx0 hctx hroom hnest hro hend ok hls hlv hW hS hag hnx hkc hks
  have nxtL : ∀ {pc' : Nat} {st' : List mV} {ls' : mLs} {lsR' : Array Slot}, Pr l n d y pc' kc ks ls' st' H K → okS H.2.2.2 st' → okLs H.2.2.2 ls' → lv_has lsR' (mMax y) (lvOf ad ls') → W p l e R s m args below meth c HH locs cells slots QF (F0 m pc' lsR' (st'.map (mval ad))) := fun h ok okl hl => h p e R s m args below meth c A D ad cA HH locs cells slots _ QF ad0 nx0 hctx hroom hnest hro hend ok okl hl hW hS hag hnx hkc hks
  dsimp only [stepW] at hstep
  obtain ⟨⟨rfl, h2⟩, h3⟩ := hins
  obtain ⟨x, r, rfl, hs⟩ := eI_inv hstep
  obtain ⟨hn, hs⟩ := putL_inv hs
  
  exact lv_istore_n hx hb hdec h2 hlv (Nat.lt_of_succ_le (Nat.le_of_ble_eq_true h3)) rfl (fun ls' hl' => nxtL hs (okS_t hst) (okLs_put hls (okS_h hst)) (lv_put (v := vi x) hn hl'))
set_option maxRecDepth 20000 in
set_option maxHeartbeats 2000000 in
theorem cl_astore {l : Launch} {n d y pc : Nat} {i : Nat} {len ia ib ic : Nat} {z : Int} {sw : List (Int × Nat)} {kc ks : Nat} {ls : mLs} {st : List mV} {H : mH} {K : mK} (hw : okRow (y, pc, .astore i, len, (ia, ib, ic), z, sw) = true) (hstep : stepW n (Pr l n) (ent (Pr l n)) d (y, pc, .astore i, len, (ia, ib, ic), z, sw) kc ks ls st H K) : Pr l n d y pc kc ks ls st H K := by
  obtain ⟨hdec, hins, hyl⟩ := okRow_sp hw
  simp only [okIns, Bool.and_eq_true, Bool.or_eq_true, decide_eq_true_eq, beq_iff_eq] at hins
  intro p e R s m args below meth c A D ad cA HH locs cells slots lsR QF ad0 nx0 hctx hroom hnest hro hend hst hls hlv hW hS hag hnx hkc hks
  obtain ⟨hx, hb, hr, hml, hown, hts, hlk, hini, hA⟩ := id hctx
  have nxt : ∀ {pc' : Nat} {st' : List mV}, Pr l n d y pc' kc ks ls st' H K → okS H.2.2.2 st' → W p l e R s m args below meth c HH locs cells slots QF (F0 m pc' lsR (st'.map (mval ad))) := fun h ok => h p e R s m args below meth c A D ad cA HH locs cells slots lsR QF ad0 nx0 hctx hroom hnest hro hend ok hls hlv hW hS hag hnx hkc hks
  have nxtL : ∀ {pc' : Nat} {st' : List mV} {ls' : mLs} {lsR' : Array Slot}, Pr l n d y pc' kc ks ls' st' H K → okS H.2.2.2 st' → okLs H.2.2.2 ls' → lv_has lsR' (mMax y) (lvOf ad ls') → W p l e R s m args below meth c HH locs cells slots QF (F0 m pc' lsR' (st'.map (mval ad))) := fun h ok okl hl => h p e R s m args below meth c A D ad cA HH locs cells slots _ QF ad0 nx0 hctx hroom hnest hro hend ok okl hl hW hS hag hnx hkc hks
  dsimp only [stepW] at hstep
  obtain ⟨⟨rfl, h2⟩, h3⟩ := hins
  obtain ⟨x, r, rfl, hs⟩ := eR_inv hstep
  obtain ⟨a, rfl, hs2⟩ := drf_inv hs
  obtain ⟨hn, hs3⟩ := putL_inv hs2
  subst h2
  exact lv_astore hx hb hdec hlv (Nat.lt_of_succ_le (Nat.le_of_ble_eq_true h3)) rfl (fun ls' hl' => nxtL hs3 (okS_t hst) (okLs_put hls (okS_h hst)) (lv_put (v := vr (some a)) hn hl'))
set_option maxRecDepth 20000 in
set_option maxHeartbeats 2000000 in
theorem cl_astore_n {l : Launch} {n d y pc : Nat} {i : Fin 4} {len ia ib ic : Nat} {z : Int} {sw : List (Int × Nat)} {kc ks : Nat} {ls : mLs} {st : List mV} {H : mH} {K : mK} (hw : okRow (y, pc, .astore_n i, len, (ia, ib, ic), z, sw) = true) (hstep : stepW n (Pr l n) (ent (Pr l n)) d (y, pc, .astore_n i, len, (ia, ib, ic), z, sw) kc ks ls st H K) : Pr l n d y pc kc ks ls st H K := by
  obtain ⟨hdec, hins, hyl⟩ := okRow_sp hw
  simp only [okIns, Bool.and_eq_true, Bool.or_eq_true, decide_eq_true_eq, beq_iff_eq] at hins
  intro p e R s m args below meth c A D ad cA HH locs cells slots lsR QF ad0 nx0 hctx hroom hnest hro hend hst hls hlv hW hS hag hnx hkc hks
  obtain ⟨hx, hb, hr, hml, hown, hts, hlk, hini, hA⟩ := id hctx
  have nxt : ∀ {pc' : Nat} {st' : List mV}, Pr l n d y pc' kc ks ls st' H K → okS H.2.2.2 st' → W p l e R s m args below meth c HH locs cells slots QF (F0 m pc' lsR (st'.map (mval ad))) := fun h ok => h p e R s m args below meth c A D ad cA HH locs cells slots lsR QF ad0 nx0 hctx hroom hnest hro hend ok hls hlv hW hS hag hnx hkc hks
  have nxtL : ∀ {pc' : Nat} {st' : List mV} {ls' : mLs} {lsR' : Array Slot}, Pr l n d y pc' kc ks ls' st' H K → okS H.2.2.2 st' → okLs H.2.2.2 ls' → lv_has lsR' (mMax y) (lvOf ad ls') → W p l e R s m args below meth c HH locs cells slots QF (F0 m pc' lsR' (st'.map (mval ad))) := fun h ok okl hl => h p e R s m args below meth c A D ad cA HH locs cells slots _ QF ad0 nx0 hctx hroom hnest hro hend ok okl hl hW hS hag hnx hkc hks
  dsimp only [stepW] at hstep
  obtain ⟨⟨rfl, h2⟩, h3⟩ := hins
  obtain ⟨x, r, rfl, hs⟩ := eR_inv hstep
  obtain ⟨a, rfl, hs2⟩ := drf_inv hs
  obtain ⟨hn, hs3⟩ := putL_inv hs2
  
  exact lv_astore_n hx hb hdec h2 hlv (Nat.lt_of_succ_le (Nat.le_of_ble_eq_true h3)) rfl (fun ls' hl' => nxtL hs3 (okS_t hst) (okLs_put hls (okS_h hst)) (lv_put (v := vr (some a)) hn hl'))
set_option maxRecDepth 20000 in
set_option maxHeartbeats 2000000 in
theorem cl_iinc {l : Launch} {n d y pc : Nat} {i : Nat} {k : Int} {len ia ib ic : Nat} {z : Int} {sw : List (Int × Nat)} {kc ks : Nat} {ls : mLs} {st : List mV} {H : mH} {K : mK} (hw : okRow (y, pc, .iinc i k, len, (ia, ib, ic), z, sw) = true) (hstep : stepW n (Pr l n) (ent (Pr l n)) d (y, pc, .iinc i k, len, (ia, ib, ic), z, sw) kc ks ls st H K) : Pr l n d y pc kc ks ls st H K := by
  obtain ⟨hdec, hins, hyl⟩ := okRow_sp hw
  simp only [okIns, Bool.and_eq_true, Bool.or_eq_true, decide_eq_true_eq, beq_iff_eq] at hins
  intro p e R s m args below meth c A D ad cA HH locs cells slots lsR QF ad0 nx0 hctx hroom hnest hro hend hst hls hlv hW hS hag hnx hkc hks
  obtain ⟨hx, hb, hr, hml, hown, hts, hlk, hini, hA⟩ := id hctx
  have nxt : ∀ {pc' : Nat} {st' : List mV}, Pr l n d y pc' kc ks ls st' H K → okS H.2.2.2 st' → W p l e R s m args below meth c HH locs cells slots QF (F0 m pc' lsR (st'.map (mval ad))) := fun h ok => h p e R s m args below meth c A D ad cA HH locs cells slots lsR QF ad0 nx0 hctx hroom hnest hro hend ok hls hlv hW hS hag hnx hkc hks
  have nxtL : ∀ {pc' : Nat} {st' : List mV} {ls' : mLs} {lsR' : Array Slot}, Pr l n d y pc' kc ks ls' st' H K → okS H.2.2.2 st' → okLs H.2.2.2 ls' → lv_has lsR' (mMax y) (lvOf ad ls') → W p l e R s m args below meth c HH locs cells slots QF (F0 m pc' lsR' (st'.map (mval ad))) := fun h ok okl hl => h p e R s m args below meth c A D ad cA HH locs cells slots _ QF ad0 nx0 hctx hroom hnest hro hend ok okl hl hW hS hag hnx hkc hks
  dsimp only [stepW] at hstep
  obtain ⟨⟨⟨rfl, rfl⟩, rfl⟩, h3⟩ := hins
  obtain ⟨x, hx1, hstep⟩ := gI_inv hstep
  obtain ⟨hn, hstep⟩ := putL_inv hstep
  obtain ⟨q, hq⟩ := List.getElem?_of_mem (lvOf_mem (ad := ad) (q := (i, mval ad (vi x))).mpr ⟨vi x, hx1, rfl⟩)
  exact lv_iinc (v := Int32.ofInt (wr (x + k))) hx hb hdec hlv (k := q) hq (ofInt_add' x k) (Nat.lt_of_succ_le (Nat.le_of_ble_eq_true h3)) rfl (fun ls' hl' => nxtL hstep hst (okLs_put hls (wrV _ _)) (lv_put (v := vi (wr (x + k))) hn hl'))
set_option maxRecDepth 20000 in
set_option maxHeartbeats 2000000 in
theorem cl_iadd {l : Launch} {n d y pc : Nat} {len ia ib ic : Nat} {z : Int} {sw : List (Int × Nat)} {kc ks : Nat} {ls : mLs} {st : List mV} {H : mH} {K : mK} (hw : okRow (y, pc, .iadd, len, (ia, ib, ic), z, sw) = true) (hstep : stepW n (Pr l n) (ent (Pr l n)) d (y, pc, .iadd, len, (ia, ib, ic), z, sw) kc ks ls st H K) : Pr l n d y pc kc ks ls st H K := by
  obtain ⟨hdec, hins, hyl⟩ := okRow_sp hw
  simp only [okIns, Bool.and_eq_true, Bool.or_eq_true, decide_eq_true_eq, beq_iff_eq] at hins
  intro p e R s m args below meth c A D ad cA HH locs cells slots lsR QF ad0 nx0 hctx hroom hnest hro hend hst hls hlv hW hS hag hnx hkc hks
  obtain ⟨hx, hb, hr, hml, hown, hts, hlk, hini, hA⟩ := id hctx
  have nxt : ∀ {pc' : Nat} {st' : List mV}, Pr l n d y pc' kc ks ls st' H K → okS H.2.2.2 st' → W p l e R s m args below meth c HH locs cells slots QF (F0 m pc' lsR (st'.map (mval ad))) := fun h ok => h p e R s m args below meth c A D ad cA HH locs cells slots lsR QF ad0 nx0 hctx hroom hnest hro hend ok hls hlv hW hS hag hnx hkc hks
  have nxtL : ∀ {pc' : Nat} {st' : List mV} {ls' : mLs} {lsR' : Array Slot}, Pr l n d y pc' kc ks ls' st' H K → okS H.2.2.2 st' → okLs H.2.2.2 ls' → lv_has lsR' (mMax y) (lvOf ad ls') → W p l e R s m args below meth c HH locs cells slots QF (F0 m pc' lsR' (st'.map (mval ad))) := fun h ok okl hl => h p e R s m args below meth c A D ad cA HH locs cells slots _ QF ad0 nx0 hctx hroom hnest hro hend ok okl hl hW hS hag hnx hkc hks
  dsimp only [stepW] at hstep
  obtain rfl := hins
  obtain ⟨a, b, r, rfl, hs⟩ := eII_inv hstep
  refine lv_iadd hx hb hdec ?_
  rw [ofInt_add' a b]
  exact nxt hs (okS_c (wrV _ _) (okS_t (okS_t hst)))
set_option maxRecDepth 20000 in
set_option maxHeartbeats 2000000 in
theorem cl_isub {l : Launch} {n d y pc : Nat} {len ia ib ic : Nat} {z : Int} {sw : List (Int × Nat)} {kc ks : Nat} {ls : mLs} {st : List mV} {H : mH} {K : mK} (hw : okRow (y, pc, .isub, len, (ia, ib, ic), z, sw) = true) (hstep : stepW n (Pr l n) (ent (Pr l n)) d (y, pc, .isub, len, (ia, ib, ic), z, sw) kc ks ls st H K) : Pr l n d y pc kc ks ls st H K := by
  obtain ⟨hdec, hins, hyl⟩ := okRow_sp hw
  simp only [okIns, Bool.and_eq_true, Bool.or_eq_true, decide_eq_true_eq, beq_iff_eq] at hins
  intro p e R s m args below meth c A D ad cA HH locs cells slots lsR QF ad0 nx0 hctx hroom hnest hro hend hst hls hlv hW hS hag hnx hkc hks
  obtain ⟨hx, hb, hr, hml, hown, hts, hlk, hini, hA⟩ := id hctx
  have nxt : ∀ {pc' : Nat} {st' : List mV}, Pr l n d y pc' kc ks ls st' H K → okS H.2.2.2 st' → W p l e R s m args below meth c HH locs cells slots QF (F0 m pc' lsR (st'.map (mval ad))) := fun h ok => h p e R s m args below meth c A D ad cA HH locs cells slots lsR QF ad0 nx0 hctx hroom hnest hro hend ok hls hlv hW hS hag hnx hkc hks
  have nxtL : ∀ {pc' : Nat} {st' : List mV} {ls' : mLs} {lsR' : Array Slot}, Pr l n d y pc' kc ks ls' st' H K → okS H.2.2.2 st' → okLs H.2.2.2 ls' → lv_has lsR' (mMax y) (lvOf ad ls') → W p l e R s m args below meth c HH locs cells slots QF (F0 m pc' lsR' (st'.map (mval ad))) := fun h ok okl hl => h p e R s m args below meth c A D ad cA HH locs cells slots _ QF ad0 nx0 hctx hroom hnest hro hend ok okl hl hW hS hag hnx hkc hks
  dsimp only [stepW] at hstep
  obtain rfl := hins
  obtain ⟨a, b, r, rfl, hs⟩ := eII_inv hstep
  refine lv_isub hx hb hdec ?_
  rw [ofInt_sub' a b]
  exact nxt hs (okS_c (wrV _ _) (okS_t (okS_t hst)))
set_option maxRecDepth 20000 in
set_option maxHeartbeats 2000000 in
theorem cl_imul {l : Launch} {n d y pc : Nat} {len ia ib ic : Nat} {z : Int} {sw : List (Int × Nat)} {kc ks : Nat} {ls : mLs} {st : List mV} {H : mH} {K : mK} (hw : okRow (y, pc, .imul, len, (ia, ib, ic), z, sw) = true) (hstep : stepW n (Pr l n) (ent (Pr l n)) d (y, pc, .imul, len, (ia, ib, ic), z, sw) kc ks ls st H K) : Pr l n d y pc kc ks ls st H K := by
  obtain ⟨hdec, hins, hyl⟩ := okRow_sp hw
  simp only [okIns, Bool.and_eq_true, Bool.or_eq_true, decide_eq_true_eq, beq_iff_eq] at hins
  intro p e R s m args below meth c A D ad cA HH locs cells slots lsR QF ad0 nx0 hctx hroom hnest hro hend hst hls hlv hW hS hag hnx hkc hks
  obtain ⟨hx, hb, hr, hml, hown, hts, hlk, hini, hA⟩ := id hctx
  have nxt : ∀ {pc' : Nat} {st' : List mV}, Pr l n d y pc' kc ks ls st' H K → okS H.2.2.2 st' → W p l e R s m args below meth c HH locs cells slots QF (F0 m pc' lsR (st'.map (mval ad))) := fun h ok => h p e R s m args below meth c A D ad cA HH locs cells slots lsR QF ad0 nx0 hctx hroom hnest hro hend ok hls hlv hW hS hag hnx hkc hks
  have nxtL : ∀ {pc' : Nat} {st' : List mV} {ls' : mLs} {lsR' : Array Slot}, Pr l n d y pc' kc ks ls' st' H K → okS H.2.2.2 st' → okLs H.2.2.2 ls' → lv_has lsR' (mMax y) (lvOf ad ls') → W p l e R s m args below meth c HH locs cells slots QF (F0 m pc' lsR' (st'.map (mval ad))) := fun h ok okl hl => h p e R s m args below meth c A D ad cA HH locs cells slots _ QF ad0 nx0 hctx hroom hnest hro hend ok okl hl hW hS hag hnx hkc hks
  dsimp only [stepW] at hstep
  obtain rfl := hins
  obtain ⟨a, b, r, rfl, hs⟩ := eII_inv hstep
  refine lv_imul hx hb hdec ?_
  rw [ofInt_mul' a b]
  exact nxt hs (okS_c (wrV _ _) (okS_t (okS_t hst)))
set_option maxRecDepth 20000 in
set_option maxHeartbeats 2000000 in
theorem cl_idiv {l : Launch} {n d y pc : Nat} {len ia ib ic : Nat} {z : Int} {sw : List (Int × Nat)} {kc ks : Nat} {ls : mLs} {st : List mV} {H : mH} {K : mK} (hw : okRow (y, pc, .idiv, len, (ia, ib, ic), z, sw) = true) (hstep : stepW n (Pr l n) (ent (Pr l n)) d (y, pc, .idiv, len, (ia, ib, ic), z, sw) kc ks ls st H K) : Pr l n d y pc kc ks ls st H K := by
  obtain ⟨hdec, hins, hyl⟩ := okRow_sp hw
  simp only [okIns, Bool.and_eq_true, Bool.or_eq_true, decide_eq_true_eq, beq_iff_eq] at hins
  intro p e R s m args below meth c A D ad cA HH locs cells slots lsR QF ad0 nx0 hctx hroom hnest hro hend hst hls hlv hW hS hag hnx hkc hks
  obtain ⟨hx, hb, hr, hml, hown, hts, hlk, hini, hA⟩ := id hctx
  have nxt : ∀ {pc' : Nat} {st' : List mV}, Pr l n d y pc' kc ks ls st' H K → okS H.2.2.2 st' → W p l e R s m args below meth c HH locs cells slots QF (F0 m pc' lsR (st'.map (mval ad))) := fun h ok => h p e R s m args below meth c A D ad cA HH locs cells slots lsR QF ad0 nx0 hctx hroom hnest hro hend ok hls hlv hW hS hag hnx hkc hks
  have nxtL : ∀ {pc' : Nat} {st' : List mV} {ls' : mLs} {lsR' : Array Slot}, Pr l n d y pc' kc ks ls' st' H K → okS H.2.2.2 st' → okLs H.2.2.2 ls' → lv_has lsR' (mMax y) (lvOf ad ls') → W p l e R s m args below meth c HH locs cells slots QF (F0 m pc' lsR' (st'.map (mval ad))) := fun h ok okl hl => h p e R s m args below meth c A D ad cA HH locs cells slots _ QF ad0 nx0 hctx hroom hnest hro hend ok okl hl hW hS hag hnx hkc hks
  dsimp only [stepW] at hstep
  obtain rfl := hins
  obtain ⟨a, b, r, rfl, hs0⟩ := eII_inv hstep
  obtain ⟨h0, hs⟩ := nzW_inv hs0
  have ha : okV H.2.2.2 (vi a) := okS_h (okS_t hst)
  have hb0 : okV H.2.2.2 (vi b) := okS_h hst
  refine lv_idiv hx hb hdec (fun q => h0 ((ofInt_eq hb0 (by omega)).mp (q.trans rfl))) ?_
  rw [ofInt_div' ha hb0]
  exact nxt hs (okS_c (wrV _ _) (okS_t (okS_t hst)))
set_option maxRecDepth 20000 in
set_option maxHeartbeats 2000000 in
theorem cl_irem {l : Launch} {n d y pc : Nat} {len ia ib ic : Nat} {z : Int} {sw : List (Int × Nat)} {kc ks : Nat} {ls : mLs} {st : List mV} {H : mH} {K : mK} (hw : okRow (y, pc, .irem, len, (ia, ib, ic), z, sw) = true) (hstep : stepW n (Pr l n) (ent (Pr l n)) d (y, pc, .irem, len, (ia, ib, ic), z, sw) kc ks ls st H K) : Pr l n d y pc kc ks ls st H K := by
  obtain ⟨hdec, hins, hyl⟩ := okRow_sp hw
  simp only [okIns, Bool.and_eq_true, Bool.or_eq_true, decide_eq_true_eq, beq_iff_eq] at hins
  intro p e R s m args below meth c A D ad cA HH locs cells slots lsR QF ad0 nx0 hctx hroom hnest hro hend hst hls hlv hW hS hag hnx hkc hks
  obtain ⟨hx, hb, hr, hml, hown, hts, hlk, hini, hA⟩ := id hctx
  have nxt : ∀ {pc' : Nat} {st' : List mV}, Pr l n d y pc' kc ks ls st' H K → okS H.2.2.2 st' → W p l e R s m args below meth c HH locs cells slots QF (F0 m pc' lsR (st'.map (mval ad))) := fun h ok => h p e R s m args below meth c A D ad cA HH locs cells slots lsR QF ad0 nx0 hctx hroom hnest hro hend ok hls hlv hW hS hag hnx hkc hks
  have nxtL : ∀ {pc' : Nat} {st' : List mV} {ls' : mLs} {lsR' : Array Slot}, Pr l n d y pc' kc ks ls' st' H K → okS H.2.2.2 st' → okLs H.2.2.2 ls' → lv_has lsR' (mMax y) (lvOf ad ls') → W p l e R s m args below meth c HH locs cells slots QF (F0 m pc' lsR' (st'.map (mval ad))) := fun h ok okl hl => h p e R s m args below meth c A D ad cA HH locs cells slots _ QF ad0 nx0 hctx hroom hnest hro hend ok okl hl hW hS hag hnx hkc hks
  dsimp only [stepW] at hstep
  obtain rfl := hins
  obtain ⟨a, b, r, rfl, hs0⟩ := eII_inv hstep
  obtain ⟨h0, hs⟩ := nzW_inv hs0
  have ha : okV H.2.2.2 (vi a) := okS_h (okS_t hst)
  have hb0 : okV H.2.2.2 (vi b) := okS_h hst
  refine lv_irem hx hb hdec (fun q => h0 ((ofInt_eq hb0 (by omega)).mp (q.trans rfl))) ?_
  rw [ofInt_rem' ha hb0]
  exact nxt hs (okS_c (tmod_rng ha hb0) (okS_t (okS_t hst)))
set_option maxRecDepth 20000 in
set_option maxHeartbeats 2000000 in
theorem cl_ineg {l : Launch} {n d y pc : Nat} {len ia ib ic : Nat} {z : Int} {sw : List (Int × Nat)} {kc ks : Nat} {ls : mLs} {st : List mV} {H : mH} {K : mK} (hw : okRow (y, pc, .ineg, len, (ia, ib, ic), z, sw) = true) (hstep : stepW n (Pr l n) (ent (Pr l n)) d (y, pc, .ineg, len, (ia, ib, ic), z, sw) kc ks ls st H K) : Pr l n d y pc kc ks ls st H K := by
  obtain ⟨hdec, hins, hyl⟩ := okRow_sp hw
  simp only [okIns, Bool.and_eq_true, Bool.or_eq_true, decide_eq_true_eq, beq_iff_eq] at hins
  intro p e R s m args below meth c A D ad cA HH locs cells slots lsR QF ad0 nx0 hctx hroom hnest hro hend hst hls hlv hW hS hag hnx hkc hks
  obtain ⟨hx, hb, hr, hml, hown, hts, hlk, hini, hA⟩ := id hctx
  have nxt : ∀ {pc' : Nat} {st' : List mV}, Pr l n d y pc' kc ks ls st' H K → okS H.2.2.2 st' → W p l e R s m args below meth c HH locs cells slots QF (F0 m pc' lsR (st'.map (mval ad))) := fun h ok => h p e R s m args below meth c A D ad cA HH locs cells slots lsR QF ad0 nx0 hctx hroom hnest hro hend ok hls hlv hW hS hag hnx hkc hks
  have nxtL : ∀ {pc' : Nat} {st' : List mV} {ls' : mLs} {lsR' : Array Slot}, Pr l n d y pc' kc ks ls' st' H K → okS H.2.2.2 st' → okLs H.2.2.2 ls' → lv_has lsR' (mMax y) (lvOf ad ls') → W p l e R s m args below meth c HH locs cells slots QF (F0 m pc' lsR' (st'.map (mval ad))) := fun h ok okl hl => h p e R s m args below meth c A D ad cA HH locs cells slots _ QF ad0 nx0 hctx hroom hnest hro hend ok okl hl hW hS hag hnx hkc hks
  dsimp only [stepW] at hstep
  obtain rfl := hins
  obtain ⟨a, r, rfl, hs⟩ := eI_inv hstep
  refine lv_ineg hx hb hdec ?_
  rw [ofInt_neg' a]
  exact nxt hs (okS_c (wrV _ _) (okS_t hst))
set_option maxRecDepth 20000 in
set_option maxHeartbeats 2000000 in
theorem cl_ishl {l : Launch} {n d y pc : Nat} {len ia ib ic : Nat} {z : Int} {sw : List (Int × Nat)} {kc ks : Nat} {ls : mLs} {st : List mV} {H : mH} {K : mK} (hw : okRow (y, pc, .ishl, len, (ia, ib, ic), z, sw) = true) (hstep : stepW n (Pr l n) (ent (Pr l n)) d (y, pc, .ishl, len, (ia, ib, ic), z, sw) kc ks ls st H K) : Pr l n d y pc kc ks ls st H K := by
  obtain ⟨hdec, hins, hyl⟩ := okRow_sp hw
  simp only [okIns, Bool.and_eq_true, Bool.or_eq_true, decide_eq_true_eq, beq_iff_eq] at hins
  intro p e R s m args below meth c A D ad cA HH locs cells slots lsR QF ad0 nx0 hctx hroom hnest hro hend hst hls hlv hW hS hag hnx hkc hks
  obtain ⟨hx, hb, hr, hml, hown, hts, hlk, hini, hA⟩ := id hctx
  have nxt : ∀ {pc' : Nat} {st' : List mV}, Pr l n d y pc' kc ks ls st' H K → okS H.2.2.2 st' → W p l e R s m args below meth c HH locs cells slots QF (F0 m pc' lsR (st'.map (mval ad))) := fun h ok => h p e R s m args below meth c A D ad cA HH locs cells slots lsR QF ad0 nx0 hctx hroom hnest hro hend ok hls hlv hW hS hag hnx hkc hks
  have nxtL : ∀ {pc' : Nat} {st' : List mV} {ls' : mLs} {lsR' : Array Slot}, Pr l n d y pc' kc ks ls' st' H K → okS H.2.2.2 st' → okLs H.2.2.2 ls' → lv_has lsR' (mMax y) (lvOf ad ls') → W p l e R s m args below meth c HH locs cells slots QF (F0 m pc' lsR' (st'.map (mval ad))) := fun h ok okl hl => h p e R s m args below meth c A D ad cA HH locs cells slots _ QF ad0 nx0 hctx hroom hnest hro hend ok okl hl hW hS hag hnx hkc hks
  dsimp only [stepW] at hstep
  obtain rfl := hins
  obtain ⟨a, b, r, rfl, hs⟩ := eII_inv hstep
  refine lv_ishl hx hb hdec ?_
  rw [ofInt_b (Int32.ofInt a <<< (Int32.ofInt b &&& 31))]
  exact nxt hs (okS_c (i32V _ _) (okS_t (okS_t hst)))
set_option maxRecDepth 20000 in
set_option maxHeartbeats 2000000 in
theorem cl_ishr {l : Launch} {n d y pc : Nat} {len ia ib ic : Nat} {z : Int} {sw : List (Int × Nat)} {kc ks : Nat} {ls : mLs} {st : List mV} {H : mH} {K : mK} (hw : okRow (y, pc, .ishr, len, (ia, ib, ic), z, sw) = true) (hstep : stepW n (Pr l n) (ent (Pr l n)) d (y, pc, .ishr, len, (ia, ib, ic), z, sw) kc ks ls st H K) : Pr l n d y pc kc ks ls st H K := by
  obtain ⟨hdec, hins, hyl⟩ := okRow_sp hw
  simp only [okIns, Bool.and_eq_true, Bool.or_eq_true, decide_eq_true_eq, beq_iff_eq] at hins
  intro p e R s m args below meth c A D ad cA HH locs cells slots lsR QF ad0 nx0 hctx hroom hnest hro hend hst hls hlv hW hS hag hnx hkc hks
  obtain ⟨hx, hb, hr, hml, hown, hts, hlk, hini, hA⟩ := id hctx
  have nxt : ∀ {pc' : Nat} {st' : List mV}, Pr l n d y pc' kc ks ls st' H K → okS H.2.2.2 st' → W p l e R s m args below meth c HH locs cells slots QF (F0 m pc' lsR (st'.map (mval ad))) := fun h ok => h p e R s m args below meth c A D ad cA HH locs cells slots lsR QF ad0 nx0 hctx hroom hnest hro hend ok hls hlv hW hS hag hnx hkc hks
  have nxtL : ∀ {pc' : Nat} {st' : List mV} {ls' : mLs} {lsR' : Array Slot}, Pr l n d y pc' kc ks ls' st' H K → okS H.2.2.2 st' → okLs H.2.2.2 ls' → lv_has lsR' (mMax y) (lvOf ad ls') → W p l e R s m args below meth c HH locs cells slots QF (F0 m pc' lsR' (st'.map (mval ad))) := fun h ok okl hl => h p e R s m args below meth c A D ad cA HH locs cells slots _ QF ad0 nx0 hctx hroom hnest hro hend ok okl hl hW hS hag hnx hkc hks
  dsimp only [stepW] at hstep
  obtain rfl := hins
  obtain ⟨a, b, r, rfl, hs⟩ := eII_inv hstep
  refine lv_ishr hx hb hdec ?_
  rw [ofInt_b (Int32.ofInt a >>> (Int32.ofInt b &&& 31))]
  exact nxt hs (okS_c (i32V _ _) (okS_t (okS_t hst)))
set_option maxRecDepth 20000 in
set_option maxHeartbeats 2000000 in
theorem cl_iand {l : Launch} {n d y pc : Nat} {len ia ib ic : Nat} {z : Int} {sw : List (Int × Nat)} {kc ks : Nat} {ls : mLs} {st : List mV} {H : mH} {K : mK} (hw : okRow (y, pc, .iand, len, (ia, ib, ic), z, sw) = true) (hstep : stepW n (Pr l n) (ent (Pr l n)) d (y, pc, .iand, len, (ia, ib, ic), z, sw) kc ks ls st H K) : Pr l n d y pc kc ks ls st H K := by
  obtain ⟨hdec, hins, hyl⟩ := okRow_sp hw
  simp only [okIns, Bool.and_eq_true, Bool.or_eq_true, decide_eq_true_eq, beq_iff_eq] at hins
  intro p e R s m args below meth c A D ad cA HH locs cells slots lsR QF ad0 nx0 hctx hroom hnest hro hend hst hls hlv hW hS hag hnx hkc hks
  obtain ⟨hx, hb, hr, hml, hown, hts, hlk, hini, hA⟩ := id hctx
  have nxt : ∀ {pc' : Nat} {st' : List mV}, Pr l n d y pc' kc ks ls st' H K → okS H.2.2.2 st' → W p l e R s m args below meth c HH locs cells slots QF (F0 m pc' lsR (st'.map (mval ad))) := fun h ok => h p e R s m args below meth c A D ad cA HH locs cells slots lsR QF ad0 nx0 hctx hroom hnest hro hend ok hls hlv hW hS hag hnx hkc hks
  have nxtL : ∀ {pc' : Nat} {st' : List mV} {ls' : mLs} {lsR' : Array Slot}, Pr l n d y pc' kc ks ls' st' H K → okS H.2.2.2 st' → okLs H.2.2.2 ls' → lv_has lsR' (mMax y) (lvOf ad ls') → W p l e R s m args below meth c HH locs cells slots QF (F0 m pc' lsR' (st'.map (mval ad))) := fun h ok okl hl => h p e R s m args below meth c A D ad cA HH locs cells slots _ QF ad0 nx0 hctx hroom hnest hro hend ok okl hl hW hS hag hnx hkc hks
  dsimp only [stepW] at hstep
  obtain rfl := hins
  obtain ⟨a, b, r, rfl, hs⟩ := eII_inv hstep
  refine lv_iand hx hb hdec ?_
  rw [ofInt_b (Int32.ofInt a &&& Int32.ofInt b)]
  exact nxt hs (okS_c (i32V _ _) (okS_t (okS_t hst)))
set_option maxRecDepth 20000 in
set_option maxHeartbeats 2000000 in
theorem cl_ior {l : Launch} {n d y pc : Nat} {len ia ib ic : Nat} {z : Int} {sw : List (Int × Nat)} {kc ks : Nat} {ls : mLs} {st : List mV} {H : mH} {K : mK} (hw : okRow (y, pc, .ior, len, (ia, ib, ic), z, sw) = true) (hstep : stepW n (Pr l n) (ent (Pr l n)) d (y, pc, .ior, len, (ia, ib, ic), z, sw) kc ks ls st H K) : Pr l n d y pc kc ks ls st H K := by
  obtain ⟨hdec, hins, hyl⟩ := okRow_sp hw
  simp only [okIns, Bool.and_eq_true, Bool.or_eq_true, decide_eq_true_eq, beq_iff_eq] at hins
  intro p e R s m args below meth c A D ad cA HH locs cells slots lsR QF ad0 nx0 hctx hroom hnest hro hend hst hls hlv hW hS hag hnx hkc hks
  obtain ⟨hx, hb, hr, hml, hown, hts, hlk, hini, hA⟩ := id hctx
  have nxt : ∀ {pc' : Nat} {st' : List mV}, Pr l n d y pc' kc ks ls st' H K → okS H.2.2.2 st' → W p l e R s m args below meth c HH locs cells slots QF (F0 m pc' lsR (st'.map (mval ad))) := fun h ok => h p e R s m args below meth c A D ad cA HH locs cells slots lsR QF ad0 nx0 hctx hroom hnest hro hend ok hls hlv hW hS hag hnx hkc hks
  have nxtL : ∀ {pc' : Nat} {st' : List mV} {ls' : mLs} {lsR' : Array Slot}, Pr l n d y pc' kc ks ls' st' H K → okS H.2.2.2 st' → okLs H.2.2.2 ls' → lv_has lsR' (mMax y) (lvOf ad ls') → W p l e R s m args below meth c HH locs cells slots QF (F0 m pc' lsR' (st'.map (mval ad))) := fun h ok okl hl => h p e R s m args below meth c A D ad cA HH locs cells slots _ QF ad0 nx0 hctx hroom hnest hro hend ok okl hl hW hS hag hnx hkc hks
  dsimp only [stepW] at hstep
  obtain rfl := hins
  obtain ⟨a, b, r, rfl, hs⟩ := eII_inv hstep
  refine lv_ior hx hb hdec ?_
  rw [ofInt_b (Int32.ofInt a ||| Int32.ofInt b)]
  exact nxt hs (okS_c (i32V _ _) (okS_t (okS_t hst)))
set_option maxRecDepth 20000 in
set_option maxHeartbeats 2000000 in
theorem cl_ixor {l : Launch} {n d y pc : Nat} {len ia ib ic : Nat} {z : Int} {sw : List (Int × Nat)} {kc ks : Nat} {ls : mLs} {st : List mV} {H : mH} {K : mK} (hw : okRow (y, pc, .ixor, len, (ia, ib, ic), z, sw) = true) (hstep : stepW n (Pr l n) (ent (Pr l n)) d (y, pc, .ixor, len, (ia, ib, ic), z, sw) kc ks ls st H K) : Pr l n d y pc kc ks ls st H K := by
  obtain ⟨hdec, hins, hyl⟩ := okRow_sp hw
  simp only [okIns, Bool.and_eq_true, Bool.or_eq_true, decide_eq_true_eq, beq_iff_eq] at hins
  intro p e R s m args below meth c A D ad cA HH locs cells slots lsR QF ad0 nx0 hctx hroom hnest hro hend hst hls hlv hW hS hag hnx hkc hks
  obtain ⟨hx, hb, hr, hml, hown, hts, hlk, hini, hA⟩ := id hctx
  have nxt : ∀ {pc' : Nat} {st' : List mV}, Pr l n d y pc' kc ks ls st' H K → okS H.2.2.2 st' → W p l e R s m args below meth c HH locs cells slots QF (F0 m pc' lsR (st'.map (mval ad))) := fun h ok => h p e R s m args below meth c A D ad cA HH locs cells slots lsR QF ad0 nx0 hctx hroom hnest hro hend ok hls hlv hW hS hag hnx hkc hks
  have nxtL : ∀ {pc' : Nat} {st' : List mV} {ls' : mLs} {lsR' : Array Slot}, Pr l n d y pc' kc ks ls' st' H K → okS H.2.2.2 st' → okLs H.2.2.2 ls' → lv_has lsR' (mMax y) (lvOf ad ls') → W p l e R s m args below meth c HH locs cells slots QF (F0 m pc' lsR' (st'.map (mval ad))) := fun h ok okl hl => h p e R s m args below meth c A D ad cA HH locs cells slots _ QF ad0 nx0 hctx hroom hnest hro hend ok okl hl hW hS hag hnx hkc hks
  dsimp only [stepW] at hstep
  obtain rfl := hins
  obtain ⟨a, b, r, rfl, hs⟩ := eII_inv hstep
  refine lv_ixor hx hb hdec ?_
  rw [ofInt_b (Int32.ofInt a ^^^ Int32.ofInt b)]
  exact nxt hs (okS_c (i32V _ _) (okS_t (okS_t hst)))
set_option maxRecDepth 20000 in
set_option maxHeartbeats 2000000 in
theorem cl_iushr {l : Launch} {n d y pc : Nat} {len ia ib ic : Nat} {z : Int} {sw : List (Int × Nat)} {kc ks : Nat} {ls : mLs} {st : List mV} {H : mH} {K : mK} (hw : okRow (y, pc, .iushr, len, (ia, ib, ic), z, sw) = true) (hstep : stepW n (Pr l n) (ent (Pr l n)) d (y, pc, .iushr, len, (ia, ib, ic), z, sw) kc ks ls st H K) : Pr l n d y pc kc ks ls st H K := by
  obtain ⟨hdec, hins, hyl⟩ := okRow_sp hw
  simp only [okIns, Bool.and_eq_true, Bool.or_eq_true, decide_eq_true_eq, beq_iff_eq] at hins
  intro p e R s m args below meth c A D ad cA HH locs cells slots lsR QF ad0 nx0 hctx hroom hnest hro hend hst hls hlv hW hS hag hnx hkc hks
  obtain ⟨hx, hb, hr, hml, hown, hts, hlk, hini, hA⟩ := id hctx
  have nxt : ∀ {pc' : Nat} {st' : List mV}, Pr l n d y pc' kc ks ls st' H K → okS H.2.2.2 st' → W p l e R s m args below meth c HH locs cells slots QF (F0 m pc' lsR (st'.map (mval ad))) := fun h ok => h p e R s m args below meth c A D ad cA HH locs cells slots lsR QF ad0 nx0 hctx hroom hnest hro hend ok hls hlv hW hS hag hnx hkc hks
  have nxtL : ∀ {pc' : Nat} {st' : List mV} {ls' : mLs} {lsR' : Array Slot}, Pr l n d y pc' kc ks ls' st' H K → okS H.2.2.2 st' → okLs H.2.2.2 ls' → lv_has lsR' (mMax y) (lvOf ad ls') → W p l e R s m args below meth c HH locs cells slots QF (F0 m pc' lsR' (st'.map (mval ad))) := fun h ok okl hl => h p e R s m args below meth c A D ad cA HH locs cells slots _ QF ad0 nx0 hctx hroom hnest hro hend ok okl hl hW hS hag hnx hkc hks
  dsimp only [stepW] at hstep
  obtain rfl := hins
  obtain ⟨a, b, r, rfl, hs⟩ := eII_inv hstep
  exact lv_iushr hx hb hdec (ofInt_b _) (nxt hs (okS_c (i32V _ _) (okS_t (okS_t hst))))
set_option maxRecDepth 20000 in
set_option maxHeartbeats 2000000 in
theorem cl_i2l {l : Launch} {n d y pc : Nat} {len ia ib ic : Nat} {z : Int} {sw : List (Int × Nat)} {kc ks : Nat} {ls : mLs} {st : List mV} {H : mH} {K : mK} (hw : okRow (y, pc, .i2l, len, (ia, ib, ic), z, sw) = true) (hstep : stepW n (Pr l n) (ent (Pr l n)) d (y, pc, .i2l, len, (ia, ib, ic), z, sw) kc ks ls st H K) : Pr l n d y pc kc ks ls st H K := by
  obtain ⟨hdec, hins, hyl⟩ := okRow_sp hw
  simp only [okIns, Bool.and_eq_true, Bool.or_eq_true, decide_eq_true_eq, beq_iff_eq] at hins
  intro p e R s m args below meth c A D ad cA HH locs cells slots lsR QF ad0 nx0 hctx hroom hnest hro hend hst hls hlv hW hS hag hnx hkc hks
  obtain ⟨hx, hb, hr, hml, hown, hts, hlk, hini, hA⟩ := id hctx
  have nxt : ∀ {pc' : Nat} {st' : List mV}, Pr l n d y pc' kc ks ls st' H K → okS H.2.2.2 st' → W p l e R s m args below meth c HH locs cells slots QF (F0 m pc' lsR (st'.map (mval ad))) := fun h ok => h p e R s m args below meth c A D ad cA HH locs cells slots lsR QF ad0 nx0 hctx hroom hnest hro hend ok hls hlv hW hS hag hnx hkc hks
  have nxtL : ∀ {pc' : Nat} {st' : List mV} {ls' : mLs} {lsR' : Array Slot}, Pr l n d y pc' kc ks ls' st' H K → okS H.2.2.2 st' → okLs H.2.2.2 ls' → lv_has lsR' (mMax y) (lvOf ad ls') → W p l e R s m args below meth c HH locs cells slots QF (F0 m pc' lsR' (st'.map (mval ad))) := fun h ok okl hl => h p e R s m args below meth c A D ad cA HH locs cells slots _ QF ad0 nx0 hctx hroom hnest hro hend ok okl hl hW hS hag hnx hkc hks
  dsimp only [stepW] at hstep
  obtain rfl := hins
  obtain ⟨a, r, rfl, hs⟩ := eI_inv hstep
  have ha : okV H.2.2.2 (vi a) := okS_h hst
  exact lv_i2l hx hb hdec (ofInt_toInt64 ha) (nxt hs (okS_c trivial (okS_t hst)))
set_option maxRecDepth 20000 in
set_option maxHeartbeats 2000000 in
theorem cl_l2i {l : Launch} {n d y pc : Nat} {len ia ib ic : Nat} {z : Int} {sw : List (Int × Nat)} {kc ks : Nat} {ls : mLs} {st : List mV} {H : mH} {K : mK} (hw : okRow (y, pc, .l2i, len, (ia, ib, ic), z, sw) = true) (hstep : stepW n (Pr l n) (ent (Pr l n)) d (y, pc, .l2i, len, (ia, ib, ic), z, sw) kc ks ls st H K) : Pr l n d y pc kc ks ls st H K := by
  obtain ⟨hdec, hins, hyl⟩ := okRow_sp hw
  simp only [okIns, Bool.and_eq_true, Bool.or_eq_true, decide_eq_true_eq, beq_iff_eq] at hins
  intro p e R s m args below meth c A D ad cA HH locs cells slots lsR QF ad0 nx0 hctx hroom hnest hro hend hst hls hlv hW hS hag hnx hkc hks
  obtain ⟨hx, hb, hr, hml, hown, hts, hlk, hini, hA⟩ := id hctx
  have nxt : ∀ {pc' : Nat} {st' : List mV}, Pr l n d y pc' kc ks ls st' H K → okS H.2.2.2 st' → W p l e R s m args below meth c HH locs cells slots QF (F0 m pc' lsR (st'.map (mval ad))) := fun h ok => h p e R s m args below meth c A D ad cA HH locs cells slots lsR QF ad0 nx0 hctx hroom hnest hro hend ok hls hlv hW hS hag hnx hkc hks
  have nxtL : ∀ {pc' : Nat} {st' : List mV} {ls' : mLs} {lsR' : Array Slot}, Pr l n d y pc' kc ks ls' st' H K → okS H.2.2.2 st' → okLs H.2.2.2 ls' → lv_has lsR' (mMax y) (lvOf ad ls') → W p l e R s m args below meth c HH locs cells slots QF (F0 m pc' lsR' (st'.map (mval ad))) := fun h ok okl hl => h p e R s m args below meth c A D ad cA HH locs cells slots _ QF ad0 nx0 hctx hroom hnest hro hend ok okl hl hW hS hag hnx hkc hks
  dsimp only [stepW] at hstep
  obtain rfl := hins
  obtain ⟨a, r, rfl, hs⟩ := eL_inv hstep
  exact lv_l2i hx hb hdec (ofInt_b _) (nxt hs (okS_c (i32V _ _) (okS_t hst)))
set_option maxRecDepth 20000 in
set_option maxHeartbeats 2000000 in
theorem cl_i2b {l : Launch} {n d y pc : Nat} {len ia ib ic : Nat} {z : Int} {sw : List (Int × Nat)} {kc ks : Nat} {ls : mLs} {st : List mV} {H : mH} {K : mK} (hw : okRow (y, pc, .i2b, len, (ia, ib, ic), z, sw) = true) (hstep : stepW n (Pr l n) (ent (Pr l n)) d (y, pc, .i2b, len, (ia, ib, ic), z, sw) kc ks ls st H K) : Pr l n d y pc kc ks ls st H K := by
  obtain ⟨hdec, hins, hyl⟩ := okRow_sp hw
  simp only [okIns, Bool.and_eq_true, Bool.or_eq_true, decide_eq_true_eq, beq_iff_eq] at hins
  intro p e R s m args below meth c A D ad cA HH locs cells slots lsR QF ad0 nx0 hctx hroom hnest hro hend hst hls hlv hW hS hag hnx hkc hks
  obtain ⟨hx, hb, hr, hml, hown, hts, hlk, hini, hA⟩ := id hctx
  have nxt : ∀ {pc' : Nat} {st' : List mV}, Pr l n d y pc' kc ks ls st' H K → okS H.2.2.2 st' → W p l e R s m args below meth c HH locs cells slots QF (F0 m pc' lsR (st'.map (mval ad))) := fun h ok => h p e R s m args below meth c A D ad cA HH locs cells slots lsR QF ad0 nx0 hctx hroom hnest hro hend ok hls hlv hW hS hag hnx hkc hks
  have nxtL : ∀ {pc' : Nat} {st' : List mV} {ls' : mLs} {lsR' : Array Slot}, Pr l n d y pc' kc ks ls' st' H K → okS H.2.2.2 st' → okLs H.2.2.2 ls' → lv_has lsR' (mMax y) (lvOf ad ls') → W p l e R s m args below meth c HH locs cells slots QF (F0 m pc' lsR' (st'.map (mval ad))) := fun h ok okl hl => h p e R s m args below meth c A D ad cA HH locs cells slots _ QF ad0 nx0 hctx hroom hnest hro hend ok okl hl hW hS hag hnx hkc hks
  dsimp only [stepW] at hstep
  obtain rfl := hins
  obtain ⟨a, r, rfl, hs⟩ := eI_inv hstep
  exact lv_i2b hx hb hdec (ofInt_b _) (nxt hs (okS_c (i32V _ _) (okS_t hst)))
set_option maxRecDepth 20000 in
set_option maxHeartbeats 2000000 in
theorem cl_i2s {l : Launch} {n d y pc : Nat} {len ia ib ic : Nat} {z : Int} {sw : List (Int × Nat)} {kc ks : Nat} {ls : mLs} {st : List mV} {H : mH} {K : mK} (hw : okRow (y, pc, .i2s, len, (ia, ib, ic), z, sw) = true) (hstep : stepW n (Pr l n) (ent (Pr l n)) d (y, pc, .i2s, len, (ia, ib, ic), z, sw) kc ks ls st H K) : Pr l n d y pc kc ks ls st H K := by
  obtain ⟨hdec, hins, hyl⟩ := okRow_sp hw
  simp only [okIns, Bool.and_eq_true, Bool.or_eq_true, decide_eq_true_eq, beq_iff_eq] at hins
  intro p e R s m args below meth c A D ad cA HH locs cells slots lsR QF ad0 nx0 hctx hroom hnest hro hend hst hls hlv hW hS hag hnx hkc hks
  obtain ⟨hx, hb, hr, hml, hown, hts, hlk, hini, hA⟩ := id hctx
  have nxt : ∀ {pc' : Nat} {st' : List mV}, Pr l n d y pc' kc ks ls st' H K → okS H.2.2.2 st' → W p l e R s m args below meth c HH locs cells slots QF (F0 m pc' lsR (st'.map (mval ad))) := fun h ok => h p e R s m args below meth c A D ad cA HH locs cells slots lsR QF ad0 nx0 hctx hroom hnest hro hend ok hls hlv hW hS hag hnx hkc hks
  have nxtL : ∀ {pc' : Nat} {st' : List mV} {ls' : mLs} {lsR' : Array Slot}, Pr l n d y pc' kc ks ls' st' H K → okS H.2.2.2 st' → okLs H.2.2.2 ls' → lv_has lsR' (mMax y) (lvOf ad ls') → W p l e R s m args below meth c HH locs cells slots QF (F0 m pc' lsR' (st'.map (mval ad))) := fun h ok okl hl => h p e R s m args below meth c A D ad cA HH locs cells slots _ QF ad0 nx0 hctx hroom hnest hro hend ok okl hl hW hS hag hnx hkc hks
  dsimp only [stepW] at hstep
  obtain rfl := hins
  obtain ⟨a, r, rfl, hs⟩ := eI_inv hstep
  exact lv_i2s hx hb hdec (ofInt_b _) (nxt hs (okS_c (i32V _ _) (okS_t hst)))
set_option maxRecDepth 20000 in
set_option maxHeartbeats 2000000 in
theorem cl_i2c {l : Launch} {n d y pc : Nat} {len ia ib ic : Nat} {z : Int} {sw : List (Int × Nat)} {kc ks : Nat} {ls : mLs} {st : List mV} {H : mH} {K : mK} (hw : okRow (y, pc, .i2c, len, (ia, ib, ic), z, sw) = true) (hstep : stepW n (Pr l n) (ent (Pr l n)) d (y, pc, .i2c, len, (ia, ib, ic), z, sw) kc ks ls st H K) : Pr l n d y pc kc ks ls st H K := by
  obtain ⟨hdec, hins, hyl⟩ := okRow_sp hw
  simp only [okIns, Bool.and_eq_true, Bool.or_eq_true, decide_eq_true_eq, beq_iff_eq] at hins
  intro p e R s m args below meth c A D ad cA HH locs cells slots lsR QF ad0 nx0 hctx hroom hnest hro hend hst hls hlv hW hS hag hnx hkc hks
  obtain ⟨hx, hb, hr, hml, hown, hts, hlk, hini, hA⟩ := id hctx
  have nxt : ∀ {pc' : Nat} {st' : List mV}, Pr l n d y pc' kc ks ls st' H K → okS H.2.2.2 st' → W p l e R s m args below meth c HH locs cells slots QF (F0 m pc' lsR (st'.map (mval ad))) := fun h ok => h p e R s m args below meth c A D ad cA HH locs cells slots lsR QF ad0 nx0 hctx hroom hnest hro hend ok hls hlv hW hS hag hnx hkc hks
  have nxtL : ∀ {pc' : Nat} {st' : List mV} {ls' : mLs} {lsR' : Array Slot}, Pr l n d y pc' kc ks ls' st' H K → okS H.2.2.2 st' → okLs H.2.2.2 ls' → lv_has lsR' (mMax y) (lvOf ad ls') → W p l e R s m args below meth c HH locs cells slots QF (F0 m pc' lsR' (st'.map (mval ad))) := fun h ok okl hl => h p e R s m args below meth c A D ad cA HH locs cells slots _ QF ad0 nx0 hctx hroom hnest hro hend ok okl hl hW hS hag hnx hkc hks
  dsimp only [stepW] at hstep
  obtain rfl := hins
  obtain ⟨a, r, rfl, hs⟩ := eI_inv hstep
  exact lv_i2c hx hb hdec (ofInt_b _) (nxt hs (okS_c (i32V _ _) (okS_t hst)))
set_option maxRecDepth 20000 in
set_option maxHeartbeats 2000000 in
theorem cl_lcmp {l : Launch} {n d y pc : Nat} {len ia ib ic : Nat} {z : Int} {sw : List (Int × Nat)} {kc ks : Nat} {ls : mLs} {st : List mV} {H : mH} {K : mK} (hw : okRow (y, pc, .lcmp, len, (ia, ib, ic), z, sw) = true) (hstep : stepW n (Pr l n) (ent (Pr l n)) d (y, pc, .lcmp, len, (ia, ib, ic), z, sw) kc ks ls st H K) : Pr l n d y pc kc ks ls st H K := by
  obtain ⟨hdec, hins, hyl⟩ := okRow_sp hw
  simp only [okIns, Bool.and_eq_true, Bool.or_eq_true, decide_eq_true_eq, beq_iff_eq] at hins
  intro p e R s m args below meth c A D ad cA HH locs cells slots lsR QF ad0 nx0 hctx hroom hnest hro hend hst hls hlv hW hS hag hnx hkc hks
  obtain ⟨hx, hb, hr, hml, hown, hts, hlk, hini, hA⟩ := id hctx
  have nxt : ∀ {pc' : Nat} {st' : List mV}, Pr l n d y pc' kc ks ls st' H K → okS H.2.2.2 st' → W p l e R s m args below meth c HH locs cells slots QF (F0 m pc' lsR (st'.map (mval ad))) := fun h ok => h p e R s m args below meth c A D ad cA HH locs cells slots lsR QF ad0 nx0 hctx hroom hnest hro hend ok hls hlv hW hS hag hnx hkc hks
  have nxtL : ∀ {pc' : Nat} {st' : List mV} {ls' : mLs} {lsR' : Array Slot}, Pr l n d y pc' kc ks ls' st' H K → okS H.2.2.2 st' → okLs H.2.2.2 ls' → lv_has lsR' (mMax y) (lvOf ad ls') → W p l e R s m args below meth c HH locs cells slots QF (F0 m pc' lsR' (st'.map (mval ad))) := fun h ok okl hl => h p e R s m args below meth c A D ad cA HH locs cells slots _ QF ad0 nx0 hctx hroom hnest hro hend ok okl hl hW hS hag hnx hkc hks
  dsimp only [stepW] at hstep
  obtain rfl := hins
  obtain ⟨a, b, r, rfl, hs⟩ := eLL_inv hstep
  refine W.lcmp hx hb hdec ?_
  rw [ofInt_b (lg_cmp a b)]
  exact nxt hs (okS_c (i32V _ _) (okS_t (okS_t hst)))
set_option maxRecDepth 20000 in
set_option maxHeartbeats 2000000 in
theorem cl_lshl {l : Launch} {n d y pc : Nat} {len ia ib ic : Nat} {z : Int} {sw : List (Int × Nat)} {kc ks : Nat} {ls : mLs} {st : List mV} {H : mH} {K : mK} (hw : okRow (y, pc, .lshl, len, (ia, ib, ic), z, sw) = true) (hstep : stepW n (Pr l n) (ent (Pr l n)) d (y, pc, .lshl, len, (ia, ib, ic), z, sw) kc ks ls st H K) : Pr l n d y pc kc ks ls st H K := by
  obtain ⟨hdec, hins, hyl⟩ := okRow_sp hw
  simp only [okIns, Bool.and_eq_true, Bool.or_eq_true, decide_eq_true_eq, beq_iff_eq] at hins
  intro p e R s m args below meth c A D ad cA HH locs cells slots lsR QF ad0 nx0 hctx hroom hnest hro hend hst hls hlv hW hS hag hnx hkc hks
  obtain ⟨hx, hb, hr, hml, hown, hts, hlk, hini, hA⟩ := id hctx
  have nxt : ∀ {pc' : Nat} {st' : List mV}, Pr l n d y pc' kc ks ls st' H K → okS H.2.2.2 st' → W p l e R s m args below meth c HH locs cells slots QF (F0 m pc' lsR (st'.map (mval ad))) := fun h ok => h p e R s m args below meth c A D ad cA HH locs cells slots lsR QF ad0 nx0 hctx hroom hnest hro hend ok hls hlv hW hS hag hnx hkc hks
  have nxtL : ∀ {pc' : Nat} {st' : List mV} {ls' : mLs} {lsR' : Array Slot}, Pr l n d y pc' kc ks ls' st' H K → okS H.2.2.2 st' → okLs H.2.2.2 ls' → lv_has lsR' (mMax y) (lvOf ad ls') → W p l e R s m args below meth c HH locs cells slots QF (F0 m pc' lsR' (st'.map (mval ad))) := fun h ok okl hl => h p e R s m args below meth c A D ad cA HH locs cells slots _ QF ad0 nx0 hctx hroom hnest hro hend ok okl hl hW hS hag hnx hkc hks
  dsimp only [stepW] at hstep
  obtain rfl := hins
  obtain ⟨a, b, r, rfl, hs⟩ := eLI_inv hstep
  have hb0 : okV H.2.2.2 (vi b) := okS_h hst
  exact lv_lshl hx hb hdec (by rw [ofInt_toInt64 hb0]) (nxt hs (okS_c trivial (okS_t (okS_t hst))))
set_option maxRecDepth 20000 in
set_option maxHeartbeats 2000000 in
theorem cl_lor {l : Launch} {n d y pc : Nat} {len ia ib ic : Nat} {z : Int} {sw : List (Int × Nat)} {kc ks : Nat} {ls : mLs} {st : List mV} {H : mH} {K : mK} (hw : okRow (y, pc, .lor, len, (ia, ib, ic), z, sw) = true) (hstep : stepW n (Pr l n) (ent (Pr l n)) d (y, pc, .lor, len, (ia, ib, ic), z, sw) kc ks ls st H K) : Pr l n d y pc kc ks ls st H K := by
  obtain ⟨hdec, hins, hyl⟩ := okRow_sp hw
  simp only [okIns, Bool.and_eq_true, Bool.or_eq_true, decide_eq_true_eq, beq_iff_eq] at hins
  intro p e R s m args below meth c A D ad cA HH locs cells slots lsR QF ad0 nx0 hctx hroom hnest hro hend hst hls hlv hW hS hag hnx hkc hks
  obtain ⟨hx, hb, hr, hml, hown, hts, hlk, hini, hA⟩ := id hctx
  have nxt : ∀ {pc' : Nat} {st' : List mV}, Pr l n d y pc' kc ks ls st' H K → okS H.2.2.2 st' → W p l e R s m args below meth c HH locs cells slots QF (F0 m pc' lsR (st'.map (mval ad))) := fun h ok => h p e R s m args below meth c A D ad cA HH locs cells slots lsR QF ad0 nx0 hctx hroom hnest hro hend ok hls hlv hW hS hag hnx hkc hks
  have nxtL : ∀ {pc' : Nat} {st' : List mV} {ls' : mLs} {lsR' : Array Slot}, Pr l n d y pc' kc ks ls' st' H K → okS H.2.2.2 st' → okLs H.2.2.2 ls' → lv_has lsR' (mMax y) (lvOf ad ls') → W p l e R s m args below meth c HH locs cells slots QF (F0 m pc' lsR' (st'.map (mval ad))) := fun h ok okl hl => h p e R s m args below meth c A D ad cA HH locs cells slots _ QF ad0 nx0 hctx hroom hnest hro hend ok okl hl hW hS hag hnx hkc hks
  dsimp only [stepW] at hstep
  obtain rfl := hins
  obtain ⟨a, b, r, rfl, hs⟩ := eLL_inv hstep
  exact lv_lor hx hb hdec (nxt hs (okS_c trivial (okS_t (okS_t hst))))
set_option maxRecDepth 20000 in
set_option maxHeartbeats 2000000 in
theorem cl_land {l : Launch} {n d y pc : Nat} {len ia ib ic : Nat} {z : Int} {sw : List (Int × Nat)} {kc ks : Nat} {ls : mLs} {st : List mV} {H : mH} {K : mK} (hw : okRow (y, pc, .land, len, (ia, ib, ic), z, sw) = true) (hstep : stepW n (Pr l n) (ent (Pr l n)) d (y, pc, .land, len, (ia, ib, ic), z, sw) kc ks ls st H K) : Pr l n d y pc kc ks ls st H K := by
  obtain ⟨hdec, hins, hyl⟩ := okRow_sp hw
  simp only [okIns, Bool.and_eq_true, Bool.or_eq_true, decide_eq_true_eq, beq_iff_eq] at hins
  intro p e R s m args below meth c A D ad cA HH locs cells slots lsR QF ad0 nx0 hctx hroom hnest hro hend hst hls hlv hW hS hag hnx hkc hks
  obtain ⟨hx, hb, hr, hml, hown, hts, hlk, hini, hA⟩ := id hctx
  have nxt : ∀ {pc' : Nat} {st' : List mV}, Pr l n d y pc' kc ks ls st' H K → okS H.2.2.2 st' → W p l e R s m args below meth c HH locs cells slots QF (F0 m pc' lsR (st'.map (mval ad))) := fun h ok => h p e R s m args below meth c A D ad cA HH locs cells slots lsR QF ad0 nx0 hctx hroom hnest hro hend ok hls hlv hW hS hag hnx hkc hks
  have nxtL : ∀ {pc' : Nat} {st' : List mV} {ls' : mLs} {lsR' : Array Slot}, Pr l n d y pc' kc ks ls' st' H K → okS H.2.2.2 st' → okLs H.2.2.2 ls' → lv_has lsR' (mMax y) (lvOf ad ls') → W p l e R s m args below meth c HH locs cells slots QF (F0 m pc' lsR' (st'.map (mval ad))) := fun h ok okl hl => h p e R s m args below meth c A D ad cA HH locs cells slots _ QF ad0 nx0 hctx hroom hnest hro hend ok okl hl hW hS hag hnx hkc hks
  dsimp only [stepW] at hstep
  obtain rfl := hins
  obtain ⟨a, b, r, rfl, hs⟩ := eLL_inv hstep
  exact lv_land hx hb hdec (nxt hs (okS_c trivial (okS_t (okS_t hst))))
set_option maxRecDepth 20000 in
set_option maxHeartbeats 2000000 in
theorem cl_dup {l : Launch} {n d y pc : Nat} {len ia ib ic : Nat} {z : Int} {sw : List (Int × Nat)} {kc ks : Nat} {ls : mLs} {st : List mV} {H : mH} {K : mK} (hw : okRow (y, pc, .dup, len, (ia, ib, ic), z, sw) = true) (hstep : stepW n (Pr l n) (ent (Pr l n)) d (y, pc, .dup, len, (ia, ib, ic), z, sw) kc ks ls st H K) : Pr l n d y pc kc ks ls st H K := by
  obtain ⟨hdec, hins, hyl⟩ := okRow_sp hw
  simp only [okIns, Bool.and_eq_true, Bool.or_eq_true, decide_eq_true_eq, beq_iff_eq] at hins
  intro p e R s m args below meth c A D ad cA HH locs cells slots lsR QF ad0 nx0 hctx hroom hnest hro hend hst hls hlv hW hS hag hnx hkc hks
  obtain ⟨hx, hb, hr, hml, hown, hts, hlk, hini, hA⟩ := id hctx
  have nxt : ∀ {pc' : Nat} {st' : List mV}, Pr l n d y pc' kc ks ls st' H K → okS H.2.2.2 st' → W p l e R s m args below meth c HH locs cells slots QF (F0 m pc' lsR (st'.map (mval ad))) := fun h ok => h p e R s m args below meth c A D ad cA HH locs cells slots lsR QF ad0 nx0 hctx hroom hnest hro hend ok hls hlv hW hS hag hnx hkc hks
  have nxtL : ∀ {pc' : Nat} {st' : List mV} {ls' : mLs} {lsR' : Array Slot}, Pr l n d y pc' kc ks ls' st' H K → okS H.2.2.2 st' → okLs H.2.2.2 ls' → lv_has lsR' (mMax y) (lvOf ad ls') → W p l e R s m args below meth c HH locs cells slots QF (F0 m pc' lsR' (st'.map (mval ad))) := fun h ok okl hl => h p e R s m args below meth c A D ad cA HH locs cells slots _ QF ad0 nx0 hctx hroom hnest hro hend ok okl hl hW hS hag hnx hkc hks
  dsimp only [stepW] at hstep
  obtain rfl := hins
  obtain ⟨v, r, rfl, hc, hs⟩ := eD_inv hstep
  exact lv_dup hx hb hdec (isC1_cat hc) (nxt hs (okS_c (okS_h hst) hst))
set_option maxRecDepth 20000 in
set_option maxHeartbeats 2000000 in
theorem cl_dup2 {l : Launch} {n d y pc : Nat} {len ia ib ic : Nat} {z : Int} {sw : List (Int × Nat)} {kc ks : Nat} {ls : mLs} {st : List mV} {H : mH} {K : mK} (hw : okRow (y, pc, .dup2, len, (ia, ib, ic), z, sw) = true) (hstep : stepW n (Pr l n) (ent (Pr l n)) d (y, pc, .dup2, len, (ia, ib, ic), z, sw) kc ks ls st H K) : Pr l n d y pc kc ks ls st H K := by
  obtain ⟨hdec, hins, hyl⟩ := okRow_sp hw
  simp only [okIns, Bool.and_eq_true, Bool.or_eq_true, decide_eq_true_eq, beq_iff_eq] at hins
  intro p e R s m args below meth c A D ad cA HH locs cells slots lsR QF ad0 nx0 hctx hroom hnest hro hend hst hls hlv hW hS hag hnx hkc hks
  obtain ⟨hx, hb, hr, hml, hown, hts, hlk, hini, hA⟩ := id hctx
  have nxt : ∀ {pc' : Nat} {st' : List mV}, Pr l n d y pc' kc ks ls st' H K → okS H.2.2.2 st' → W p l e R s m args below meth c HH locs cells slots QF (F0 m pc' lsR (st'.map (mval ad))) := fun h ok => h p e R s m args below meth c A D ad cA HH locs cells slots lsR QF ad0 nx0 hctx hroom hnest hro hend ok hls hlv hW hS hag hnx hkc hks
  have nxtL : ∀ {pc' : Nat} {st' : List mV} {ls' : mLs} {lsR' : Array Slot}, Pr l n d y pc' kc ks ls' st' H K → okS H.2.2.2 st' → okLs H.2.2.2 ls' → lv_has lsR' (mMax y) (lvOf ad ls') → W p l e R s m args below meth c HH locs cells slots QF (F0 m pc' lsR' (st'.map (mval ad))) := fun h ok okl hl => h p e R s m args below meth c A D ad cA HH locs cells slots _ QF ad0 nx0 hctx hroom hnest hro hend ok okl hl hW hS hag hnx hkc hks
  dsimp only [stepW] at hstep
  obtain rfl := hins
  obtain ⟨v, w, r, rfl, hc, hc2, hs⟩ := eDD_inv hstep
  exact lv_dup2_11 hx hb hdec (isC1_cat hc) (isC1_cat hc2) (nxt hs (okS_c (okS_h hst) (okS_c (okS_h (okS_t hst)) hst)))
set_option maxRecDepth 20000 in
set_option maxHeartbeats 2000000 in
theorem cl_pop {l : Launch} {n d y pc : Nat} {len ia ib ic : Nat} {z : Int} {sw : List (Int × Nat)} {kc ks : Nat} {ls : mLs} {st : List mV} {H : mH} {K : mK} (hw : okRow (y, pc, .pop, len, (ia, ib, ic), z, sw) = true) (hstep : stepW n (Pr l n) (ent (Pr l n)) d (y, pc, .pop, len, (ia, ib, ic), z, sw) kc ks ls st H K) : Pr l n d y pc kc ks ls st H K := by
  obtain ⟨hdec, hins, hyl⟩ := okRow_sp hw
  simp only [okIns, Bool.and_eq_true, Bool.or_eq_true, decide_eq_true_eq, beq_iff_eq] at hins
  intro p e R s m args below meth c A D ad cA HH locs cells slots lsR QF ad0 nx0 hctx hroom hnest hro hend hst hls hlv hW hS hag hnx hkc hks
  obtain ⟨hx, hb, hr, hml, hown, hts, hlk, hini, hA⟩ := id hctx
  have nxt : ∀ {pc' : Nat} {st' : List mV}, Pr l n d y pc' kc ks ls st' H K → okS H.2.2.2 st' → W p l e R s m args below meth c HH locs cells slots QF (F0 m pc' lsR (st'.map (mval ad))) := fun h ok => h p e R s m args below meth c A D ad cA HH locs cells slots lsR QF ad0 nx0 hctx hroom hnest hro hend ok hls hlv hW hS hag hnx hkc hks
  have nxtL : ∀ {pc' : Nat} {st' : List mV} {ls' : mLs} {lsR' : Array Slot}, Pr l n d y pc' kc ks ls' st' H K → okS H.2.2.2 st' → okLs H.2.2.2 ls' → lv_has lsR' (mMax y) (lvOf ad ls') → W p l e R s m args below meth c HH locs cells slots QF (F0 m pc' lsR' (st'.map (mval ad))) := fun h ok okl hl => h p e R s m args below meth c A D ad cA HH locs cells slots _ QF ad0 nx0 hctx hroom hnest hro hend ok okl hl hW hS hag hnx hkc hks
  dsimp only [stepW] at hstep
  obtain rfl := hins
  obtain ⟨v, r, rfl, hc, hs⟩ := eD_inv hstep
  exact lv_pop hx hb hdec (isC1_cat hc) (nxt hs (okS_t hst))
set_option maxRecDepth 20000 in
set_option maxHeartbeats 2000000 in
theorem cl_ifCond {l : Launch} {n d y pc : Nat} {k : ClassFile.Cond} {off : Int} {len ia ib ic : Nat} {z : Int} {sw : List (Int × Nat)} {kc ks : Nat} {ls : mLs} {st : List mV} {H : mH} {K : mK} (hw : okRow (y, pc, .ifCond k off, len, (ia, ib, ic), z, sw) = true) (hstep : stepW n (Pr l n) (ent (Pr l n)) d (y, pc, .ifCond k off, len, (ia, ib, ic), z, sw) kc ks ls st H K) : Pr l n d y pc kc ks ls st H K := by
  obtain ⟨hdec, hins, hyl⟩ := okRow_sp hw
  simp only [okIns, Bool.and_eq_true, Bool.or_eq_true, decide_eq_true_eq, beq_iff_eq] at hins
  intro p e R s m args below meth c A D ad cA HH locs cells slots lsR QF ad0 nx0 hctx hroom hnest hro hend hst hls hlv hW hS hag hnx hkc hks
  obtain ⟨hx, hb, hr, hml, hown, hts, hlk, hini, hA⟩ := id hctx
  have nxt : ∀ {pc' : Nat} {st' : List mV}, Pr l n d y pc' kc ks ls st' H K → okS H.2.2.2 st' → W p l e R s m args below meth c HH locs cells slots QF (F0 m pc' lsR (st'.map (mval ad))) := fun h ok => h p e R s m args below meth c A D ad cA HH locs cells slots lsR QF ad0 nx0 hctx hroom hnest hro hend ok hls hlv hW hS hag hnx hkc hks
  have nxtL : ∀ {pc' : Nat} {st' : List mV} {ls' : mLs} {lsR' : Array Slot}, Pr l n d y pc' kc ks ls' st' H K → okS H.2.2.2 st' → okLs H.2.2.2 ls' → lv_has lsR' (mMax y) (lvOf ad ls') → W p l e R s m args below meth c HH locs cells slots QF (F0 m pc' lsR' (st'.map (mval ad))) := fun h ok okl hl => h p e R s m args below meth c A D ad cA HH locs cells slots _ QF ad0 nx0 hctx hroom hnest hro hend ok okl hl hW hS hag hnx hkc hks
  dsimp only [stepW] at hstep
  obtain ⟨rfl, ht⟩ := hins
  obtain ⟨x, r, rfl, hs⟩ := eI_inv hstep
  have ha : okV H.2.2.2 (vi x) := okS_h hst
  have hr2 := okS_t hst
  have e0 : (0 : Int32) = Int32.ofInt 0 := rfl
  have z0 : -2147483648 ≤ (0 : Int) ∧ (0 : Int) < 2147483648 := by omega
  cases k <;> dsimp only [cbr] at hs
  · refine lv_if_eq hx hb hdec ht (fun q => ?_) (fun q => ?_)
    · rw [if_pos ((ofInt_eq ha z0).mp q)] at hs; exact nxt hs hr2
    · rw [if_neg (fun w => q ((ofInt_eq ha z0).mpr w))] at hs; exact nxt hs hr2
  · refine lv_if_ne hx hb hdec ht (fun q => ?_) (fun q => ?_)
    · rw [if_neg (fun w => q ((ofInt_eq ha z0).mpr w))] at hs; exact nxt hs hr2
    · rw [if_pos ((ofInt_eq ha z0).mp q)] at hs; exact nxt hs hr2
  · refine lv_if_lt hx hb hdec ht (fun q => ?_) (fun q => ?_)
    · rw [if_pos ((ofInt_lt ha z0).mp q)] at hs; exact nxt hs hr2
    · rw [if_neg (fun w => q ((ofInt_lt ha z0).mpr w))] at hs; exact nxt hs hr2
  · refine lv_if_ge hx hb hdec ht (fun q => ?_) (fun q => ?_)
    · rw [if_neg (Int.not_lt.mpr ((ofInt_le z0 ha).mp q))] at hs; exact nxt hs hr2
    · rw [if_pos (Int.not_le.mp (fun w => q ((ofInt_le z0 ha).mpr w)))] at hs; exact nxt hs hr2
  · refine lv_if_gt hx hb hdec ht (fun q => ?_) (fun q => ?_)
    · rw [if_pos ((ofInt_lt z0 ha).mp q)] at hs; exact nxt hs hr2
    · rw [if_neg (fun w => q ((ofInt_lt z0 ha).mpr w))] at hs; exact nxt hs hr2
  · refine lv_if_le hx hb hdec ht (fun q => ?_) (fun q => ?_)
    · rw [if_neg (Int.not_lt.mpr ((ofInt_le ha z0).mp q))] at hs; exact nxt hs hr2
    · rw [if_pos (Int.not_le.mp (fun w => q ((ofInt_le ha z0).mpr w)))] at hs; exact nxt hs hr2
set_option maxRecDepth 20000 in
set_option maxHeartbeats 2000000 in
theorem cl_if_icmp {l : Launch} {n d y pc : Nat} {k : ClassFile.Cond} {off : Int} {len ia ib ic : Nat} {z : Int} {sw : List (Int × Nat)} {kc ks : Nat} {ls : mLs} {st : List mV} {H : mH} {K : mK} (hw : okRow (y, pc, .if_icmp k off, len, (ia, ib, ic), z, sw) = true) (hstep : stepW n (Pr l n) (ent (Pr l n)) d (y, pc, .if_icmp k off, len, (ia, ib, ic), z, sw) kc ks ls st H K) : Pr l n d y pc kc ks ls st H K := by
  obtain ⟨hdec, hins, hyl⟩ := okRow_sp hw
  simp only [okIns, Bool.and_eq_true, Bool.or_eq_true, decide_eq_true_eq, beq_iff_eq] at hins
  intro p e R s m args below meth c A D ad cA HH locs cells slots lsR QF ad0 nx0 hctx hroom hnest hro hend hst hls hlv hW hS hag hnx hkc hks
  obtain ⟨hx, hb, hr, hml, hown, hts, hlk, hini, hA⟩ := id hctx
  have nxt : ∀ {pc' : Nat} {st' : List mV}, Pr l n d y pc' kc ks ls st' H K → okS H.2.2.2 st' → W p l e R s m args below meth c HH locs cells slots QF (F0 m pc' lsR (st'.map (mval ad))) := fun h ok => h p e R s m args below meth c A D ad cA HH locs cells slots lsR QF ad0 nx0 hctx hroom hnest hro hend ok hls hlv hW hS hag hnx hkc hks
  have nxtL : ∀ {pc' : Nat} {st' : List mV} {ls' : mLs} {lsR' : Array Slot}, Pr l n d y pc' kc ks ls' st' H K → okS H.2.2.2 st' → okLs H.2.2.2 ls' → lv_has lsR' (mMax y) (lvOf ad ls') → W p l e R s m args below meth c HH locs cells slots QF (F0 m pc' lsR' (st'.map (mval ad))) := fun h ok okl hl => h p e R s m args below meth c A D ad cA HH locs cells slots _ QF ad0 nx0 hctx hroom hnest hro hend ok okl hl hW hS hag hnx hkc hks
  dsimp only [stepW] at hstep
  obtain ⟨rfl, ht⟩ := hins
  obtain ⟨a, b, r, rfl, hs⟩ := eII_inv hstep
  have ha : okV H.2.2.2 (vi a) := okS_h (okS_t hst)
  have hb0 : okV H.2.2.2 (vi b) := okS_h hst
  have hr2 := okS_t (okS_t hst)
  cases k <;> dsimp only [cbr] at hs
  · refine lv_icmp_eq hx hb hdec ht (fun q => ?_) (fun q => ?_)
    · rw [if_pos ((ofInt_eq ha hb0).mp q)] at hs; exact nxt hs hr2
    · rw [if_neg (fun w => q ((ofInt_eq ha hb0).mpr w))] at hs; exact nxt hs hr2
  · refine lv_icmp_ne hx hb hdec ht (fun q => ?_) (fun q => ?_)
    · rw [if_neg (fun w => q ((ofInt_eq ha hb0).mpr w))] at hs; exact nxt hs hr2
    · rw [if_pos ((ofInt_eq ha hb0).mp q)] at hs; exact nxt hs hr2
  · refine lv_icmp_lt hx hb hdec ht (fun q => ?_) (fun q => ?_)
    · rw [if_pos ((ofInt_lt ha hb0).mp q)] at hs; exact nxt hs hr2
    · rw [if_neg (fun w => q ((ofInt_lt ha hb0).mpr w))] at hs; exact nxt hs hr2
  · refine lv_icmp_ge hx hb hdec ht (fun q => ?_) (fun q => ?_)
    · rw [if_neg (Int.not_lt.mpr ((ofInt_le hb0 ha).mp q))] at hs; exact nxt hs hr2
    · rw [if_pos (Int.not_le.mp (fun w => q ((ofInt_le hb0 ha).mpr w)))] at hs; exact nxt hs hr2
  · refine lv_icmp_gt hx hb hdec ht (fun q => ?_) (fun q => ?_)
    · rw [if_pos ((ofInt_lt hb0 ha).mp q)] at hs; exact nxt hs hr2
    · rw [if_neg (fun w => q ((ofInt_lt hb0 ha).mpr w))] at hs; exact nxt hs hr2
  · refine lv_icmp_le hx hb hdec ht (fun q => ?_) (fun q => ?_)
    · rw [if_neg (Int.not_lt.mpr ((ofInt_le ha hb0).mp q))] at hs; exact nxt hs hr2
    · rw [if_pos (Int.not_le.mp (fun w => q ((ofInt_le ha hb0).mpr w)))] at hs; exact nxt hs hr2
set_option maxRecDepth 20000 in
set_option maxHeartbeats 2000000 in
theorem cl_goto {l : Launch} {n d y pc : Nat} {off : Int} {len ia ib ic : Nat} {z : Int} {sw : List (Int × Nat)} {kc ks : Nat} {ls : mLs} {st : List mV} {H : mH} {K : mK} (hw : okRow (y, pc, .goto off, len, (ia, ib, ic), z, sw) = true) (hstep : stepW n (Pr l n) (ent (Pr l n)) d (y, pc, .goto off, len, (ia, ib, ic), z, sw) kc ks ls st H K) : Pr l n d y pc kc ks ls st H K := by
  obtain ⟨hdec, hins, hyl⟩ := okRow_sp hw
  simp only [okIns, Bool.and_eq_true, Bool.or_eq_true, decide_eq_true_eq, beq_iff_eq] at hins
  intro p e R s m args below meth c A D ad cA HH locs cells slots lsR QF ad0 nx0 hctx hroom hnest hro hend hst hls hlv hW hS hag hnx hkc hks
  obtain ⟨hx, hb, hr, hml, hown, hts, hlk, hini, hA⟩ := id hctx
  have nxt : ∀ {pc' : Nat} {st' : List mV}, Pr l n d y pc' kc ks ls st' H K → okS H.2.2.2 st' → W p l e R s m args below meth c HH locs cells slots QF (F0 m pc' lsR (st'.map (mval ad))) := fun h ok => h p e R s m args below meth c A D ad cA HH locs cells slots lsR QF ad0 nx0 hctx hroom hnest hro hend ok hls hlv hW hS hag hnx hkc hks
  have nxtL : ∀ {pc' : Nat} {st' : List mV} {ls' : mLs} {lsR' : Array Slot}, Pr l n d y pc' kc ks ls' st' H K → okS H.2.2.2 st' → okLs H.2.2.2 ls' → lv_has lsR' (mMax y) (lvOf ad ls') → W p l e R s m args below meth c HH locs cells slots QF (F0 m pc' lsR' (st'.map (mval ad))) := fun h ok okl hl => h p e R s m args below meth c A D ad cA HH locs cells slots _ QF ad0 nx0 hctx hroom hnest hro hend ok okl hl hW hS hag hnx hkc hks
  dsimp only [stepW] at hstep
  obtain ⟨rfl, ht⟩ := hins
  exact lv_goto hx hb hdec ht (nxt hstep hst)
set_option maxRecDepth 20000 in
set_option maxHeartbeats 2000000 in
theorem cl_ifnonnull {l : Launch} {n d y pc : Nat} {off : Int} {len ia ib ic : Nat} {z : Int} {sw : List (Int × Nat)} {kc ks : Nat} {ls : mLs} {st : List mV} {H : mH} {K : mK} (hw : okRow (y, pc, .ifnonnull off, len, (ia, ib, ic), z, sw) = true) (hstep : stepW n (Pr l n) (ent (Pr l n)) d (y, pc, .ifnonnull off, len, (ia, ib, ic), z, sw) kc ks ls st H K) : Pr l n d y pc kc ks ls st H K := by
  obtain ⟨hdec, hins, hyl⟩ := okRow_sp hw
  simp only [okIns, Bool.and_eq_true, Bool.or_eq_true, decide_eq_true_eq, beq_iff_eq] at hins
  intro p e R s m args below meth c A D ad cA HH locs cells slots lsR QF ad0 nx0 hctx hroom hnest hro hend hst hls hlv hW hS hag hnx hkc hks
  obtain ⟨hx, hb, hr, hml, hown, hts, hlk, hini, hA⟩ := id hctx
  have nxt : ∀ {pc' : Nat} {st' : List mV}, Pr l n d y pc' kc ks ls st' H K → okS H.2.2.2 st' → W p l e R s m args below meth c HH locs cells slots QF (F0 m pc' lsR (st'.map (mval ad))) := fun h ok => h p e R s m args below meth c A D ad cA HH locs cells slots lsR QF ad0 nx0 hctx hroom hnest hro hend ok hls hlv hW hS hag hnx hkc hks
  have nxtL : ∀ {pc' : Nat} {st' : List mV} {ls' : mLs} {lsR' : Array Slot}, Pr l n d y pc' kc ks ls' st' H K → okS H.2.2.2 st' → okLs H.2.2.2 ls' → lv_has lsR' (mMax y) (lvOf ad ls') → W p l e R s m args below meth c HH locs cells slots QF (F0 m pc' lsR' (st'.map (mval ad))) := fun h ok okl hl => h p e R s m args below meth c A D ad cA HH locs cells slots _ QF ad0 nx0 hctx hroom hnest hro hend ok okl hl hW hS hag hnx hkc hks
  dsimp only [stepW] at hstep
  obtain ⟨rfl, ht⟩ := hins
  obtain ⟨x, r, rfl, hs⟩ := eR_inv hstep
  cases x with
  | none => exact lv_ifnonnullN hx hb hdec (nxt hs (okS_t hst))
  | some a => exact lv_ifnonnull hx hb hdec ht (nxt hs (okS_t hst))
set_option maxRecDepth 20000 in
set_option maxHeartbeats 2000000 in
theorem cl_tableswitch {l : Launch} {n d y pc : Nat} {dd lo hi : Int} {offs : Array Int} {len ia ib ic : Nat} {z : Int} {sw : List (Int × Nat)} {kc ks : Nat} {ls : mLs} {st : List mV} {H : mH} {K : mK} (hw : okRow (y, pc, .tableswitch dd lo hi offs, len, (ia, ib, ic), z, sw) = true) (hstep : stepW n (Pr l n) (ent (Pr l n)) d (y, pc, .tableswitch dd lo hi offs, len, (ia, ib, ic), z, sw) kc ks ls st H K) : Pr l n d y pc kc ks ls st H K := by
  obtain ⟨hdec, hins, hyl⟩ := okRow_sp hw
  simp only [okIns, Bool.and_eq_true, Bool.or_eq_true, decide_eq_true_eq, beq_iff_eq] at hins
  intro p e R s m args below meth c A D ad cA HH locs cells slots lsR QF ad0 nx0 hctx hroom hnest hro hend hst hls hlv hW hS hag hnx hkc hks
  obtain ⟨hx, hb, hr, hml, hown, hts, hlk, hini, hA⟩ := id hctx
  have nxt : ∀ {pc' : Nat} {st' : List mV}, Pr l n d y pc' kc ks ls st' H K → okS H.2.2.2 st' → W p l e R s m args below meth c HH locs cells slots QF (F0 m pc' lsR (st'.map (mval ad))) := fun h ok => h p e R s m args below meth c A D ad cA HH locs cells slots lsR QF ad0 nx0 hctx hroom hnest hro hend ok hls hlv hW hS hag hnx hkc hks
  have nxtL : ∀ {pc' : Nat} {st' : List mV} {ls' : mLs} {lsR' : Array Slot}, Pr l n d y pc' kc ks ls' st' H K → okS H.2.2.2 st' → okLs H.2.2.2 ls' → lv_has lsR' (mMax y) (lvOf ad ls') → W p l e R s m args below meth c HH locs cells slots QF (F0 m pc' lsR' (st'.map (mval ad))) := fun h ok okl hl => h p e R s m args below meth c A D ad cA HH locs cells slots _ QF ad0 nx0 hctx hroom hnest hro hend ok okl hl hW hS hag hnx hkc hks
  dsimp only [stepW] at hstep
  obtain ⟨⟨⟨⟨⟨ht, hn⟩, hl⟩, hall⟩, hlo⟩, hhi⟩ := hins
  obtain ⟨x, r, rfl, hs⟩ := eI_inv hstep
  have ha : okV H.2.2.2 (vi x) := okS_h hst
  have e1 : (Int32.ofInt x).toInt = x := toInt_ofInt_id ha
  have hj : ∀ j : Nat, j < offs.size → sw[j]? = some (lo + j, ((pc : Int) + offs.getD j 0).toNat) ∧ 0 ≤ (pc : Int) + offs.getD j 0 := by
    intro j hj
    have := List.all_eq_true.mp hall j (List.mem_range.mpr hj)
    simpa using this
  by_cases hin : x < lo ∨ hi < x
  · refine lv_tableOut hx hb hdec (by rw [e1]; exact hin) ht (nxt (swW_out (f := fun t => Pr l n d y t kc ks ls r H K) (lo := lo) sw (fun j q hq => ?_) (by rcases hin with h | h <;> omega) hs) (okS_t hst))
    have hlt := (List.getElem?_eq_some_iff.mp hq).1
    rw [(hj j (by omega)).1] at hq
    cases hq
    rfl
  · have h1 : ¬ x < lo := fun h => hin (Or.inl h)
    have h2 : ¬ hi < x := fun h => hin (Or.inr h)
    have hlt : (x - lo).toNat < offs.size := by omega
    obtain ⟨g1, g2⟩ := hj _ hlt
    have hget : offs[(x - lo).toNat]? = some (offs.getD (x - lo).toNat 0) := by
      rw [Array.getElem?_eq_getElem hlt]
      simp [Array.getD, hlt]
    refine lv_tableIn (tgt := ((pc : Int) + offs.getD (x - lo).toNat 0).toNat) hx hb hdec (by rw [e1]; exact h1) (by rw [e1]; exact h2) (by rw [e1]; exact hget) (by omega) (nxt (swW_in (f := fun t => Pr l n d y t kc ks ls r H K) (lo := lo) sw (fun j q hq => ?_) (x - lo).toNat g1 (by omega) hs) (okS_t hst))
    have hlt := (List.getElem?_eq_some_iff.mp hq).1
    rw [(hj j (by omega)).1] at hq
    cases hq
    rfl
set_option maxRecDepth 20000 in
set_option maxHeartbeats 2000000 in
theorem cl_lookupswitch {l : Launch} {n d y pc : Nat} {dd : Int} {ps : Array (Int × Int)} {len ia ib ic : Nat} {z : Int} {sw : List (Int × Nat)} {kc ks : Nat} {ls : mLs} {st : List mV} {H : mH} {K : mK} (hw : okRow (y, pc, .lookupswitch dd ps, len, (ia, ib, ic), z, sw) = true) (hstep : stepW n (Pr l n) (ent (Pr l n)) d (y, pc, .lookupswitch dd ps, len, (ia, ib, ic), z, sw) kc ks ls st H K) : Pr l n d y pc kc ks ls st H K := by
  obtain ⟨hdec, hins, hyl⟩ := okRow_sp hw
  simp only [okIns, Bool.and_eq_true, Bool.or_eq_true, decide_eq_true_eq, beq_iff_eq] at hins
  intro p e R s m args below meth c A D ad cA HH locs cells slots lsR QF ad0 nx0 hctx hroom hnest hro hend hst hls hlv hW hS hag hnx hkc hks
  obtain ⟨hx, hb, hr, hml, hown, hts, hlk, hini, hA⟩ := id hctx
  have nxt : ∀ {pc' : Nat} {st' : List mV}, Pr l n d y pc' kc ks ls st' H K → okS H.2.2.2 st' → W p l e R s m args below meth c HH locs cells slots QF (F0 m pc' lsR (st'.map (mval ad))) := fun h ok => h p e R s m args below meth c A D ad cA HH locs cells slots lsR QF ad0 nx0 hctx hroom hnest hro hend ok hls hlv hW hS hag hnx hkc hks
  have nxtL : ∀ {pc' : Nat} {st' : List mV} {ls' : mLs} {lsR' : Array Slot}, Pr l n d y pc' kc ks ls' st' H K → okS H.2.2.2 st' → okLs H.2.2.2 ls' → lv_has lsR' (mMax y) (lvOf ad ls') → W p l e R s m args below meth c HH locs cells slots QF (F0 m pc' lsR' (st'.map (mval ad))) := fun h ok okl hl => h p e R s m args below meth c A D ad cA HH locs cells slots _ QF ad0 nx0 hctx hroom hnest hro hend ok okl hl hW hS hag hnx hkc hks
  dsimp only [stepW] at hstep
  obtain ⟨⟨⟨ht, hl⟩, hsort⟩, hall⟩ := hins
  obtain ⟨x, r, rfl, hs⟩ := eI_inv hstep
  have ha : okV H.2.2.2 (vi x) := okS_h hst
  have e1 : (Int32.ofInt x).toInt = x := toInt_ofInt_id ha
  obtain ⟨off, tgt, h1, h2, h3⟩ := swW_look (f := fun t => Pr l n d y t kc ks ls r H K) (dd := dd) ht ps.toList sw (by rw [Array.length_toList]; exact hl) hall hs
  exact lv_lookup hx hb hdec hsort (by rw [e1]; exact h1) h2 (nxt h3 (okS_t hst))
