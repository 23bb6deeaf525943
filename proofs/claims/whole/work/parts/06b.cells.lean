/-! ===== the small machine's steps are the machine's: cells ===== -/
theorem TY_lo : ∀ h, h < 16 → (TY h = 105 ∨ TY h = 60 ∨ TY h = 104 ∨ TY h = 99) := by decide
theorem hi_of {h : Nat} (hh : TY h < 20 ∨ TY h = 100 ∨ TY h = 101 ∨ TY h = 102 ∨ 110 ≤ TY h) : 16 ≤ h := by
  rcases Nat.lt_or_ge h 16 with q | q
  · have := TY_lo h q
    omega
  · exact q
theorem TY_hi {h : Nat} (hh : 155 ≤ h) : TY h = 2 ∨ TY h = 100 := by
  unfold TY
  rw [List.getD_eq_getElem?_getD, List.getElem?_eq_none (show TYl.length ≤ h from hh)]
  simp only [Option.getD_none]
  split
  · exact Or.inl rfl
  · exact Or.inr rfl
theorem TY60 {h : Nat} (hh : TY h = 60) : 3 ≤ h ∧ h < 9 := by
  rcases Nat.lt_or_ge h 155 with q | q
  · exact (show ∀ h, h < 155 → TY h = 60 → 3 ≤ h ∧ h < 9 by decide) h q hh
  · have := TY_hi q
    omega
theorem TY105 {h : Nat} (hh : TY h = 105) : h < 3 := by
  rcases Nat.lt_or_ge h 155 with q | q
  · exact (show ∀ h, h < 155 → TY h = 105 → h < 3 by decide) h q hh
  · have := TY_hi q
    omega
theorem TY104 {h : Nat} (hh : TY h = 104) : 9 ≤ h ∧ h < 15 := by
  rcases Nat.lt_or_ge h 155 with q | q
  · exact (show ∀ h, h < 155 → TY h = 104 → 9 ≤ h ∧ h < 15 by decide) h q hh
  · have := TY_hi q
    omega
theorem LN_le {n h : Nat} (hh : h ≠ 0) : LN n h ≤ 600 := by
  unfold LN
  split
  · exact absurd rfl hh
  · rename_i h2 hne
    rw [List.getD_eq_getElem?_getD]
    cases hq : LNl[h]? with
    | none =>
      simp only [Option.getD_none]
      split <;> decide
    | some v =>
      have h3 : ∀ v ∈ LNl, v ≤ 600 := by decide +kernel
      exact h3 v (List.mem_of_getElem? hq)
theorem mcell_obj {n : Nat} {ad : Nat → Nat} {cA : Nat → ClassId} {H : mH} {h : Nat} (ht : TY h < 20) : mcell n ad cA H h = .inr (TY h, (List.range (clAt (TY h)).2.2).map (fldV ad H h)) := by
  unfold mcell
  rw [show Nat.blt (TY h) 20 = true from Nat.ble_eq_true_of_le ht]
theorem mcell_arr {n : Nat} {ad : Nat → Nat} {cA : Nat → ClassId} {H : mH} {h : Nat} (ht : 100 ≤ TY h) : mcell n ad cA H h = .inl (cA h, (LN n h, (arrC ad H h).2)) := by
  unfold mcell
  rw [show Nat.blt (TY h) 20 = false from by
    rw [← Bool.not_eq_true]
    intro q
    have := Nat.le_of_ble_eq_true q
    omega]
theorem mcell_int {n : Nat} {ad : Nat → Nat} {cA : Nat → ClassId} {H : mH} {h : Nat} (ht : TY h = 100 ∨ TY h = 102) : mcell n ad cA H h = .inl (cA h, (LN n h, .inl fun j => Int32.ofInt (H.1 h j))) := by
  rw [mcell_arr (by omega)]
  rcases ht with q | q <;> simp only [arrC, q]
theorem mcell_long {n : Nat} {ad : Nat → Nat} {cA : Nat → ClassId} {H : mH} {h : Nat} (ht : TY h = 101) : mcell n ad cA H h = .inl (cA h, (LN n h, .inr (.inl (H.2.1 h)))) := by
  rw [mcell_arr (by omega)]
  simp only [arrC, ht]
theorem mcell_ref {n : Nat} {ad : Nat → Nat} {cA : Nat → ClassId} {H : mH} {h : Nat} (ht : 110 ≤ TY h) : mcell n ad cA H h = .inl (cA h, (LN n h, .inr (.inr (.inr (.inr fun j => (H.2.2.1 h j).map ad))))) := by
  rw [mcell_arr (by omega)]
  unfold arrC
  split
  · omega
  · omega
  · omega
  · rfl
theorem mcell_congr {n : Nat} {ad : Nat → Nat} {cA : Nat → ClassId} {H H' : mH} {h : Nat} (h1 : H'.1 h = H.1 h) (h2 : H'.2.1 h = H.2.1 h) (h3 : H'.2.2.1 h = H.2.2.1 h) : mcell n ad cA H' h = mcell n ad cA H h := by
  unfold mcell arrC
  have : fldV ad H' h = fldV ad H h := by
    funext k
    unfold fldV
    rw [h1, h3]
  rw [this, h1, h2, h3]
theorem mws_upd {n : Nat} {ad : Nat → Nat} {cA : Nat → ClassId} {H H' : mH} {a : Nat} (ha : 16 ≤ a) (hl : a < H.2.2.2) (hnx : H'.2.2.2 = H.2.2.2) (ho : ∀ h, h ≠ a → mcell n ad cA H' h = mcell n ad cA H h) : mws n ad cA H' = (mws n ad cA H).set (a - 16) (ad a, mcell n ad cA H' a) := by
  apply List.ext_getElem?
  intro k
  by_cases hk : k = a - 16
  · subst hk
    rw [mws_at ha (by rw [hnx]; exact hl), List.getElem?_set_self (by simp [mws]; omega)]
  · rw [List.getElem?_set_ne (Ne.symm hk)]
    by_cases hlt : 16 + k < H.2.2.2
    · have e : k = (16 + k) - 16 := by omega
      rw [e, mws_at (by omega) (by rw [hnx]; exact hlt), mws_at (by omega) hlt, ho _ (by omega)]
    · rw [List.getElem?_eq_none (by simp [mws]; omega), List.getElem?_eq_none (by simp [mws]; omega)]
theorem mW_set {D : va_G} {n : Nat} {ad : Nat → Nat} {cA : Nat → ClassId} {H H' : mH} {A : Nat → Prop} {s : State} {HH HH1 : Heap} {a : Nat} {cell : va_E} (hW : mW D n ad cA H A s HH) (ha : 16 ≤ a) (hl : a < H.2.2.2) (hnx : H'.2.2.2 = H.2.2.2) (ho : ∀ h, h ≠ a → H'.1 h = H.1 h ∧ H'.2.1 h = H.2.1 h ∧ H'.2.2.1 h = H.2.2.1 h) (hok : okH H') (hc : mcell n ad cA H' a = cell) (hP : va_P D vwCl ((mws n ad cA H).set (a - 16) (ad a, cell)) HH1) (hD : va_D A ((mws n ad cA H).set (a - 16) (ad a, cell))) : mW D n ad cA H' A s HH1 := by
  have e := mws_upd (n := n) (ad := ad) (cA := cA) ha hl hnx (fun h hh => mcell_congr (ho h hh).1 (ho h hh).2.1 (ho h hh).2.2)
  rw [hc] at e
  refine ⟨by rw [e]; exact hP, by rw [e]; exact hD, hW.2.2.1, fun h h1 h2 h3 => hW.2.2.2.1 h h1 (by rw [← hnx]; exact h2) h3, hok⟩
theorem mRO_congr {n : Nat} {ad : Nat → Nat} {H H' : mH} {A : Nat → Prop} {U : State} {HH : Heap} (h1 : ∀ h, h < 16 → H'.1 h = H.1 h) (h2 : ∀ h, h < 16 → H'.2.2.1 h = H.2.2.1 h) (h : mRO n ad H A U HH) : mRO n ad H' A U HH := by
  obtain ⟨a, b, c, dd, r⟩ := h
  refine ⟨by rw [h1 0 (by omega)]; exact a, by rw [h1 1 (by omega)]; exact b, by rw [h1 2 (by omega)]; exact c, fun i hi => ?_, r⟩
  rw [h1 (3 + i) (by omega), h1 (9 + i) (by omega), h2 (3 + i) (by omega)]
  exact dd i hi
theorem up2_ne {f : Nat → Nat → Int} {a k h : Nat} {v : Int} (hh : h ≠ a) : up2 f a k v h = f h := by funext j; simp [up2, hh]
theorem up2L_ne {f : Nat → Nat → Int64} {a k h : Nat} {v : Int64} (hh : h ≠ a) : up2L f a k v h = f h := by funext j; simp [up2L, hh]
theorem up2R_ne {f : Nat → Nat → Option Nat} {a k h : Nat} {v : Option Nat} (hh : h ≠ a) : up2R f a k v h = f h := by funext j; simp [up2R, hh]
theorem okH_I {H : mH} {a k : Nat} {v : Int} (h : okH H) (ha : a < H.2.2.2) (hv : -2147483648 ≤ v ∧ v < 2147483648) : okH (up2 H.1 a k v, H.2) := by
  refine ⟨h.1, fun x j => ?_, h.2.2.1, fun x hx j => ⟨?_, (h.2.2.2 x hx j).2⟩⟩
  · show -2147483648 ≤ up2 H.1 a k v x j ∧ up2 H.1 a k v x j < 2147483648
    unfold up2; split
    · exact hv
    · exact h.2.1 x j
  · show up2 H.1 a k v x j = 0
    have hx' : H.2.2.2 ≤ x := hx
    rw [up2_ne (by omega)]
    exact (h.2.2.2 x hx j).1
theorem okH_L {H : mH} {a k : Nat} {v : Int64} (h : okH H) (ha : a < H.2.2.2) : okH (H.1, up2L H.2.1 a k v, H.2.2) := by
  refine ⟨h.1, h.2.1, h.2.2.1, fun x hx j => ⟨(h.2.2.2 x hx j).1, ?_, (h.2.2.2 x hx j).2.2⟩⟩
  show up2L H.2.1 a k v x j = 0
  have hx' : H.2.2.2 ≤ x := hx
  rw [up2L_ne (by omega)]
  exact (h.2.2.2 x hx j).2.1
theorem okH_R {H : mH} {a k : Nat} {v : Option Nat} (h : okH H) (ha : a < H.2.2.2) (hv : ∀ b, v = some b → b < H.2.2.2) : okH (H.1, H.2.1, up2R H.2.2.1 a k v, H.2.2.2) := by
  refine ⟨h.1, h.2.1, fun x j b hb => ?_, fun x hx j => ⟨(h.2.2.2 x hx j).1, (h.2.2.2 x hx j).2.1, ?_⟩⟩
  · have hb' : up2R H.2.2.1 a k v x j = some b := hb
    unfold up2R at hb'
    split at hb'
    · exact hv b hb'
    · exact h.2.2.1 x j b hb'
  · show up2R H.2.2.1 a k v x j = none
    have hx' : H.2.2.2 ≤ x := hx
    rw [up2R_ne (by omega)]
    exact (h.2.2.2 x hx j).2.2
theorem clAt_in {ci : Nat} (h : ci < 10) : vwCl[ci]? = some (clAt ci) := by
  have : ∀ ci, ci < 10 → vwCl[ci]? = some (vwCl.getD ci (RX0, TX0, 0)) := fun ci h => by
    rw [List.getD_eq_getElem?_getD, List.getElem?_eq_getElem (show ci < vwCl.length from h)]
    rfl
  exact this ci h
set_option maxRecDepth 100000 in
theorem clWs : ∀ ci, ci < 10 → ∀ w ∈ u_ws (clAt ci).1 (clAt ci).2.1 (clAt ci).2.2, w ∈ gTbl := by decide +kernel
theorem clTy : ∀ ci, ci < 10 → ∀ k, k < (clAt ci).2.2 → parseFieldDescriptor ((clAt ci).2.1 k).2.2.1 = some (tyOf ci k) := by decide +kernel
theorem clNm : ∀ ci, ci < 10 → ∀ a, a < (clAt ci).2.2 → ∀ b, b < (clAt ci).2.2 → a ≠ b → ((clAt ci).2.1 a).2.1 ≠ ((clAt ci).2.1 b).2.1 := by decide +kernel
def fkT (t : FieldType) : Nat := match t with
  | .int => 0
  | .boolean => 2
  | .object _ => 1
  | .array _ => 1
  | _ => 9
theorem clKd : ∀ ci, ci < 10 → ∀ k, k < (clAt ci).2.2 → fkP ((clAt ci).2.1 k).2.2.1 = fkT (tyOf ci k) ∧ fkG ((clAt ci).2.1 k).2.2.1 = fkT (tyOf ci k) % 2 := by decide +kernel
theorem fkP_le (d : String) : fkP d ≤ 2 := by unfold fkP; split <;> omega
theorem fld_int {ad : Nat → Nat} {H : mH} {a k : Nat} (h : fkG ((clAt (TY a)).2.1 k).2.2.1 = 0) : fldV ad H a k = mval ad (vi (H.1 a k)) := by unfold fldV; rw [h]; rfl
theorem fld_ref {ad : Nat → Nat} {H : mH} {a k : Nat} (h : fkG ((clAt (TY a)).2.1 k).2.2.1 = 1) : fldV ad H a k = mval ad (vr (H.2.2.1 a k)) := by unfold fldV; rw [h]; exact va_rf_map ad _
theorem flds_set {ad : Nat → Nat} {H H' : mH} {a k N : Nat} {v : Value} (hk : fldV ad H' a k = v) (ho : ∀ j, j ≠ k → fldV ad H' a j = fldV ad H a j) : (List.range N).map (fldV ad H' a) = ((List.range N).map (fldV ad H a)).set k v := by
  apply List.ext_getElem?
  intro j
  by_cases hj : j = k
  · subst hj
    by_cases hl : j < N
    · rw [List.getElem?_set_self (by simpa using hl)]
      simp [hl, hk]
    · rw [List.getElem?_eq_none (by simpa using hl), List.getElem?_eq_none (by simpa using hl)]
  · rw [List.getElem?_set_ne (Ne.symm hj)]
    by_cases hl : j < N
    · simp [hl, ho j hj]
    · rw [List.getElem?_eq_none (by simpa using hl), List.getElem?_eq_none (by simpa using hl)]
theorem b01 {v : Int} (h : v = 0 ∨ v = 1) : narrow .boolean (.int (Int32.ofInt v)) = .int (Int32.ofInt v) ∧ fits .boolean (.int (Int32.ofInt v)) = true ∧ vp_nar .boolean (Int32.ofInt v) = Int32.ofInt v := by
  rcases h with rfl | rfl <;> exact ⟨by decide, by decide, by decide⟩
set_option maxRecDepth 20000 in
set_option maxHeartbeats 2000000 in
theorem cl_getfield {l : Launch} {n d y pc : Nat} {i : Nat} {len ia ib ic : Nat} {z : Int} {sw : List (Int × Nat)} {kc ks : Nat} {ls : mLs} {st : List mV} {H : mH} {K : mK} (hw : okRow (y, pc, .getfield i, len, (ia, ib, ic), z, sw) = true) (hstep : stepW n (Pr l n) (ent (Pr l n)) d (y, pc, .getfield i, len, (ia, ib, ic), z, sw) kc ks ls st H K) : Pr l n d y pc kc ks ls st H K := by
  obtain ⟨hdec, hins, hyl⟩ := okRow_sp hw
  simp only [okIns, Bool.and_eq_true, Bool.or_eq_true, decide_eq_true_eq, beq_iff_eq] at hins
  intro p e R s m args below meth c A D ad cA HH locs cells slots lsR QF ad0 nx0 hctx hroom hnest hro hend hst hls hlv hW hS hag hnx hkc hks
  obtain ⟨hx, hb, hr, hml, hown, hts, hlk, hini, hA⟩ := id hctx
  have nxt : ∀ {pc' : Nat} {st' : List mV}, Pr l n d y pc' kc ks ls st' H K → okS H.2.2.2 st' → W p l e R s m args below meth c HH locs cells slots QF (F0 m pc' lsR (st'.map (mval ad))) := fun h ok => h p e R s m args below meth c A D ad cA HH locs cells slots lsR QF ad0 nx0 hctx hroom hnest hro hend ok hls hlv hW hS hag hnx hkc hks
  have nxtL : ∀ {pc' : Nat} {st' : List mV} {ls' : mLs} {lsR' : Array Slot}, Pr l n d y pc' kc ks ls' st' H K → okS H.2.2.2 st' → okLs H.2.2.2 ls' → lv_has lsR' (mMax y) (lvOf ad ls') → W p l e R s m args below meth c HH locs cells slots QF (F0 m pc' lsR' (st'.map (mval ad))) := fun h ok okl hl => h p e R s m args below meth c A D ad cA HH locs cells slots _ QF ad0 nx0 hctx hroom hnest hro hend ok okl hl hW hS hag hnx hkc hks
  dsimp only [stepW] at hstep
  have nxtH : ∀ {pc' : Nat} {st' : List mV} {H' : mH} {HH1 : Heap} {locs1 : List Loc}, Pr l n d y pc' kc ks ls st' H' K → okS H.2.2.2 st' → H'.2.2.2 = H.2.2.2 → (∀ h, h < 16 → H'.1 h = H.1 h) → (∀ h, h < 16 → H'.2.2.1 h = H.2.2.1 h) → mW D n ad cA H' A s HH1 → va_S A s.heap HH1 locs1 → W p l e R s m args below meth c HH1 locs1 cells slots QF (F0 m pc' lsR (st'.map (mval ad))) := fun h ok e1 e2 e3 hW' hS' => h p e R s m args below meth c A D ad cA _ _ cells slots lsR QF ad0 nx0 hctx hroom hnest (mRO_congr e2 e3 hro) hend (by rw [e1]; exact ok) (by rw [e1]; exact hls) hlv hW' hS' (agH_H e2 e3 hag) (by rw [e1]; exact hnx) hkc hks
  obtain ⟨rfl, hins⟩ := hins
  obtain ⟨x, r, rfl, hs⟩ := eR_inv hstep
  obtain ⟨a, rfl, hs2⟩ := drf_inv hs
  obtain ⟨ht, hs3⟩ := chk_inv hs2
  have hta : TY a = ia := Nat.eq_of_beq_eq_true ht
  have hlt : a < H.2.2.2 := okS_h hst
  have hok := hW.2.2.2.2
  split at hins
  · obtain ⟨g1, g2⟩ := TY60 hta
    have e3 : 3 + (a - 3) = a := by omega
    have hq := hro.2.2.2.1 (a - 3) (by omega)
    rw [e3] at hq
    split at hins
    · simp only [Bool.and_eq_true, beq_iff_eq] at hins
      obtain ⟨rfl, hl⟩ := hins
      exact vk_getf hx hb hq.2.1 hS hown (hts _ (wAt_sp hl rfl)) (fun _ h => h) hdec (nxt hs3 (okS_c (v := vi (H.1 a 0)) (hok.2.1 a 0) (okS_t hst)))
    · simp only [Bool.and_eq_true, beq_iff_eq] at hins
      obtain ⟨⟨rfl, rfl⟩, hl⟩ := hins
      have hv := hq.2.2.1
      rw [va_rf_map] at hv
      refine vk_getf hx hb hv hS hown (hts _ (wAt_sp hl rfl)) (fun _ h => h) hdec (nxt hs3 (okS_c (v := vr (H.2.2.1 a 1)) ?_ (okS_t hst)))
      cases hz : H.2.2.1 a 1 with
      | none => trivial
      | some b => exact hok.2.2.1 a 1 b hz
  · simp only [Bool.and_eq_true, beq_iff_eq, decide_eq_true_eq] at hins
    obtain ⟨⟨⟨⟨h10, hk⟩, hown1⟩, hl⟩, hic⟩ := hins
    have h10 : ia < 10 := Nat.lt_of_succ_le (Nat.le_of_ble_eq_true h10)
    have hk : ib < (clAt ia).2.2 := Nat.lt_of_succ_le (Nat.le_of_ble_eq_true hk)
    subst hta
    have h16 := hi_of (h := a) (by omega)
    have hfs : ((List.range (clAt (TY a)).2.2).map (fldV ad H a))[ib]? = some (fldV ad H a ib) := by simp [hk]
    refine va_get (ci := TY a) (C := (clAt (TY a)).1) (T := (clAt (TY a)).2.1) (N := (clAt (TY a)).2.2) hx hb hts (clWs _ h10) hown hW.2.2.1 hW.1 (a - 16) (by rw [mws_at h16 hlt, mcell_obj (by omega)]) (clAt_in h10) ib hk (hts _ (wAt_sp hl rfl)) (by rw [hown1]; exact fun _ h => h) hfs hdec ?_
    have hkd := (clKd _ h10 ib hk).2
    split at hs3
    · rw [fld_ref (by omega)]
      refine nxt hs3 (okS_c (v := vr (H.2.2.1 a ib)) ?_ (okS_t hst))
      cases hz : H.2.2.1 a ib with
      | none => trivial
      | some b => exact hok.2.2.1 a ib b hz
    · rename_i hne
      have hne2 : ic ≠ 1 := hne
      rw [fld_int (by omega)]
      exact nxt hs3 (okS_c (v := vi (H.1 a ib)) (hok.2.1 a ib) (okS_t hst))
set_option maxRecDepth 20000 in
set_option maxHeartbeats 2000000 in
theorem cl_putfield {l : Launch} {n d y pc : Nat} {i : Nat} {len ia ib ic : Nat} {z : Int} {sw : List (Int × Nat)} {kc ks : Nat} {ls : mLs} {st : List mV} {H : mH} {K : mK} (hw : okRow (y, pc, .putfield i, len, (ia, ib, ic), z, sw) = true) (hstep : stepW n (Pr l n) (ent (Pr l n)) d (y, pc, .putfield i, len, (ia, ib, ic), z, sw) kc ks ls st H K) : Pr l n d y pc kc ks ls st H K := by
  obtain ⟨hdec, hins, hyl⟩ := okRow_sp hw
  simp only [okIns, Bool.and_eq_true, Bool.or_eq_true, decide_eq_true_eq, beq_iff_eq] at hins
  intro p e R s m args below meth c A D ad cA HH locs cells slots lsR QF ad0 nx0 hctx hroom hnest hro hend hst hls hlv hW hS hag hnx hkc hks
  obtain ⟨hx, hb, hr, hml, hown, hts, hlk, hini, hA⟩ := id hctx
  have nxt : ∀ {pc' : Nat} {st' : List mV}, Pr l n d y pc' kc ks ls st' H K → okS H.2.2.2 st' → W p l e R s m args below meth c HH locs cells slots QF (F0 m pc' lsR (st'.map (mval ad))) := fun h ok => h p e R s m args below meth c A D ad cA HH locs cells slots lsR QF ad0 nx0 hctx hroom hnest hro hend ok hls hlv hW hS hag hnx hkc hks
  have nxtL : ∀ {pc' : Nat} {st' : List mV} {ls' : mLs} {lsR' : Array Slot}, Pr l n d y pc' kc ks ls' st' H K → okS H.2.2.2 st' → okLs H.2.2.2 ls' → lv_has lsR' (mMax y) (lvOf ad ls') → W p l e R s m args below meth c HH locs cells slots QF (F0 m pc' lsR' (st'.map (mval ad))) := fun h ok okl hl => h p e R s m args below meth c A D ad cA HH locs cells slots _ QF ad0 nx0 hctx hroom hnest hro hend ok okl hl hW hS hag hnx hkc hks
  dsimp only [stepW] at hstep
  have nxtH : ∀ {pc' : Nat} {st' : List mV} {H' : mH} {HH1 : Heap} {locs1 : List Loc}, Pr l n d y pc' kc ks ls st' H' K → okS H.2.2.2 st' → H'.2.2.2 = H.2.2.2 → (∀ h, h < 16 → H'.1 h = H.1 h) → (∀ h, h < 16 → H'.2.2.1 h = H.2.2.1 h) → mW D n ad cA H' A s HH1 → va_S A s.heap HH1 locs1 → W p l e R s m args below meth c HH1 locs1 cells slots QF (F0 m pc' lsR (st'.map (mval ad))) := fun h ok e1 e2 e3 hW' hS' => h p e R s m args below meth c A D ad cA _ _ cells slots lsR QF ad0 nx0 hctx hroom hnest (mRO_congr e2 e3 hro) hend (by rw [e1]; exact ok) (by rw [e1]; exact hls) hlv hW' hS' (agH_H e2 e3 hag) (by rw [e1]; exact hnx) hkc hks
  obtain ⟨⟨⟨⟨⟨⟨rfl, h10⟩, hk⟩, hown1⟩, hl⟩, hic⟩, hfin⟩ := hins
  have h10 : ia < 10 := Nat.lt_of_succ_le (Nat.le_of_ble_eq_true h10)
  have hk : ib < (clAt ia).2.2 := Nat.lt_of_succ_le (Nat.le_of_ble_eq_true hk)
  simp only [Bool.not_eq_true', Bool.and_eq_true, decide_eq_true_eq] at hfin
  have hok := hW.2.2.2.2
  split at hstep
  · obtain ⟨x, v, r, rfl, hs⟩ := eRR_inv hstep
    obtain ⟨a, rfl, hs2⟩ := drf_inv hs
    obtain ⟨ht, hs9⟩ := chk_inv hs2
    have hta : TY a = ia := Nat.eq_of_beq_eq_true ht
    have hlt : a < H.2.2.2 := okS_h (okS_t hst)
    subst hta
    have h16 := hi_of (h := a) (by omega)
    have hkd := clKd _ h10 ib hk
    have hv : ∀ b, v = some b → b < H.2.2.2 := fun b hb => by subst hb; exact okS_h hst
    have hn1 : narrow (tyOf (TY a) ib) (mval ad (vr v)) = mval ad (vr v) ∧ fits (tyOf (TY a) ib) (mval ad (vr v)) = true := by
      have h1 : fkT (tyOf (TY a) ib) = 1 := by omega
      generalize tyOf (TY a) ib = ty at h1
      cases ty <;> first | (simp [fkT] at h1; done) | (cases v <;> exact ⟨rfl, rfl⟩)
    obtain ⟨hn1, hn2⟩ := hn1
    have e9 : mcell n ad cA (H.1, H.2.1, up2R H.2.2.1 a ib v, H.2.2.2) a = .inr (TY a, ((List.range (clAt (TY a)).2.2).map (fldV ad H a)).set ib (mval ad (vr v))) := by
      rw [mcell_obj (by omega), flds_set (k := ib) (H := H) (v := mval ad (vr v)) (by rw [fld_ref (by omega)]; simp [up2R]) (fun j hj => by unfold fldV; simp only [up2R, hj, and_false, if_false])]
    have fin : ∀ (HH1 : Heap) (locs1 : List Loc), va_P D vwCl ((mws n ad cA H).set (a - 16) (ad a, .inr (TY a, ((List.range (clAt (TY a)).2.2).map (fldV ad H a)).set ib (mval ad (vr v))))) HH1 → va_D A ((mws n ad cA H).set (a - 16) (ad a, .inr (TY a, ((List.range (clAt (TY a)).2.2).map (fldV ad H a)).set ib (mval ad (vr v))))) → va_S A s.heap HH1 locs1 → W p l e R s m args below meth c HH1 locs1 cells slots QF (F0 m (pc + 3) lsR (r.map (mval ad))) := fun HH1 locs1 hP1 hD1 hS1 => nxtH hs9 (okS_t (okS_t hst)) rfl (fun h hh => by rfl) (fun h hh => by exact up2R_ne (by omega)) (mW_set hW h16 hlt rfl (fun h hh => ⟨rfl, rfl, up2R_ne hh⟩) (okH_R hok hlt hv) e9 hP1 hD1) hS1
    by_cases hf : ((clAt (TY a)).2.1 ib).2.2.2 = true
    · have hf2 : (mNm y).name = "<init>" ∧ (clAt (TY a)).1 = mOwn y := by
        rcases hfin with q | q
        · rw [hf] at q; cases q
        · exact q
      exact va_putF (ci := TY a) (ty := tyOf (TY a) ib) (C := (clAt (TY a)).1) (T := (clAt (TY a)).2.1) (N := (clAt (TY a)).2.2) hx hb hts (clWs _ h10) (tyOf (TY a)) (clTy _ h10) (clNm _ h10) hown hW.2.2.1 hW.1 hW.2.1 hS (a - 16) (by rw [mws_at h16 hlt, mcell_obj (by omega)]) (clAt_in h10) ib hk (hts _ (wAt_sp hl rfl)) (by rw [hown1]; exact fun _ h => h) hf (hini hf2.1) (hown1.trans hf2.2) (clTy _ h10 ib hk) hn1 hn2 (by simp [hk]) hdec fin
    · exact va_put (ci := TY a) (ty := tyOf (TY a) ib) (C := (clAt (TY a)).1) (T := (clAt (TY a)).2.1) (N := (clAt (TY a)).2.2) hx hb hts (clWs _ h10) (tyOf (TY a)) (clTy _ h10) (clNm _ h10) hown hW.2.2.1 hW.1 hW.2.1 hS (a - 16) (by rw [mws_at h16 hlt, mcell_obj (by omega)]) (clAt_in h10) ib hk (hts _ (wAt_sp hl rfl)) (by rw [hown1]; exact fun _ h => h) (by simpa using hf) (clTy _ h10 ib hk) hn1 hn2 (by simp [hk]) hdec fin
  · obtain ⟨x, v, r, rfl, hs⟩ := eRI_inv hstep
    obtain ⟨a, rfl, hs2⟩ := drf_inv hs
    obtain ⟨ht, hs8⟩ := chk_inv hs2
    obtain ⟨hb01, hs9⟩ := b01W_inv hs8
    have hta : TY a = ia := Nat.eq_of_beq_eq_true ht
    have hlt : a < H.2.2.2 := okS_h (okS_t hst)
    subst hta
    have h16 := hi_of (h := a) (by omega)
    have hkd := clKd _ h10 ib hk
    have hv : -2147483648 ≤ v ∧ v < 2147483648 := okS_h hst
    have hn1 : narrow (tyOf (TY a) ib) (mval ad (vi v)) = mval ad (vi v) ∧ fits (tyOf (TY a) ib) (mval ad (vi v)) = true := by
      have h1 : fkT (tyOf (TY a) ib) = 2 := by omega
      generalize tyOf (TY a) ib = ty at h1
      cases ty <;> first | (simp [fkT] at h1; done) | exact ⟨(b01 hb01).1, (b01 hb01).2.1⟩
    obtain ⟨hn1, hn2⟩ := hn1
    have e9 : mcell n ad cA (up2 H.1 a ib v, H.2) a = .inr (TY a, ((List.range (clAt (TY a)).2.2).map (fldV ad H a)).set ib (mval ad (vi v))) := by
      rw [mcell_obj (by omega), flds_set (k := ib) (H := H) (v := mval ad (vi v)) (by rw [fld_int (by omega)]; simp [up2]) (fun j hj => by unfold fldV; simp only [up2, hj, and_false, if_false])]
    have fin : ∀ (HH1 : Heap) (locs1 : List Loc), va_P D vwCl ((mws n ad cA H).set (a - 16) (ad a, .inr (TY a, ((List.range (clAt (TY a)).2.2).map (fldV ad H a)).set ib (mval ad (vi v))))) HH1 → va_D A ((mws n ad cA H).set (a - 16) (ad a, .inr (TY a, ((List.range (clAt (TY a)).2.2).map (fldV ad H a)).set ib (mval ad (vi v))))) → va_S A s.heap HH1 locs1 → W p l e R s m args below meth c HH1 locs1 cells slots QF (F0 m (pc + 3) lsR (r.map (mval ad))) := fun HH1 locs1 hP1 hD1 hS1 => nxtH hs9 (okS_t (okS_t hst)) rfl (fun h hh => by exact up2_ne (by omega)) (fun h hh => by rfl) (mW_set hW h16 hlt rfl (fun h hh => ⟨up2_ne hh, rfl, rfl⟩) (okH_I hok hlt hv) e9 hP1 hD1) hS1
    by_cases hf : ((clAt (TY a)).2.1 ib).2.2.2 = true
    · have hf2 : (mNm y).name = "<init>" ∧ (clAt (TY a)).1 = mOwn y := by
        rcases hfin with q | q
        · rw [hf] at q; cases q
        · exact q
      exact va_putF (ci := TY a) (ty := tyOf (TY a) ib) (C := (clAt (TY a)).1) (T := (clAt (TY a)).2.1) (N := (clAt (TY a)).2.2) hx hb hts (clWs _ h10) (tyOf (TY a)) (clTy _ h10) (clNm _ h10) hown hW.2.2.1 hW.1 hW.2.1 hS (a - 16) (by rw [mws_at h16 hlt, mcell_obj (by omega)]) (clAt_in h10) ib hk (hts _ (wAt_sp hl rfl)) (by rw [hown1]; exact fun _ h => h) hf (hini hf2.1) (hown1.trans hf2.2) (clTy _ h10 ib hk) hn1 hn2 (by simp [hk]) hdec fin
    · exact va_put (ci := TY a) (ty := tyOf (TY a) ib) (C := (clAt (TY a)).1) (T := (clAt (TY a)).2.1) (N := (clAt (TY a)).2.2) hx hb hts (clWs _ h10) (tyOf (TY a)) (clTy _ h10) (clNm _ h10) hown hW.2.2.1 hW.1 hW.2.1 hS (a - 16) (by rw [mws_at h16 hlt, mcell_obj (by omega)]) (clAt_in h10) ib hk (hts _ (wAt_sp hl rfl)) (by rw [hown1]; exact fun _ h => h) (by simpa using hf) (clTy _ h10 ib hk) hn1 hn2 (by simp [hk]) hdec fin
  · rename_i hne1 hne2
    obtain ⟨x, v, r, rfl, hs⟩ := eRI_inv hstep
    obtain ⟨a, rfl, hs2⟩ := drf_inv hs
    obtain ⟨ht, hs9⟩ := chk_inv hs2
    have hta : TY a = ia := Nat.eq_of_beq_eq_true ht
    have hlt : a < H.2.2.2 := okS_h (okS_t hst)
    subst hta
    have h16 := hi_of (h := a) (by omega)
    have hkd := clKd _ h10 ib hk
    have hv : -2147483648 ≤ v ∧ v < 2147483648 := okS_h hst
    have hfk0 : fkT (tyOf (TY a) ib) = 0 := by
      have hn9 := fkP_le ((clAt (TY a)).2.1 ib).2.2.1
      have hne3 : ic ≠ 1 := hne1
      have hne4 : ic ≠ 2 := hne2
      omega
    have hn1 : narrow (tyOf (TY a) ib) (mval ad (vi v)) = mval ad (vi v) ∧ fits (tyOf (TY a) ib) (mval ad (vi v)) = true := by
      have h1 : fkT (tyOf (TY a) ib) ≠ 1 ∧ fkT (tyOf (TY a) ib) ≠ 2 ∧ fkT (tyOf (TY a) ib) ≠ 9 := ⟨by omega, by omega, by omega⟩
      generalize tyOf (TY a) ib = ty at h1
      cases ty <;> first | (simp [fkT] at h1; done) | exact ⟨rfl, rfl⟩
    obtain ⟨hn1, hn2⟩ := hn1
    have e9 : mcell n ad cA (up2 H.1 a ib v, H.2) a = .inr (TY a, ((List.range (clAt (TY a)).2.2).map (fldV ad H a)).set ib (mval ad (vi v))) := by
      rw [mcell_obj (by omega), flds_set (k := ib) (H := H) (v := mval ad (vi v)) (by rw [fld_int (by omega)]; simp [up2]) (fun j hj => by unfold fldV; simp only [up2, hj, and_false, if_false])]
    have fin : ∀ (HH1 : Heap) (locs1 : List Loc), va_P D vwCl ((mws n ad cA H).set (a - 16) (ad a, .inr (TY a, ((List.range (clAt (TY a)).2.2).map (fldV ad H a)).set ib (mval ad (vi v))))) HH1 → va_D A ((mws n ad cA H).set (a - 16) (ad a, .inr (TY a, ((List.range (clAt (TY a)).2.2).map (fldV ad H a)).set ib (mval ad (vi v))))) → va_S A s.heap HH1 locs1 → W p l e R s m args below meth c HH1 locs1 cells slots QF (F0 m (pc + 3) lsR (r.map (mval ad))) := fun HH1 locs1 hP1 hD1 hS1 => nxtH hs9 (okS_t (okS_t hst)) rfl (fun h hh => by exact up2_ne (by omega)) (fun h hh => by rfl) (mW_set hW h16 hlt rfl (fun h hh => ⟨up2_ne hh, rfl, rfl⟩) (okH_I hok hlt hv) e9 hP1 hD1) hS1
    by_cases hf : ((clAt (TY a)).2.1 ib).2.2.2 = true
    · have hf2 : (mNm y).name = "<init>" ∧ (clAt (TY a)).1 = mOwn y := by
        rcases hfin with q | q
        · rw [hf] at q; cases q
        · exact q
      exact va_putF (ci := TY a) (ty := tyOf (TY a) ib) (C := (clAt (TY a)).1) (T := (clAt (TY a)).2.1) (N := (clAt (TY a)).2.2) hx hb hts (clWs _ h10) (tyOf (TY a)) (clTy _ h10) (clNm _ h10) hown hW.2.2.1 hW.1 hW.2.1 hS (a - 16) (by rw [mws_at h16 hlt, mcell_obj (by omega)]) (clAt_in h10) ib hk (hts _ (wAt_sp hl rfl)) (by rw [hown1]; exact fun _ h => h) hf (hini hf2.1) (hown1.trans hf2.2) (clTy _ h10 ib hk) hn1 hn2 (by simp [hk]) hdec fin
    · exact va_put (ci := TY a) (ty := tyOf (TY a) ib) (C := (clAt (TY a)).1) (T := (clAt (TY a)).2.1) (N := (clAt (TY a)).2.2) hx hb hts (clWs _ h10) (tyOf (TY a)) (clTy _ h10) (clNm _ h10) hown hW.2.2.1 hW.1 hW.2.1 hS (a - 16) (by rw [mws_at h16 hlt, mcell_obj (by omega)]) (clAt_in h10) ib hk (hts _ (wAt_sp hl rfl)) (by rw [hown1]; exact fun _ h => h) (by simpa using hf) (clTy _ h10 ib hk) hn1 hn2 (by simp [hk]) hdec fin
set_option maxRecDepth 20000 in
set_option maxHeartbeats 2000000 in
theorem cl_arraylength {l : Launch} {n d y pc : Nat} {len ia ib ic : Nat} {z : Int} {sw : List (Int × Nat)} {kc ks : Nat} {ls : mLs} {st : List mV} {H : mH} {K : mK} (hw : okRow (y, pc, .arraylength, len, (ia, ib, ic), z, sw) = true) (hstep : stepW n (Pr l n) (ent (Pr l n)) d (y, pc, .arraylength, len, (ia, ib, ic), z, sw) kc ks ls st H K) : Pr l n d y pc kc ks ls st H K := by
  obtain ⟨hdec, hins, hyl⟩ := okRow_sp hw
  simp only [okIns, Bool.and_eq_true, Bool.or_eq_true, decide_eq_true_eq, beq_iff_eq] at hins
  intro p e R s m args below meth c A D ad cA HH locs cells slots lsR QF ad0 nx0 hctx hroom hnest hro hend hst hls hlv hW hS hag hnx hkc hks
  obtain ⟨hx, hb, hr, hml, hown, hts, hlk, hini, hA⟩ := id hctx
  have nxt : ∀ {pc' : Nat} {st' : List mV}, Pr l n d y pc' kc ks ls st' H K → okS H.2.2.2 st' → W p l e R s m args below meth c HH locs cells slots QF (F0 m pc' lsR (st'.map (mval ad))) := fun h ok => h p e R s m args below meth c A D ad cA HH locs cells slots lsR QF ad0 nx0 hctx hroom hnest hro hend ok hls hlv hW hS hag hnx hkc hks
  have nxtL : ∀ {pc' : Nat} {st' : List mV} {ls' : mLs} {lsR' : Array Slot}, Pr l n d y pc' kc ks ls' st' H K → okS H.2.2.2 st' → okLs H.2.2.2 ls' → lv_has lsR' (mMax y) (lvOf ad ls') → W p l e R s m args below meth c HH locs cells slots QF (F0 m pc' lsR' (st'.map (mval ad))) := fun h ok okl hl => h p e R s m args below meth c A D ad cA HH locs cells slots _ QF ad0 nx0 hctx hroom hnest hro hend ok okl hl hW hS hag hnx hkc hks
  dsimp only [stepW] at hstep
  have nxtH : ∀ {pc' : Nat} {st' : List mV} {H' : mH} {HH1 : Heap} {locs1 : List Loc}, Pr l n d y pc' kc ks ls st' H' K → okS H.2.2.2 st' → H'.2.2.2 = H.2.2.2 → (∀ h, h < 16 → H'.1 h = H.1 h) → (∀ h, h < 16 → H'.2.2.1 h = H.2.2.1 h) → mW D n ad cA H' A s HH1 → va_S A s.heap HH1 locs1 → W p l e R s m args below meth c HH1 locs1 cells slots QF (F0 m pc' lsR (st'.map (mval ad))) := fun h ok e1 e2 e3 hW' hS' => h p e R s m args below meth c A D ad cA _ _ cells slots lsR QF ad0 nx0 hctx hroom hnest (mRO_congr e2 e3 hro) hend (by rw [e1]; exact ok) (by rw [e1]; exact hls) hlv hW' hS' (agH_H e2 e3 hag) (by rw [e1]; exact hnx) hkc hks
  obtain rfl := hins
  obtain ⟨x, r, rfl, hs⟩ := eR_inv hstep
  obtain ⟨a, rfl, hs2⟩ := drf_inv hs
  obtain ⟨ht, hs3⟩ := chk_inv hs2
  have ht : 100 ≤ TY a := Nat.le_of_ble_eq_true ht
  have hlt : a < H.2.2.2 := okS_h hst
  have hn31 := hro.2.2.2.2.2.2.2.2
  rcases Nat.lt_or_ge a 16 with hlo | h16
  · have hL : LN n a < 2147483648 := by
      rcases Nat.eq_zero_or_pos a with q | q
      · subst q; exact hn31
      · have := LN_le (n := n) (h := a) (by omega)
        omega
    have key : ∃ ty f, va_T ty (ad a) (LN n a) f A s s.heap := by
      have h3 := TY_lo a hlo
      rcases h3 with h3 | h3 | h3 | h3
      · have h4 := TY105 h3
        rcases (show a = 0 ∨ a = 1 ∨ a = 2 by omega) with rfl | rfl | rfl
        · exact ⟨_, _, hro.1⟩
        · exact ⟨_, _, hro.2.1⟩
        · exact ⟨_, _, hro.2.2.1⟩
      · omega
      · obtain ⟨g1, g2⟩ := TY104 h3
        have hq := hro.2.2.2.1 (a - 9) (by omega)
        rw [show 9 + (a - 9) = a by omega] at hq
        exact ⟨_, _, hq.2.2.2⟩
      · omega
    obtain ⟨ty, f, hT⟩ := key
    exact va_tlen hx hb hT hS (ofNat_ofInt _) hdec (nxt hs3 (okS_c (v := vi (LN n a : Int)) ⟨by omega, by omega⟩ (okS_t hst)))
  · have hL := LN_le (n := n) (h := a) (by omega)
    have hAr := hW.2.2.2.1 a h16 hlt ht
    exact va_alen (tys := [(cA a, ety a)]) hx hb ⟨hW.2.2.1.1, fun k q hq => by
      cases k with
      | zero => simp at hq; subst hq; exact hAr
      | succ k => simp at hq⟩ hW.1 (a - 16) 0 (x := (LN n a, (arrC ad H a).2)) (by rw [mws_at h16 hlt, mcell_arr ht]) (ty := ety a) rfl (v := Int32.ofInt (LN n a : Int)) (ofNat_ofInt _) hdec (nxt hs3 (okS_c (v := vi (LN n a : Int)) ⟨by omega, by omega⟩ (okS_t hst)))
set_option maxRecDepth 20000 in
set_option maxHeartbeats 2000000 in
theorem cl_iaload {l : Launch} {n d y pc : Nat} {len ia ib ic : Nat} {z : Int} {sw : List (Int × Nat)} {kc ks : Nat} {ls : mLs} {st : List mV} {H : mH} {K : mK} (hw : okRow (y, pc, .iaload, len, (ia, ib, ic), z, sw) = true) (hstep : stepW n (Pr l n) (ent (Pr l n)) d (y, pc, .iaload, len, (ia, ib, ic), z, sw) kc ks ls st H K) : Pr l n d y pc kc ks ls st H K := by
  obtain ⟨hdec, hins, hyl⟩ := okRow_sp hw
  simp only [okIns, Bool.and_eq_true, Bool.or_eq_true, decide_eq_true_eq, beq_iff_eq] at hins
  intro p e R s m args below meth c A D ad cA HH locs cells slots lsR QF ad0 nx0 hctx hroom hnest hro hend hst hls hlv hW hS hag hnx hkc hks
  obtain ⟨hx, hb, hr, hml, hown, hts, hlk, hini, hA⟩ := id hctx
  have nxt : ∀ {pc' : Nat} {st' : List mV}, Pr l n d y pc' kc ks ls st' H K → okS H.2.2.2 st' → W p l e R s m args below meth c HH locs cells slots QF (F0 m pc' lsR (st'.map (mval ad))) := fun h ok => h p e R s m args below meth c A D ad cA HH locs cells slots lsR QF ad0 nx0 hctx hroom hnest hro hend ok hls hlv hW hS hag hnx hkc hks
  have nxtL : ∀ {pc' : Nat} {st' : List mV} {ls' : mLs} {lsR' : Array Slot}, Pr l n d y pc' kc ks ls' st' H K → okS H.2.2.2 st' → okLs H.2.2.2 ls' → lv_has lsR' (mMax y) (lvOf ad ls') → W p l e R s m args below meth c HH locs cells slots QF (F0 m pc' lsR' (st'.map (mval ad))) := fun h ok okl hl => h p e R s m args below meth c A D ad cA HH locs cells slots _ QF ad0 nx0 hctx hroom hnest hro hend ok okl hl hW hS hag hnx hkc hks
  dsimp only [stepW] at hstep
  have nxtH : ∀ {pc' : Nat} {st' : List mV} {H' : mH} {HH1 : Heap} {locs1 : List Loc}, Pr l n d y pc' kc ks ls st' H' K → okS H.2.2.2 st' → H'.2.2.2 = H.2.2.2 → (∀ h, h < 16 → H'.1 h = H.1 h) → (∀ h, h < 16 → H'.2.2.1 h = H.2.2.1 h) → mW D n ad cA H' A s HH1 → va_S A s.heap HH1 locs1 → W p l e R s m args below meth c HH1 locs1 cells slots QF (F0 m pc' lsR (st'.map (mval ad))) := fun h ok e1 e2 e3 hW' hS' => h p e R s m args below meth c A D ad cA _ _ cells slots lsR QF ad0 nx0 hctx hroom hnest (mRO_congr e2 e3 hro) hend (by rw [e1]; exact ok) (by rw [e1]; exact hls) hlv hW' hS' (agH_H e2 e3 hag) (by rw [e1]; exact hnx) hkc hks
  obtain rfl := hins
  obtain ⟨x, i, r, rfl, hs⟩ := eRI_inv hstep
  obtain ⟨a, rfl, hs2⟩ := drf_inv hs
  obtain ⟨ht, hin, hs3⟩ := chk_inv hs2
  have hlt : a < H.2.2.2 := okS_h (okS_t hst)
  have hi0 : okV H.2.2.2 (vi i) := okS_h hst
  have hok := hW.2.2.2.2
  
  have hn31 := hro.2.2.2.2.2.2.2.2
  simp only [Bool.or_eq_true] at ht
  rcases ht with ht | ht
  · have ht : TY a = 100 := Nat.eq_of_beq_eq_true ht
    have h16 := hi_of (h := a) (by omega)
    have hL := LN_le (n := n) (h := a) (by omega)
    have hAr := hW.2.2.2.1 a h16 hlt (by omega)
    rw [show ety a = .int by simp [ety, ht]] at hAr
    refine va_iald (tys := [(cA a, .int)]) hx hb ⟨hW.2.2.1.1, fun k q hq => by
      cases k with
      | zero => simp at hq; subst hq; exact hAr
      | succ k => simp at hq⟩ hW.1 (a - 16) 0 (by rw [mws_at h16 hlt, mcell_int (Or.inl ht)]) rfl (in_ofInt hin (by omega)) hdec ?_
    rw [clamp_ofInt hin (by omega)]
    exact nxt hs3 (okS_c (v := vi (H.1 a i.toNat)) (hok.2.1 _ _) (okS_t (okS_t hst)))
  · have ht : TY a = 105 := Nat.eq_of_beq_eq_true ht
    have h4 := TY105 ht
    have hL : LN n a < 2147483648 := by
      rcases Nat.eq_zero_or_pos a with q | q
      · subst q; exact hn31
      · have := LN_le (n := n) (h := a) (by omega)
        omega
    have key : va_T .int (ad a) (LN n a) (fun j => .int (Int32.ofInt (H.1 a j))) A s s.heap := by
      rcases (show a = 0 ∨ a = 1 ∨ a = 2 by omega) with rfl | rfl | rfl
      · exact hro.1
      · exact hro.2.1
      · exact hro.2.2.1
    exact va_ti hx hb key hS (in_ofInt hin hL) (v := mval ad (vi (H.1 a i.toNat))) (by rw [clamp_ofInt hin hL]; rfl) hdec (nxt hs3 (okS_c (v := vi (H.1 a i.toNat)) (hok.2.1 _ _) (okS_t (okS_t hst))))
set_option maxRecDepth 20000 in
set_option maxHeartbeats 2000000 in
theorem cl_baload {l : Launch} {n d y pc : Nat} {len ia ib ic : Nat} {z : Int} {sw : List (Int × Nat)} {kc ks : Nat} {ls : mLs} {st : List mV} {H : mH} {K : mK} (hw : okRow (y, pc, .baload, len, (ia, ib, ic), z, sw) = true) (hstep : stepW n (Pr l n) (ent (Pr l n)) d (y, pc, .baload, len, (ia, ib, ic), z, sw) kc ks ls st H K) : Pr l n d y pc kc ks ls st H K := by
  obtain ⟨hdec, hins, hyl⟩ := okRow_sp hw
  simp only [okIns, Bool.and_eq_true, Bool.or_eq_true, decide_eq_true_eq, beq_iff_eq] at hins
  intro p e R s m args below meth c A D ad cA HH locs cells slots lsR QF ad0 nx0 hctx hroom hnest hro hend hst hls hlv hW hS hag hnx hkc hks
  obtain ⟨hx, hb, hr, hml, hown, hts, hlk, hini, hA⟩ := id hctx
  have nxt : ∀ {pc' : Nat} {st' : List mV}, Pr l n d y pc' kc ks ls st' H K → okS H.2.2.2 st' → W p l e R s m args below meth c HH locs cells slots QF (F0 m pc' lsR (st'.map (mval ad))) := fun h ok => h p e R s m args below meth c A D ad cA HH locs cells slots lsR QF ad0 nx0 hctx hroom hnest hro hend ok hls hlv hW hS hag hnx hkc hks
  have nxtL : ∀ {pc' : Nat} {st' : List mV} {ls' : mLs} {lsR' : Array Slot}, Pr l n d y pc' kc ks ls' st' H K → okS H.2.2.2 st' → okLs H.2.2.2 ls' → lv_has lsR' (mMax y) (lvOf ad ls') → W p l e R s m args below meth c HH locs cells slots QF (F0 m pc' lsR' (st'.map (mval ad))) := fun h ok okl hl => h p e R s m args below meth c A D ad cA HH locs cells slots _ QF ad0 nx0 hctx hroom hnest hro hend ok okl hl hW hS hag hnx hkc hks
  dsimp only [stepW] at hstep
  have nxtH : ∀ {pc' : Nat} {st' : List mV} {H' : mH} {HH1 : Heap} {locs1 : List Loc}, Pr l n d y pc' kc ks ls st' H' K → okS H.2.2.2 st' → H'.2.2.2 = H.2.2.2 → (∀ h, h < 16 → H'.1 h = H.1 h) → (∀ h, h < 16 → H'.2.2.1 h = H.2.2.1 h) → mW D n ad cA H' A s HH1 → va_S A s.heap HH1 locs1 → W p l e R s m args below meth c HH1 locs1 cells slots QF (F0 m pc' lsR (st'.map (mval ad))) := fun h ok e1 e2 e3 hW' hS' => h p e R s m args below meth c A D ad cA _ _ cells slots lsR QF ad0 nx0 hctx hroom hnest (mRO_congr e2 e3 hro) hend (by rw [e1]; exact ok) (by rw [e1]; exact hls) hlv hW' hS' (agH_H e2 e3 hag) (by rw [e1]; exact hnx) hkc hks
  obtain rfl := hins
  obtain ⟨x, i, r, rfl, hs⟩ := eRI_inv hstep
  obtain ⟨a, rfl, hs2⟩ := drf_inv hs
  obtain ⟨ht, hin, hs3⟩ := chk_inv hs2
  have hlt : a < H.2.2.2 := okS_h (okS_t hst)
  have hi0 : okV H.2.2.2 (vi i) := okS_h hst
  have hok := hW.2.2.2.2
  
  simp only [Bool.or_eq_true] at ht
  rcases ht with ht | ht
  · have ht : TY a = 102 := Nat.eq_of_beq_eq_true ht
    have h16 := hi_of (h := a) (by omega)
    have hL := LN_le (n := n) (h := a) (by omega)
    have hAr := hW.2.2.2.1 a h16 hlt (by omega)
    rw [show ety a = .boolean by simp [ety, ht]] at hAr
    refine va_zald (tys := [(cA a, .boolean)]) hx hb ⟨hW.2.2.1.1, fun k q hq => by
      cases k with
      | zero => simp at hq; subst hq; exact hAr
      | succ k => simp at hq⟩ hW.1 (a - 16) 0 (by rw [mws_at h16 hlt, mcell_int (Or.inr ht)]) rfl (in_ofInt hin (by omega)) hdec ?_
    rw [clamp_ofInt hin (by omega)]
    exact nxt hs3 (okS_c (v := vi (H.1 a i.toNat)) (hok.2.1 _ _) (okS_t (okS_t hst)))
  · have ht : TY a = 104 := Nat.eq_of_beq_eq_true ht
    obtain ⟨g1, g2⟩ := TY104 ht
    have hL := LN_le (n := n) (h := a) (by omega)
    have hq := hro.2.2.2.1 (a - 9) (by omega)
    rw [show 9 + (a - 9) = a by omega] at hq
    exact va_tb hx hb hq.2.2.2 hS (in_ofInt hin (by omega)) (v := mval ad (vi (H.1 a i.toNat))) (by rw [clamp_ofInt hin (by omega)]; rfl) hdec (nxt hs3 (okS_c (v := vi (H.1 a i.toNat)) (hok.2.1 _ _) (okS_t (okS_t hst))))
set_option maxRecDepth 20000 in
set_option maxHeartbeats 2000000 in
theorem cl_laload {l : Launch} {n d y pc : Nat} {len ia ib ic : Nat} {z : Int} {sw : List (Int × Nat)} {kc ks : Nat} {ls : mLs} {st : List mV} {H : mH} {K : mK} (hw : okRow (y, pc, .laload, len, (ia, ib, ic), z, sw) = true) (hstep : stepW n (Pr l n) (ent (Pr l n)) d (y, pc, .laload, len, (ia, ib, ic), z, sw) kc ks ls st H K) : Pr l n d y pc kc ks ls st H K := by
  obtain ⟨hdec, hins, hyl⟩ := okRow_sp hw
  simp only [okIns, Bool.and_eq_true, Bool.or_eq_true, decide_eq_true_eq, beq_iff_eq] at hins
  intro p e R s m args below meth c A D ad cA HH locs cells slots lsR QF ad0 nx0 hctx hroom hnest hro hend hst hls hlv hW hS hag hnx hkc hks
  obtain ⟨hx, hb, hr, hml, hown, hts, hlk, hini, hA⟩ := id hctx
  have nxt : ∀ {pc' : Nat} {st' : List mV}, Pr l n d y pc' kc ks ls st' H K → okS H.2.2.2 st' → W p l e R s m args below meth c HH locs cells slots QF (F0 m pc' lsR (st'.map (mval ad))) := fun h ok => h p e R s m args below meth c A D ad cA HH locs cells slots lsR QF ad0 nx0 hctx hroom hnest hro hend ok hls hlv hW hS hag hnx hkc hks
  have nxtL : ∀ {pc' : Nat} {st' : List mV} {ls' : mLs} {lsR' : Array Slot}, Pr l n d y pc' kc ks ls' st' H K → okS H.2.2.2 st' → okLs H.2.2.2 ls' → lv_has lsR' (mMax y) (lvOf ad ls') → W p l e R s m args below meth c HH locs cells slots QF (F0 m pc' lsR' (st'.map (mval ad))) := fun h ok okl hl => h p e R s m args below meth c A D ad cA HH locs cells slots _ QF ad0 nx0 hctx hroom hnest hro hend ok okl hl hW hS hag hnx hkc hks
  dsimp only [stepW] at hstep
  have nxtH : ∀ {pc' : Nat} {st' : List mV} {H' : mH} {HH1 : Heap} {locs1 : List Loc}, Pr l n d y pc' kc ks ls st' H' K → okS H.2.2.2 st' → H'.2.2.2 = H.2.2.2 → (∀ h, h < 16 → H'.1 h = H.1 h) → (∀ h, h < 16 → H'.2.2.1 h = H.2.2.1 h) → mW D n ad cA H' A s HH1 → va_S A s.heap HH1 locs1 → W p l e R s m args below meth c HH1 locs1 cells slots QF (F0 m pc' lsR (st'.map (mval ad))) := fun h ok e1 e2 e3 hW' hS' => h p e R s m args below meth c A D ad cA _ _ cells slots lsR QF ad0 nx0 hctx hroom hnest (mRO_congr e2 e3 hro) hend (by rw [e1]; exact ok) (by rw [e1]; exact hls) hlv hW' hS' (agH_H e2 e3 hag) (by rw [e1]; exact hnx) hkc hks
  obtain rfl := hins
  obtain ⟨x, i, r, rfl, hs⟩ := eRI_inv hstep
  obtain ⟨a, rfl, hs2⟩ := drf_inv hs
  obtain ⟨ht, hin, hs3⟩ := chk_inv hs2
  have hlt : a < H.2.2.2 := okS_h (okS_t hst)
  have hi0 : okV H.2.2.2 (vi i) := okS_h hst
  have hok := hW.2.2.2.2
  
  have ht : TY a = 101 := Nat.eq_of_beq_eq_true ht
  have h16 := hi_of (h := a) (by omega)
  have hL := LN_le (n := n) (h := a) (by omega)
  have hAr := hW.2.2.2.1 a h16 hlt (by omega)
  rw [show ety a = .long by simp [ety, ht]] at hAr
  refine va_lald (tys := [(cA a, .long)]) hx hb ⟨hW.2.2.1.1, fun k q hq => by
      cases k with
      | zero => simp at hq; subst hq; exact hAr
      | succ k => simp at hq⟩ hW.1 (a - 16) 0 (by rw [mws_at h16 hlt, mcell_long ht]) rfl (in_ofInt hin (by omega)) hdec ?_
  rw [clamp_ofInt hin (by omega)]
  exact nxt hs3 (okS_c (v := vl (H.2.1 a i.toNat)) trivial (okS_t (okS_t hst)))
set_option maxRecDepth 20000 in
set_option maxHeartbeats 2000000 in
theorem cl_aaload {l : Launch} {n d y pc : Nat} {len ia ib ic : Nat} {z : Int} {sw : List (Int × Nat)} {kc ks : Nat} {ls : mLs} {st : List mV} {H : mH} {K : mK} (hw : okRow (y, pc, .aaload, len, (ia, ib, ic), z, sw) = true) (hstep : stepW n (Pr l n) (ent (Pr l n)) d (y, pc, .aaload, len, (ia, ib, ic), z, sw) kc ks ls st H K) : Pr l n d y pc kc ks ls st H K := by
  obtain ⟨hdec, hins, hyl⟩ := okRow_sp hw
  simp only [okIns, Bool.and_eq_true, Bool.or_eq_true, decide_eq_true_eq, beq_iff_eq] at hins
  intro p e R s m args below meth c A D ad cA HH locs cells slots lsR QF ad0 nx0 hctx hroom hnest hro hend hst hls hlv hW hS hag hnx hkc hks
  obtain ⟨hx, hb, hr, hml, hown, hts, hlk, hini, hA⟩ := id hctx
  have nxt : ∀ {pc' : Nat} {st' : List mV}, Pr l n d y pc' kc ks ls st' H K → okS H.2.2.2 st' → W p l e R s m args below meth c HH locs cells slots QF (F0 m pc' lsR (st'.map (mval ad))) := fun h ok => h p e R s m args below meth c A D ad cA HH locs cells slots lsR QF ad0 nx0 hctx hroom hnest hro hend ok hls hlv hW hS hag hnx hkc hks
  have nxtL : ∀ {pc' : Nat} {st' : List mV} {ls' : mLs} {lsR' : Array Slot}, Pr l n d y pc' kc ks ls' st' H K → okS H.2.2.2 st' → okLs H.2.2.2 ls' → lv_has lsR' (mMax y) (lvOf ad ls') → W p l e R s m args below meth c HH locs cells slots QF (F0 m pc' lsR' (st'.map (mval ad))) := fun h ok okl hl => h p e R s m args below meth c A D ad cA HH locs cells slots _ QF ad0 nx0 hctx hroom hnest hro hend ok okl hl hW hS hag hnx hkc hks
  dsimp only [stepW] at hstep
  have nxtH : ∀ {pc' : Nat} {st' : List mV} {H' : mH} {HH1 : Heap} {locs1 : List Loc}, Pr l n d y pc' kc ks ls st' H' K → okS H.2.2.2 st' → H'.2.2.2 = H.2.2.2 → (∀ h, h < 16 → H'.1 h = H.1 h) → (∀ h, h < 16 → H'.2.2.1 h = H.2.2.1 h) → mW D n ad cA H' A s HH1 → va_S A s.heap HH1 locs1 → W p l e R s m args below meth c HH1 locs1 cells slots QF (F0 m pc' lsR (st'.map (mval ad))) := fun h ok e1 e2 e3 hW' hS' => h p e R s m args below meth c A D ad cA _ _ cells slots lsR QF ad0 nx0 hctx hroom hnest (mRO_congr e2 e3 hro) hend (by rw [e1]; exact ok) (by rw [e1]; exact hls) hlv hW' hS' (agH_H e2 e3 hag) (by rw [e1]; exact hnx) hkc hks
  obtain rfl := hins
  obtain ⟨x, i, r, rfl, hs⟩ := eRI_inv hstep
  obtain ⟨a, rfl, hs2⟩ := drf_inv hs
  obtain ⟨ht, hin, hs3⟩ := chk_inv hs2
  have hlt : a < H.2.2.2 := okS_h (okS_t hst)
  have hi0 : okV H.2.2.2 (vi i) := okS_h hst
  have hok := hW.2.2.2.2
  
  have ht : 110 ≤ TY a := Nat.le_of_ble_eq_true ht
  have h16 := hi_of (h := a) (by omega)
  have hL := LN_le (n := n) (h := a) (by omega)
  have hAr := hW.2.2.2.1 a h16 hlt (by omega)
  have hety : ety a = .object (clAt (TY a - 110)).1 := by
    unfold ety; split
    · omega
    · omega
    · omega
    · rfl
  rw [hety] at hAr
  refine va_aldq (C := (clAt (TY a - 110)).1) (tys := [(cA a, .object (clAt (TY a - 110)).1)]) hx hb ⟨hW.2.2.1.1, fun k q hq => by
      cases k with
      | zero => simp at hq; subst hq; exact hAr
      | succ k => simp at hq⟩ hW.1 (a - 16) 0 (by rw [mws_at h16 hlt, mcell_ref ht]) rfl (in_ofInt hin (by omega)) hdec ?_
  rw [clamp_ofInt hin (by omega)]
  show W p l e R s m args below meth c HH locs cells slots QF (F0 m (pc + 1) lsR (va_rf ((H.2.2.1 a i.toNat).map ad) :: r.map (mval ad)))
  rw [va_rf_map]
  refine nxt hs3 (okS_c (v := vr (H.2.2.1 a i.toNat)) ?_ (okS_t (okS_t hst)))
  cases hz : H.2.2.1 a i.toNat with
  | none => trivial
  | some b => exact hok.2.2.1 a _ b hz
set_option maxRecDepth 20000 in
set_option maxHeartbeats 2000000 in
theorem cl_iastore {l : Launch} {n d y pc : Nat} {len ia ib ic : Nat} {z : Int} {sw : List (Int × Nat)} {kc ks : Nat} {ls : mLs} {st : List mV} {H : mH} {K : mK} (hw : okRow (y, pc, .iastore, len, (ia, ib, ic), z, sw) = true) (hstep : stepW n (Pr l n) (ent (Pr l n)) d (y, pc, .iastore, len, (ia, ib, ic), z, sw) kc ks ls st H K) : Pr l n d y pc kc ks ls st H K := by
  obtain ⟨hdec, hins, hyl⟩ := okRow_sp hw
  simp only [okIns, Bool.and_eq_true, Bool.or_eq_true, decide_eq_true_eq, beq_iff_eq] at hins
  intro p e R s m args below meth c A D ad cA HH locs cells slots lsR QF ad0 nx0 hctx hroom hnest hro hend hst hls hlv hW hS hag hnx hkc hks
  obtain ⟨hx, hb, hr, hml, hown, hts, hlk, hini, hA⟩ := id hctx
  have nxt : ∀ {pc' : Nat} {st' : List mV}, Pr l n d y pc' kc ks ls st' H K → okS H.2.2.2 st' → W p l e R s m args below meth c HH locs cells slots QF (F0 m pc' lsR (st'.map (mval ad))) := fun h ok => h p e R s m args below meth c A D ad cA HH locs cells slots lsR QF ad0 nx0 hctx hroom hnest hro hend ok hls hlv hW hS hag hnx hkc hks
  have nxtL : ∀ {pc' : Nat} {st' : List mV} {ls' : mLs} {lsR' : Array Slot}, Pr l n d y pc' kc ks ls' st' H K → okS H.2.2.2 st' → okLs H.2.2.2 ls' → lv_has lsR' (mMax y) (lvOf ad ls') → W p l e R s m args below meth c HH locs cells slots QF (F0 m pc' lsR' (st'.map (mval ad))) := fun h ok okl hl => h p e R s m args below meth c A D ad cA HH locs cells slots _ QF ad0 nx0 hctx hroom hnest hro hend ok okl hl hW hS hag hnx hkc hks
  dsimp only [stepW] at hstep
  have nxtH : ∀ {pc' : Nat} {st' : List mV} {H' : mH} {HH1 : Heap} {locs1 : List Loc}, Pr l n d y pc' kc ks ls st' H' K → okS H.2.2.2 st' → H'.2.2.2 = H.2.2.2 → (∀ h, h < 16 → H'.1 h = H.1 h) → (∀ h, h < 16 → H'.2.2.1 h = H.2.2.1 h) → mW D n ad cA H' A s HH1 → va_S A s.heap HH1 locs1 → W p l e R s m args below meth c HH1 locs1 cells slots QF (F0 m pc' lsR (st'.map (mval ad))) := fun h ok e1 e2 e3 hW' hS' => h p e R s m args below meth c A D ad cA _ _ cells slots lsR QF ad0 nx0 hctx hroom hnest (mRO_congr e2 e3 hro) hend (by rw [e1]; exact ok) (by rw [e1]; exact hls) hlv hW' hS' (agH_H e2 e3 hag) (by rw [e1]; exact hnx) hkc hks
  obtain rfl := hins
  obtain ⟨x, i, v, r, rfl, hs⟩ := eRII_inv hstep
  obtain ⟨a, rfl, hs2⟩ := drf_inv hs
  obtain ⟨ht, hin, hs3⟩ := chk_inv hs2
  have hlt : a < H.2.2.2 := okS_h (okS_t (okS_t hst))
  have hok := hW.2.2.2.2
  
  have ht : TY a = 100 := Nat.eq_of_beq_eq_true ht
  have h16 := hi_of (h := a) (by omega)
  have hL := LN_le (n := n) (h := a) (by omega)
  have hAr := hW.2.2.2.1 a h16 hlt (by omega)
  rw [show ety a = .int by simp [ety, ht]] at hAr
  have hv : -2147483648 ≤ v ∧ v < 2147483648 := okS_h hst
  refine va_iast (tys := [(cA a, .int)]) hx hb ⟨hW.2.2.1.1, fun k q hq => by
      cases k with
      | zero => simp at hq; subst hq; exact hAr
      | succ k => simp at hq⟩ hW.1 hW.2.1 hS (a - 16) 0 (by rw [mws_at h16 hlt, mcell_int (Or.inl ht)]) rfl (in_ofInt hin (by omega)) hdec (fun HH1 locs1 hP1 hD1 hS1 => ?_)
  rw [clamp_ofInt hin (by omega)] at hP1 hD1
  refine nxtH hs3 (okS_t (okS_t (okS_t hst))) rfl (fun h hh => up2_ne (by omega)) (fun h hh => rfl) (mW_set hW h16 hlt rfl (fun h hh => ⟨up2_ne hh, rfl, rfl⟩) (okH_I hok hlt hv) ?_ hP1 hD1) hS1
  rw [mcell_int (Or.inl ht)]
  refine congrArg (fun f => Sum.inl (cA a, (LN n a, Sum.inl f))) (funext fun j => ?_)
  show Int32.ofInt (up2 H.1 a i.toNat v a j) = upd (fun j => Int32.ofInt (H.1 a j)) i.toNat (Int32.ofInt v) j
  unfold up2 upd
  by_cases hj : j = i.toNat <;> simp [hj]
set_option maxRecDepth 20000 in
set_option maxHeartbeats 2000000 in
theorem cl_bastore {l : Launch} {n d y pc : Nat} {len ia ib ic : Nat} {z : Int} {sw : List (Int × Nat)} {kc ks : Nat} {ls : mLs} {st : List mV} {H : mH} {K : mK} (hw : okRow (y, pc, .bastore, len, (ia, ib, ic), z, sw) = true) (hstep : stepW n (Pr l n) (ent (Pr l n)) d (y, pc, .bastore, len, (ia, ib, ic), z, sw) kc ks ls st H K) : Pr l n d y pc kc ks ls st H K := by
  obtain ⟨hdec, hins, hyl⟩ := okRow_sp hw
  simp only [okIns, Bool.and_eq_true, Bool.or_eq_true, decide_eq_true_eq, beq_iff_eq] at hins
  intro p e R s m args below meth c A D ad cA HH locs cells slots lsR QF ad0 nx0 hctx hroom hnest hro hend hst hls hlv hW hS hag hnx hkc hks
  obtain ⟨hx, hb, hr, hml, hown, hts, hlk, hini, hA⟩ := id hctx
  have nxt : ∀ {pc' : Nat} {st' : List mV}, Pr l n d y pc' kc ks ls st' H K → okS H.2.2.2 st' → W p l e R s m args below meth c HH locs cells slots QF (F0 m pc' lsR (st'.map (mval ad))) := fun h ok => h p e R s m args below meth c A D ad cA HH locs cells slots lsR QF ad0 nx0 hctx hroom hnest hro hend ok hls hlv hW hS hag hnx hkc hks
  have nxtL : ∀ {pc' : Nat} {st' : List mV} {ls' : mLs} {lsR' : Array Slot}, Pr l n d y pc' kc ks ls' st' H K → okS H.2.2.2 st' → okLs H.2.2.2 ls' → lv_has lsR' (mMax y) (lvOf ad ls') → W p l e R s m args below meth c HH locs cells slots QF (F0 m pc' lsR' (st'.map (mval ad))) := fun h ok okl hl => h p e R s m args below meth c A D ad cA HH locs cells slots _ QF ad0 nx0 hctx hroom hnest hro hend ok okl hl hW hS hag hnx hkc hks
  dsimp only [stepW] at hstep
  have nxtH : ∀ {pc' : Nat} {st' : List mV} {H' : mH} {HH1 : Heap} {locs1 : List Loc}, Pr l n d y pc' kc ks ls st' H' K → okS H.2.2.2 st' → H'.2.2.2 = H.2.2.2 → (∀ h, h < 16 → H'.1 h = H.1 h) → (∀ h, h < 16 → H'.2.2.1 h = H.2.2.1 h) → mW D n ad cA H' A s HH1 → va_S A s.heap HH1 locs1 → W p l e R s m args below meth c HH1 locs1 cells slots QF (F0 m pc' lsR (st'.map (mval ad))) := fun h ok e1 e2 e3 hW' hS' => h p e R s m args below meth c A D ad cA _ _ cells slots lsR QF ad0 nx0 hctx hroom hnest (mRO_congr e2 e3 hro) hend (by rw [e1]; exact ok) (by rw [e1]; exact hls) hlv hW' hS' (agH_H e2 e3 hag) (by rw [e1]; exact hnx) hkc hks
  obtain rfl := hins
  obtain ⟨x, i, v, r, rfl, hs⟩ := eRII_inv hstep
  obtain ⟨a, rfl, hs2⟩ := drf_inv hs
  obtain ⟨ht, hin, hs4⟩ := chk_inv hs2
  obtain ⟨hb1, hs3⟩ := b01W_inv hs4
  have hlt : a < H.2.2.2 := okS_h (okS_t (okS_t hst))
  have hok := hW.2.2.2.2
  
  have ht : TY a = 102 := Nat.eq_of_beq_eq_true ht
  have h16 := hi_of (h := a) (by omega)
  have hL := LN_le (n := n) (h := a) (by omega)
  have hAr := hW.2.2.2.1 a h16 hlt (by omega)
  rw [show ety a = .boolean by simp [ety, ht]] at hAr
  have hv : -2147483648 ≤ v ∧ v < 2147483648 := okS_h hst
  refine va_zast (tys := [(cA a, .boolean)]) hx hb ⟨hW.2.2.1.1, fun k q hq => by
      cases k with
      | zero => simp at hq; subst hq; exact hAr
      | succ k => simp at hq⟩ hW.1 hW.2.1 hS (a - 16) 0 (by rw [mws_at h16 hlt, mcell_int (Or.inr ht)]) rfl (in_ofInt hin (by omega)) hdec (fun HH1 locs1 hP1 hD1 hS1 => ?_)
  rw [clamp_ofInt hin (by omega), (b01 hb1).2.2] at hP1 hD1
  refine nxtH hs3 (okS_t (okS_t (okS_t hst))) rfl (fun h hh => up2_ne (by omega)) (fun h hh => rfl) (mW_set hW h16 hlt rfl (fun h hh => ⟨up2_ne hh, rfl, rfl⟩) (okH_I hok hlt hv) ?_ hP1 hD1) hS1
  rw [mcell_int (Or.inr ht)]
  refine congrArg (fun f => Sum.inl (cA a, (LN n a, Sum.inl f))) (funext fun j => ?_)
  show Int32.ofInt (up2 H.1 a i.toNat v a j) = upd (fun j => Int32.ofInt (H.1 a j)) i.toNat (Int32.ofInt v) j
  unfold up2 upd
  by_cases hj : j = i.toNat <;> simp [hj]
set_option maxRecDepth 20000 in
set_option maxHeartbeats 2000000 in
theorem cl_lastore {l : Launch} {n d y pc : Nat} {len ia ib ic : Nat} {z : Int} {sw : List (Int × Nat)} {kc ks : Nat} {ls : mLs} {st : List mV} {H : mH} {K : mK} (hw : okRow (y, pc, .lastore, len, (ia, ib, ic), z, sw) = true) (hstep : stepW n (Pr l n) (ent (Pr l n)) d (y, pc, .lastore, len, (ia, ib, ic), z, sw) kc ks ls st H K) : Pr l n d y pc kc ks ls st H K := by
  obtain ⟨hdec, hins, hyl⟩ := okRow_sp hw
  simp only [okIns, Bool.and_eq_true, Bool.or_eq_true, decide_eq_true_eq, beq_iff_eq] at hins
  intro p e R s m args below meth c A D ad cA HH locs cells slots lsR QF ad0 nx0 hctx hroom hnest hro hend hst hls hlv hW hS hag hnx hkc hks
  obtain ⟨hx, hb, hr, hml, hown, hts, hlk, hini, hA⟩ := id hctx
  have nxt : ∀ {pc' : Nat} {st' : List mV}, Pr l n d y pc' kc ks ls st' H K → okS H.2.2.2 st' → W p l e R s m args below meth c HH locs cells slots QF (F0 m pc' lsR (st'.map (mval ad))) := fun h ok => h p e R s m args below meth c A D ad cA HH locs cells slots lsR QF ad0 nx0 hctx hroom hnest hro hend ok hls hlv hW hS hag hnx hkc hks
  have nxtL : ∀ {pc' : Nat} {st' : List mV} {ls' : mLs} {lsR' : Array Slot}, Pr l n d y pc' kc ks ls' st' H K → okS H.2.2.2 st' → okLs H.2.2.2 ls' → lv_has lsR' (mMax y) (lvOf ad ls') → W p l e R s m args below meth c HH locs cells slots QF (F0 m pc' lsR' (st'.map (mval ad))) := fun h ok okl hl => h p e R s m args below meth c A D ad cA HH locs cells slots _ QF ad0 nx0 hctx hroom hnest hro hend ok okl hl hW hS hag hnx hkc hks
  dsimp only [stepW] at hstep
  have nxtH : ∀ {pc' : Nat} {st' : List mV} {H' : mH} {HH1 : Heap} {locs1 : List Loc}, Pr l n d y pc' kc ks ls st' H' K → okS H.2.2.2 st' → H'.2.2.2 = H.2.2.2 → (∀ h, h < 16 → H'.1 h = H.1 h) → (∀ h, h < 16 → H'.2.2.1 h = H.2.2.1 h) → mW D n ad cA H' A s HH1 → va_S A s.heap HH1 locs1 → W p l e R s m args below meth c HH1 locs1 cells slots QF (F0 m pc' lsR (st'.map (mval ad))) := fun h ok e1 e2 e3 hW' hS' => h p e R s m args below meth c A D ad cA _ _ cells slots lsR QF ad0 nx0 hctx hroom hnest (mRO_congr e2 e3 hro) hend (by rw [e1]; exact ok) (by rw [e1]; exact hls) hlv hW' hS' (agH_H e2 e3 hag) (by rw [e1]; exact hnx) hkc hks
  obtain rfl := hins
  obtain ⟨x, i, v, r, rfl, hs⟩ := eRIL_inv hstep
  obtain ⟨a, rfl, hs2⟩ := drf_inv hs
  obtain ⟨ht, hin, hs3⟩ := chk_inv hs2
  have hlt : a < H.2.2.2 := okS_h (okS_t (okS_t hst))
  have hok := hW.2.2.2.2
  
  have ht : TY a = 101 := Nat.eq_of_beq_eq_true ht
  have h16 := hi_of (h := a) (by omega)
  have hL := LN_le (n := n) (h := a) (by omega)
  have hAr := hW.2.2.2.1 a h16 hlt (by omega)
  rw [show ety a = .long by simp [ety, ht]] at hAr
  refine va_last (tys := [(cA a, .long)]) hx hb ⟨hW.2.2.1.1, fun k q hq => by
      cases k with
      | zero => simp at hq; subst hq; exact hAr
      | succ k => simp at hq⟩ hW.1 hW.2.1 hS (a - 16) 0 (by rw [mws_at h16 hlt, mcell_long ht]) rfl (in_ofInt hin (by omega)) hdec (fun HH1 locs1 hP1 hD1 hS1 => ?_)
  rw [clamp_ofInt hin (by omega)] at hP1 hD1
  refine nxtH hs3 (okS_t (okS_t (okS_t hst))) rfl (fun h hh => rfl) (fun h hh => rfl) (mW_set hW h16 hlt rfl (fun h hh => ⟨rfl, up2L_ne hh, rfl⟩) (okH_L hok hlt) ?_ hP1 hD1) hS1
  rw [mcell_long ht]
  refine congrArg (fun f => Sum.inl (cA a, (LN n a, Sum.inr (Sum.inl f)))) (funext fun j => ?_)
  show up2L H.2.1 a i.toNat v a j = vp_updL (H.2.1 a) i.toNat v j
  unfold up2L vp_updL
  by_cases hj : j = i.toNat <;> simp [hj]
set_option maxRecDepth 20000 in
set_option maxHeartbeats 2000000 in
theorem cl_aastore {l : Launch} {n d y pc : Nat} {len ia ib ic : Nat} {z : Int} {sw : List (Int × Nat)} {kc ks : Nat} {ls : mLs} {st : List mV} {H : mH} {K : mK} (hw : okRow (y, pc, .aastore, len, (ia, ib, ic), z, sw) = true) (hstep : stepW n (Pr l n) (ent (Pr l n)) d (y, pc, .aastore, len, (ia, ib, ic), z, sw) kc ks ls st H K) : Pr l n d y pc kc ks ls st H K := by
  obtain ⟨hdec, hins, hyl⟩ := okRow_sp hw
  simp only [okIns, Bool.and_eq_true, Bool.or_eq_true, decide_eq_true_eq, beq_iff_eq] at hins
  intro p e R s m args below meth c A D ad cA HH locs cells slots lsR QF ad0 nx0 hctx hroom hnest hro hend hst hls hlv hW hS hag hnx hkc hks
  obtain ⟨hx, hb, hr, hml, hown, hts, hlk, hini, hA⟩ := id hctx
  have nxt : ∀ {pc' : Nat} {st' : List mV}, Pr l n d y pc' kc ks ls st' H K → okS H.2.2.2 st' → W p l e R s m args below meth c HH locs cells slots QF (F0 m pc' lsR (st'.map (mval ad))) := fun h ok => h p e R s m args below meth c A D ad cA HH locs cells slots lsR QF ad0 nx0 hctx hroom hnest hro hend ok hls hlv hW hS hag hnx hkc hks
  have nxtL : ∀ {pc' : Nat} {st' : List mV} {ls' : mLs} {lsR' : Array Slot}, Pr l n d y pc' kc ks ls' st' H K → okS H.2.2.2 st' → okLs H.2.2.2 ls' → lv_has lsR' (mMax y) (lvOf ad ls') → W p l e R s m args below meth c HH locs cells slots QF (F0 m pc' lsR' (st'.map (mval ad))) := fun h ok okl hl => h p e R s m args below meth c A D ad cA HH locs cells slots _ QF ad0 nx0 hctx hroom hnest hro hend ok okl hl hW hS hag hnx hkc hks
  dsimp only [stepW] at hstep
  have nxtH : ∀ {pc' : Nat} {st' : List mV} {H' : mH} {HH1 : Heap} {locs1 : List Loc}, Pr l n d y pc' kc ks ls st' H' K → okS H.2.2.2 st' → H'.2.2.2 = H.2.2.2 → (∀ h, h < 16 → H'.1 h = H.1 h) → (∀ h, h < 16 → H'.2.2.1 h = H.2.2.1 h) → mW D n ad cA H' A s HH1 → va_S A s.heap HH1 locs1 → W p l e R s m args below meth c HH1 locs1 cells slots QF (F0 m pc' lsR (st'.map (mval ad))) := fun h ok e1 e2 e3 hW' hS' => h p e R s m args below meth c A D ad cA _ _ cells slots lsR QF ad0 nx0 hctx hroom hnest (mRO_congr e2 e3 hro) hend (by rw [e1]; exact ok) (by rw [e1]; exact hls) hlv hW' hS' (agH_H e2 e3 hag) (by rw [e1]; exact hnx) hkc hks
  obtain rfl := hins
  obtain ⟨x, i, v, r, rfl, hs⟩ := eRIR_inv hstep
  obtain ⟨a, rfl, hs2⟩ := drf_inv hs
  obtain ⟨b, rfl, hs2⟩ := drf_inv hs2
  obtain ⟨ht, hin, hs3⟩ := chk_inv hs2
  have hlt : a < H.2.2.2 := okS_h (okS_t (okS_t hst))
  have hok := hW.2.2.2.2
  
  simp only [Bool.and_eq_true] at ht
  have hb20 : TY b < 20 := Nat.lt_of_succ_le (Nat.le_of_ble_eq_true ht.2)
  have hta : TY a = TY b + 110 := Nat.eq_of_beq_eq_true ht.1
  have h16 := hi_of (h := a) (by omega)
  have h16b := hi_of (h := b) (by omega)
  have hltb : b < H.2.2.2 := okS_h hst
  have hL := LN_le (n := n) (h := a) (by omega)
  have hAr := hW.2.2.2.1 a h16 hlt (by omega)
  have hety : ety a = .object (clAt (TY b)).1 := by
    unfold ety; split
    · omega
    · omega
    · omega
    · rw [show TY a - 110 = TY b by omega]
  rw [hety] at hAr
  have hb10 : TY b < 10 := by
    rcases Nat.lt_or_ge b 155 with q | q
    · exact (show ∀ h, h < 155 → TY h < 20 → TY h < 10 by decide) b q hb20
    · have := TY_hi q
      omega
  refine va_astq (r := clAt (TY b)) (tys := [(cA a, .object (clAt (TY b)).1)]) hx hb ⟨hW.2.2.1.1, fun k q hq => by
      cases k with
      | zero => simp at hq; subst hq; exact hAr
      | succ k => simp at hq⟩ hW.1 hW.2.1 hS (a - 16) 0 (b - 16) (TY b) (by rw [mws_at h16 hlt, mcell_ref (by omega)]) rfl (by rw [mws_at h16b hltb, mcell_obj hb20]) (clAt_in hb10) (in_ofInt hin (by omega)) hdec (fun HH1 locs1 hP1 hD1 hS1 => ?_)
  rw [clamp_ofInt hin (by omega)] at hP1 hD1
  refine nxtH hs3 (okS_t (okS_t (okS_t hst))) rfl (fun h hh => rfl) (fun h hh => up2R_ne (by omega)) (mW_set hW h16 hlt rfl (fun h hh => ⟨rfl, rfl, up2R_ne hh⟩) (okH_R hok hlt (fun q hq => by cases hq; exact hltb)) ?_ hP1 hD1) hS1
  rw [mcell_ref (by omega)]
  refine congrArg (fun f => Sum.inl (cA a, (LN n a, Sum.inr (Sum.inr (Sum.inr (Sum.inr f)))))) (funext fun j => ?_)
  show (up2R H.2.2.1 a i.toNat (some b) a j).map ad = va_up (fun j => (H.2.2.1 a j).map ad) i.toNat (some (ad b)) j
  unfold up2R va_up
  by_cases hj : j = i.toNat <;> simp [hj]
set_option maxRecDepth 20000 in
set_option maxHeartbeats 2000000 in
theorem cl_getstatic {l : Launch} {n d y pc : Nat} {i : Nat} {len ia ib ic : Nat} {z : Int} {sw : List (Int × Nat)} {kc ks : Nat} {ls : mLs} {st : List mV} {H : mH} {K : mK} (hw : okRow (y, pc, .getstatic i, len, (ia, ib, ic), z, sw) = true) (hstep : stepW n (Pr l n) (ent (Pr l n)) d (y, pc, .getstatic i, len, (ia, ib, ic), z, sw) kc ks ls st H K) : Pr l n d y pc kc ks ls st H K := by
  obtain ⟨hdec, hins, hyl⟩ := okRow_sp hw
  simp only [okIns, Bool.and_eq_true, Bool.or_eq_true, decide_eq_true_eq, beq_iff_eq] at hins
  intro p e R s m args below meth c A D ad cA HH locs cells slots lsR QF ad0 nx0 hctx hroom hnest hro hend hst hls hlv hW hS hag hnx hkc hks
  obtain ⟨hx, hb, hr, hml, hown, hts, hlk, hini, hA⟩ := id hctx
  have nxt : ∀ {pc' : Nat} {st' : List mV}, Pr l n d y pc' kc ks ls st' H K → okS H.2.2.2 st' → W p l e R s m args below meth c HH locs cells slots QF (F0 m pc' lsR (st'.map (mval ad))) := fun h ok => h p e R s m args below meth c A D ad cA HH locs cells slots lsR QF ad0 nx0 hctx hroom hnest hro hend ok hls hlv hW hS hag hnx hkc hks
  have nxtL : ∀ {pc' : Nat} {st' : List mV} {ls' : mLs} {lsR' : Array Slot}, Pr l n d y pc' kc ks ls' st' H K → okS H.2.2.2 st' → okLs H.2.2.2 ls' → lv_has lsR' (mMax y) (lvOf ad ls') → W p l e R s m args below meth c HH locs cells slots QF (F0 m pc' lsR' (st'.map (mval ad))) := fun h ok okl hl => h p e R s m args below meth c A D ad cA HH locs cells slots _ QF ad0 nx0 hctx hroom hnest hro hend ok okl hl hW hS hag hnx hkc hks
  dsimp only [stepW] at hstep
  have nxtH : ∀ {pc' : Nat} {st' : List mV} {H' : mH} {HH1 : Heap} {locs1 : List Loc}, Pr l n d y pc' kc ks ls st' H' K → okS H.2.2.2 st' → H'.2.2.2 = H.2.2.2 → (∀ h, h < 16 → H'.1 h = H.1 h) → (∀ h, h < 16 → H'.2.2.1 h = H.2.2.1 h) → mW D n ad cA H' A s HH1 → va_S A s.heap HH1 locs1 → W p l e R s m args below meth c HH1 locs1 cells slots QF (F0 m pc' lsR (st'.map (mval ad))) := fun h ok e1 e2 e3 hW' hS' => h p e R s m args below meth c A D ad cA _ _ cells slots lsR QF ad0 nx0 hctx hroom hnest (mRO_congr e2 e3 hro) hend (by rw [e1]; exact ok) (by rw [e1]; exact hls) hlv hW' hS' (agH_H e2 e3 hag) (by rw [e1]; exact hnx) hkc hks
  obtain ⟨rfl, hins⟩ := hins
  have h16 := hW.2.2.2.2.1
  split at hins
  · simp only [Bool.and_eq_true, decide_eq_true_eq] at hins
    obtain ⟨rfl, hl⟩ := hins
    exact va_gets hx hb hro.2.2.2.2.1 hS hown (hts _ (wAt_sp hl rfl)) (fun _ h => h) hdec (nxt hstep (okS_c (v := vi 1) ⟨by omega, by omega⟩ hst))
  · split at hstep
    · rename_i q; exact absurd rfl q
    · split at hins
      · simp only [Bool.or_eq_true, Bool.and_eq_true, decide_eq_true_eq, beq_iff_eq] at hins
        rcases hins with hl | ⟨hl, rfl⟩
        · exact va_gets hx hb hro.2.2.2.2.2.1 hS hown (hts _ (wAt_sp hl rfl)) (fun _ h => h) hdec (nxt hstep (okS_c (v := vr (some 1)) (Nat.lt_of_lt_of_le (by omega) h16) hst))
        · rw [hl] at hown
          exact va_getsN hx hb hro.2.2.2.2.2.1 hS hown (va_Nw.use rfl hnest.2.2.2.1) (fun _ h => h) hdec (nxt hstep (okS_c (v := vr (some 1)) (Nat.lt_of_lt_of_le (by omega) h16) hst))
      · simp only [Bool.and_eq_true, decide_eq_true_eq, beq_iff_eq] at hins
        obtain ⟨rfl, hl, rfl⟩ := hins
        rw [hl] at hown
        exact va_getsN hx hb hro.2.2.2.2.2.2.1 hS hown (va_Nw.use rfl hnest.2.2.1) (fun _ h => h) hdec (nxt hstep (okS_c (v := vr (some 2)) (Nat.lt_of_lt_of_le (by omega) h16) hst))
