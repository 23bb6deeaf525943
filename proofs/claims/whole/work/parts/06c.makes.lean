/-! ===== the small machine's steps are the machine's: what makes cells, what gives back ===== -/
theorem mNest_agr {ad ad' : Nat → Nat} {nx : Nat} {U : State} (h16 : 16 ≤ nx) (ha : agr nx ad ad') (h : mNest ad U) : mNest ad' U := by
  refine ⟨fun q hq => ?_, h.2⟩
  have e : ad' q.2.1 = ad q.2.1 := ha _ (by
    simp only [mStr, List.mem_cons, List.not_mem_nil, or_false] at hq
    rcases hq with rfl | rfl | rfl | rfl | rfl | rfl <;> exact Nat.lt_of_lt_of_le (by decide) h16)
  rw [e]
  exact h.1 q hq
theorem mRO_agr {n : Nat} {ad ad' : Nat → Nat} {H : mH} {A : Nat → Prop} {U : State} {HH : Heap} (hok : okH H) (ha : agr H.2.2.2 ad ad') (h : mRO n ad H A U HH) : mRO n ad' H A U HH := by
  have e : ∀ h, h < 16 → ad' h = ad h := fun h hh => ha h (Nat.lt_of_lt_of_le hh hok.1)
  obtain ⟨a, b, c, dd, q1, q2, q3, r⟩ := h
  refine ⟨by rw [e 0 (by omega)]; exact a, by rw [e 1 (by omega)]; exact b, by rw [e 2 (by omega)]; exact c, fun i hi => ?_, q1, by rw [e 1 (by omega)]; exact q2, by rw [e 2 (by omega)]; exact q3, r⟩
  have hm : (H.2.2.1 (3 + i) 1).map ad' = (H.2.2.1 (3 + i) 1).map ad := by
    cases hz : H.2.2.1 (3 + i) 1 with
    | none => rfl
    | some b => exact congrArg some (ha b (hok.2.2.1 _ _ b hz))
  rw [e (3 + i) (by omega), e (9 + i) (by omega), hm]
  exact dd i hi
theorem lv_agr {ad ad' : Nat → Nat} {nx : Nat} {ls : mLs} {lsR : Array Slot} {nL : Nat} (ha : agr nx ad ad') (hls : okLs nx ls) (h : lv_has lsR nL (lvOf ad ls)) : lv_has lsR nL (lvOf ad' ls) := by
  refine lv_of_sub h fun q hq => ?_
  obtain ⟨v, hv, e⟩ := lvOf_mem.mp hq
  exact lvOf_mem.mpr ⟨v, hv, e.trans (mval_agr ha (hls _ _ hv))⟩
theorem mcell_agr {n : Nat} {ad ad' : Nat → Nat} {cA cA' : Nat → ClassId} {H : mH} {h : Nat} (hok : okH H) (ha : agr H.2.2.2 ad ad') (hc : cA' h = cA h) : mcell n ad' cA' H h = mcell n ad cA H h := by
  have hm : ∀ x k, (H.2.2.1 x k).map ad' = (H.2.2.1 x k).map ad := fun x k => by
    cases hz : H.2.2.1 x k with
    | none => rfl
    | some b => exact congrArg some (ha b (hok.2.2.1 _ _ b hz))
  have e : fldV ad' H h = fldV ad H h := by
    funext k
    unfold fldV
    rw [hm]
  unfold mcell arrC
  rw [e, hc]
  simp only [hm]
def adP (ad : Nat → Nat) (nx q : Nat) : Nat → Nat := fun h => if h = nx then q else ad h
theorem adP_agr (ad : Nat → Nat) (nx q : Nat) : agr nx ad (adP ad nx q) := fun h hh => by unfold adP; rw [if_neg (by omega)]
theorem adP_at (ad : Nat → Nat) (nx q : Nat) : adP ad nx q nx = q := by unfold adP; rw [if_pos rfl]
theorem okH_nx {H : mH} (h : okH H) : okH (H.1, H.2.1, H.2.2.1, H.2.2.2 + 1) := ⟨Nat.le_succ_of_le h.1, h.2.1, fun x k b hb => Nat.lt_succ_of_lt (h.2.2.1 x k b hb), fun x hx k => h.2.2.2 x (Nat.le_of_succ_le hx) k⟩
theorem mws_push {n : Nat} {ad : Nat → Nat} {cA cA' : Nat → ClassId} {H : mH} (hok : okH H) (q : Nat) (hc : ∀ h, h < H.2.2.2 → cA' h = cA h) : mws n (adP ad H.2.2.2 q) cA' (H.1, H.2.1, H.2.2.1, H.2.2.2 + 1) = mws n ad cA H ++ [(q, mcell n (adP ad H.2.2.2 q) cA' H H.2.2.2)] := by
  have h16 := hok.1
  unfold mws
  show (List.range (H.2.2.2 + 1 - 16)).map _ = _
  rw [show H.2.2.2 + 1 - 16 = (H.2.2.2 - 16) + 1 by omega, List.range_succ, List.map_append]
  congr 1
  · refine List.map_congr_left fun i hi => ?_
    have hi := List.mem_range.mp hi
    have hlt : 16 + i < H.2.2.2 := by omega
    refine Prod.ext (adP_agr ad _ q _ hlt) ?_
    show mcell n (adP ad H.2.2.2 q) cA' (H.1, H.2.1, H.2.2.1, H.2.2.2 + 1) (16 + i) = mcell n ad cA H (16 + i)
    exact (mcell_congr (H := H) rfl rfl rfl).trans (mcell_agr hok (adP_agr ad _ q) (hc _ hlt))
  · simp only [List.map_cons, List.map_nil]
    rw [show 16 + (H.2.2.2 - 16) = H.2.2.2 by omega, adP_at]
    exact congrArg (fun z => [(q, z)]) (mcell_congr (H := H) rfl rfl rfl)
theorem mW_push {D : va_G} {n : Nat} {ad : Nat → Nat} {cA cA' : Nat → ClassId} {H : mH} {A : Nat → Prop} {s : State} {HH HH1 : Heap} {q : Nat} {cell : va_E} (hW : mW D n ad cA H A s HH) (hc : ∀ h, h < H.2.2.2 → cA' h = cA h) (hcell : mcell n (adP ad H.2.2.2 q) cA' H H.2.2.2 = cell) (hAr : 100 ≤ TY H.2.2.2 → ArrOfT s (cA' H.2.2.2) (ety H.2.2.2) ∧ va_RA s (cA' H.2.2.2) (ety H.2.2.2)) (hP : va_P D vwCl (mws n ad cA H ++ [(q, cell)]) HH1) (hD : va_D A (mws n ad cA H ++ [(q, cell)])) : mW D n (adP ad H.2.2.2 q) cA' (H.1, H.2.1, H.2.2.1, H.2.2.2 + 1) A s HH1 := by
  have hok := hW.2.2.2.2
  have e := mws_push (n := n) (ad := ad) (cA := cA) (cA' := cA') hok q hc
  rw [hcell] at e
  refine ⟨by rw [e]; exact hP, by rw [e]; exact hD, hW.2.2.1, fun h h1 h2 h3 => ?_, okH_nx hok⟩
  have h2 : h < H.2.2.2 + 1 := h2
  by_cases hh : h = H.2.2.2
  · subst hh; exact hAr h3
  · rw [hc h (by omega)]
    exact hW.2.2.2.1 h h1 (by omega) h3
theorem fresh_int {H : mH} (hok : okH H) : (fun j => Int32.ofInt (H.1 H.2.2.2 j)) = fun _ => 0 := by
  funext j
  rw [(hok.2.2.2 _ (Nat.le_refl _) j).1]
  rfl
theorem fresh_long {H : mH} (hok : okH H) : H.2.1 H.2.2.2 = fun _ => 0 := by
  funext j
  exact (hok.2.2.2 _ (Nat.le_refl _) j).2.1
theorem fresh_ref {H : mH} (hok : okH H) (ad : Nat → Nat) : (fun j => (H.2.2.1 H.2.2.2 j).map ad) = fun _ => none := by
  funext j
  rw [(hok.2.2.2 _ (Nat.le_refl _) j).2.2]
  rfl
set_option maxRecDepth 100000 in
theorem clInst : ∀ ci, ci < 10 → Cond.instantiable (clAt ci).1 (clAt ci).2.2 ∈ gTbl ∧ Cond.initialized (clAt ci).1 ∈ gTbl := by decide +kernel
set_option maxRecDepth 100000 in
theorem acIn : Cond.arrayClass .int ∈ gTbl ∧ Cond.arrayClass .long ∈ gTbl ∧ Cond.arrayClass .boolean ∈ gTbl := by decide +kernel
theorem rc0 {r : Option FieldType} (h : rcOf r = 0) : r = some .int := by
  unfold rcOf at h; split at h <;> first | rfl | omega
theorem rc1 {r : Option FieldType} (h : rcOf r = 1) : r = some .boolean := by
  unfold rcOf at h; split at h <;> first | rfl | omega
theorem rc2 {r : Option FieldType} (h : rcOf r = 2) : r = some .char := by
  unfold rcOf at h; split at h <;> first | rfl | omega
theorem rk3 {r : Option FieldType} (h : rkOf r = 3) : ∃ ty, r = some ty := by
  cases r with
  | none => cases h
  | some t => exact ⟨t, rfl⟩
theorem rcN {r : Option FieldType} (h : rcOf r ≠ 9) : ∃ ty, r = some ty ∧ rkOf (some ty) = 1 := by
  unfold rcOf at h; split at h <;> first | exact ⟨_, rfl, rfl⟩ | exact absurd rfl h
theorem nz {ty : FieldType} (h : rkOf (some ty) = 1) (hf : ty ≠ .float) (hd : ty ≠ .double) : narrow ty (.int (Int32.ofInt 0)) = .int (Int32.ofInt 0) := by
  cases ty <;> first | decide | (cases h; done) | exact absurd rfl hf | exact absurd rfl hd
set_option maxRecDepth 20000 in
set_option maxHeartbeats 2000000 in
theorem cl_new {l : Launch} {n d y pc : Nat} {i : Nat} {len ia ib ic : Nat} {z : Int} {sw : List (Int × Nat)} {kc ks : Nat} {ls : mLs} {st : List mV} {H : mH} {K : mK} (hw : okRow (y, pc, .new i, len, (ia, ib, ic), z, sw) = true) (hstep : stepW n (Pr l n) (ent (Pr l n)) d (y, pc, .new i, len, (ia, ib, ic), z, sw) kc ks ls st H K) : Pr l n d y pc kc ks ls st H K := by
  obtain ⟨hdec, hins, hyl⟩ := okRow_sp hw
  simp only [okIns, Bool.and_eq_true, Bool.or_eq_true, decide_eq_true_eq, beq_iff_eq] at hins
  intro p e R s m args below meth c A D ad cA HH locs cells slots lsR QF ad0 nx0 hctx hroom hnest hro hend hst hls hlv hW hS hag hnx hkc hks
  obtain ⟨hx, hb, hr, hml, hown, hts, hlk, hini, hA⟩ := id hctx
  have nxt : ∀ {pc' : Nat} {st' : List mV}, Pr l n d y pc' kc ks ls st' H K → okS H.2.2.2 st' → W p l e R s m args below meth c HH locs cells slots QF (F0 m pc' lsR (st'.map (mval ad))) := fun h ok => h p e R s m args below meth c A D ad cA HH locs cells slots lsR QF ad0 nx0 hctx hroom hnest hro hend ok hls hlv hW hS hag hnx hkc hks
  have nxtL : ∀ {pc' : Nat} {st' : List mV} {ls' : mLs} {lsR' : Array Slot}, Pr l n d y pc' kc ks ls' st' H K → okS H.2.2.2 st' → okLs H.2.2.2 ls' → lv_has lsR' (mMax y) (lvOf ad ls') → W p l e R s m args below meth c HH locs cells slots QF (F0 m pc' lsR' (st'.map (mval ad))) := fun h ok okl hl => h p e R s m args below meth c A D ad cA HH locs cells slots _ QF ad0 nx0 hctx hroom hnest hro hend ok okl hl hW hS hag hnx hkc hks
  dsimp only [stepW] at hstep
  have nxtG : ∀ {pc' kc' ks' : Nat} {st' : List mV} {H' : mH} {ad' : Nat → Nat} {cA' : Nat → ClassId} {HH1 : Heap} {locs1 : List Loc} {cells' slots' : Nat} {stR : List Value}, Pr l n d y pc' kc' ks' ls st' H' K → okS H'.2.2.2 st' → st'.map (mval ad') = stR → agr H.2.2.2 ad ad' → H.2.2.2 ≤ H'.2.2.2 → (∀ h, h < 16 → H'.1 h = H.1 h) → (∀ h, h < 16 → H'.2.2.1 h = H.2.2.1 h) → mW D n ad' cA' H' A s HH1 → va_S A s.heap HH1 locs1 → cells' + kc' ≤ (mBud y).1 → slots' + ks' ≤ (mBud y).2 → W p l e R s m args below meth c HH1 locs1 cells' slots' QF (F0 m pc' lsR stR) := fun h ok hst' ha hle e1 e2 hW' hS' g1 g2 => by
    rw [← hst']
    exact h p e R s m args below meth c A D _ _ _ _ _ _ lsR QF ad0 nx0 hctx hroom (mNest_agr hW.2.2.2.2.1 ha hnest) (mRO_congr e1 e2 (mRO_agr hW.2.2.2.2 ha hro)) hend ok (fun i v hv => okV_le hle (hls i v hv)) (lv_agr ha hls hlv) hW' hS' (agH_G ha hnx e1 e2 hag) (Nat.le_trans hnx hle) g1 g2
  obtain ⟨⟨⟨rfl, h10⟩, rfl⟩, hl⟩ := hins
  have h10 : ia < 10 := Nat.lt_of_succ_le (Nat.le_of_ble_eq_true h10)
  split at hstep
  · exact hstep.elim
  · rename_i kc'
    obtain ⟨ht, hs⟩ := chk_inv hstep
    simp only [Bool.and_eq_true] at ht
    have hta : TY H.2.2.2 = ia := Nat.eq_of_beq_eq_true ht.1
    have hks2 : (clAt ia).2.2 ≤ ks := Nat.le_of_ble_eq_true ht.2
    subst hta
    have hok := hW.2.2.2.2
    obtain ⟨r1, r2, r3, r4⟩ := hroom
    refine va_new (ci := TY H.2.2.2) (fs := (List.range (clAt (TY H.2.2.2)).2.2).map (fldV ad H H.2.2.2)) (C := (clAt (TY H.2.2.2)).1) (T := (clAt (TY H.2.2.2)).2.1) (N := (clAt (TY H.2.2.2)).2.2) hx hb hts (clWs _ h10) (tyOf (TY H.2.2.2)) (clTy _ h10) hown (hts _ (wAt_sp hl rfl)) (hts _ (clInst _ h10).1) (hts _ (clInst _ h10).2) hW.2.2.1 hW.1 hW.2.1 hS hA (clAt_in h10) (fun j hj => ?_) (by omega) (by omega) hdec (fun q HH1 hP1 hD1 hS1 => ?_)
    · have e1 : vp_V ((List.range (clAt (TY H.2.2.2)).2.2).map (fldV ad H H.2.2.2)) j = fldV ad H H.2.2.2 j := by simp [vp_V, hj]
      rw [e1]
      have hkd := clKd _ h10 j hj
      have hn9 := fkP_le ((clAt (TY H.2.2.2)).2.1 j).2.2.1
      obtain ⟨z1, z2, z3⟩ := hok.2.2.2 _ (Nat.le_refl H.2.2.2) j
      unfold fldV
      generalize hty : tyOf (TY H.2.2.2) j = ty at hkd
      rw [hkd.2, z1, z3]
      cases ty <;> first | rfl | (simp only [fkT] at hkd; omega)
    · refine nxtG (ad' := adP ad H.2.2.2 q) (cA' := cA) hs (okS_c (v := vr (some H.2.2.2)) (Nat.lt_succ_self _) (fun v hv => okV_le (Nat.le_succ _) (hst v hv))) ?_ (adP_agr ad _ q) (Nat.le_succ _) (fun _ _ => rfl) (fun _ _ => rfl) (mW_push hW (fun _ _ => rfl) ?_ (fun h => by omega) hP1 hD1) hS1 (by omega) (by omega)
      · rw [List.map_cons, map_agr (adP_agr ad _ q) hst]
        show Value.ref (adP ad H.2.2.2 q H.2.2.2) :: _ = _
        rw [adP_at]
      · rw [mcell_agr hok (adP_agr ad _ q) rfl, mcell_obj (by omega)]
set_option maxRecDepth 20000 in
set_option maxHeartbeats 2000000 in
theorem cl_newarray {l : Launch} {n d y pc : Nat} {tt : ArrayType} {len ia ib ic : Nat} {z : Int} {sw : List (Int × Nat)} {kc ks : Nat} {ls : mLs} {st : List mV} {H : mH} {K : mK} (hw : okRow (y, pc, .newarray tt, len, (ia, ib, ic), z, sw) = true) (hstep : stepW n (Pr l n) (ent (Pr l n)) d (y, pc, .newarray tt, len, (ia, ib, ic), z, sw) kc ks ls st H K) : Pr l n d y pc kc ks ls st H K := by
  obtain ⟨hdec, hins, hyl⟩ := okRow_sp hw
  simp only [okIns, Bool.and_eq_true, Bool.or_eq_true, decide_eq_true_eq, beq_iff_eq] at hins
  intro p e R s m args below meth c A D ad cA HH locs cells slots lsR QF ad0 nx0 hctx hroom hnest hro hend hst hls hlv hW hS hag hnx hkc hks
  obtain ⟨hx, hb, hr, hml, hown, hts, hlk, hini, hA⟩ := id hctx
  have nxt : ∀ {pc' : Nat} {st' : List mV}, Pr l n d y pc' kc ks ls st' H K → okS H.2.2.2 st' → W p l e R s m args below meth c HH locs cells slots QF (F0 m pc' lsR (st'.map (mval ad))) := fun h ok => h p e R s m args below meth c A D ad cA HH locs cells slots lsR QF ad0 nx0 hctx hroom hnest hro hend ok hls hlv hW hS hag hnx hkc hks
  have nxtL : ∀ {pc' : Nat} {st' : List mV} {ls' : mLs} {lsR' : Array Slot}, Pr l n d y pc' kc ks ls' st' H K → okS H.2.2.2 st' → okLs H.2.2.2 ls' → lv_has lsR' (mMax y) (lvOf ad ls') → W p l e R s m args below meth c HH locs cells slots QF (F0 m pc' lsR' (st'.map (mval ad))) := fun h ok okl hl => h p e R s m args below meth c A D ad cA HH locs cells slots _ QF ad0 nx0 hctx hroom hnest hro hend ok okl hl hW hS hag hnx hkc hks
  dsimp only [stepW] at hstep
  have nxtG : ∀ {pc' kc' ks' : Nat} {st' : List mV} {H' : mH} {ad' : Nat → Nat} {cA' : Nat → ClassId} {HH1 : Heap} {locs1 : List Loc} {cells' slots' : Nat} {stR : List Value}, Pr l n d y pc' kc' ks' ls st' H' K → okS H'.2.2.2 st' → st'.map (mval ad') = stR → agr H.2.2.2 ad ad' → H.2.2.2 ≤ H'.2.2.2 → (∀ h, h < 16 → H'.1 h = H.1 h) → (∀ h, h < 16 → H'.2.2.1 h = H.2.2.1 h) → mW D n ad' cA' H' A s HH1 → va_S A s.heap HH1 locs1 → cells' + kc' ≤ (mBud y).1 → slots' + ks' ≤ (mBud y).2 → W p l e R s m args below meth c HH1 locs1 cells' slots' QF (F0 m pc' lsR stR) := fun h ok hst' ha hle e1 e2 hW' hS' g1 g2 => by
    rw [← hst']
    exact h p e R s m args below meth c A D _ _ _ _ _ _ lsR QF ad0 nx0 hctx hroom (mNest_agr hW.2.2.2.2.1 ha hnest) (mRO_congr e1 e2 (mRO_agr hW.2.2.2.2 ha hro)) hend ok (fun i v hv => okV_le hle (hls i v hv)) (lv_agr ha hls hlv) hW' hS' (agH_G ha hnx e1 e2 hag) (Nat.le_trans hnx hle) g1 g2
  obtain ⟨rfl, hins⟩ := hins
  
  have hok := hW.2.2.2.2
  have hin := hS.1
  obtain ⟨r1, r2, r3, r4⟩ := hroom
  split at hstep
  · exact hstep.elim
  · rename_i kc'
    obtain ⟨x, r, rfl, hs0⟩ := eI_inv hstep
    obtain ⟨ht, hxe, hs⟩ := chk_inv hs0
    simp only [Bool.and_eq_true] at ht
    have hta : TY H.2.2.2 = ia := Nat.eq_of_beq_eq_true ht.1
    have hks2 : LN n H.2.2.2 ≤ ks := Nat.le_of_ble_eq_true ht.2.1
    have hbig : LN n H.2.2.2 ≤ 100000 := Nat.le_of_ble_eq_true ht.2.2
    subst hxe
    have hx0 : ¬ (Int32.ofInt (LN n H.2.2.2 : Int)) < 0 := by
      rw [show (0 : Int32) = Int32.ofInt 0 from rfl, ofInt_lt ⟨by omega, by omega⟩ ⟨by omega, by omega⟩]
      omega
    have hcl : (Int32.ofInt (LN n H.2.2.2 : Int)).toNatClampNeg = LN n H.2.2.2 := by
      show (Int32.ofInt (LN n H.2.2.2 : Int)).toInt.toNat = _
      rw [toInt_ofInt_id ⟨by omega, by omega⟩]
      omega
    cases tt <;> simp only [beq_iff_eq, Bool.false_eq_true] at hins
    · have hta2 : TY H.2.2.2 = 102 := by omega
      refine va_newa (atype := .boolean) (tys := []) (a0 := (LN n H.2.2.2, .inl fun _ => 0)) (N' := LN n H.2.2.2) hx hb (hts _ acIn.2.2) (ty := .boolean) rfl hW.2.2.1 hW.1 hW.2.1 hS hA (fun cA => by first | exact vp_cell_i _ _ _ | exact vp_cell_l _ _ _ | rfl) hx0 hcl (Nat.le_trans (Nat.mul_le_mul_right _ hbig) (by decide)) (by omega) (by omega) hdec (fun q cAq HH1 hK1 hP1 hD1 hS1 => ?_)
      refine nxtG (ad' := adP ad H.2.2.2 q) (cA' := fun h => if h = H.2.2.2 then cAq else cA h) hs (okS_c (v := vr (some H.2.2.2)) (Nat.lt_succ_self _) (fun v hv => okV_le (Nat.le_succ _) (okS_t hst v hv))) ?_ (adP_agr ad _ q) (Nat.le_succ _) (fun _ _ => rfl) (fun _ _ => rfl) (mW_push hW (fun h hh => if_neg (by omega)) ?_ (fun h => ?_) hP1 hD1) hS1 (by omega) (by omega)
      · rw [List.map_cons, map_agr (adP_agr ad _ q) (okS_t hst)]
        show Value.ref (adP ad H.2.2.2 q H.2.2.2) :: _ = _
        rw [adP_at]
      · rw [mcell_int (Or.inr hta2), fresh_int hok, if_pos rfl]
      · rw [if_pos rfl, show ety H.2.2.2 = .boolean by simp [ety, hta2]]
        exact hK1.2 0 _ rfl
    · have hta2 : TY H.2.2.2 = 100 := by omega
      refine va_newa (atype := .int) (tys := []) (a0 := (LN n H.2.2.2, .inl fun _ => 0)) (N' := LN n H.2.2.2) hx hb (hts _ acIn.1) (ty := .int) rfl hW.2.2.1 hW.1 hW.2.1 hS hA (fun cA => by first | exact vp_cell_i _ _ _ | exact vp_cell_l _ _ _ | rfl) hx0 hcl (Nat.le_trans (Nat.mul_le_mul_right _ hbig) (by decide)) (by omega) (by omega) hdec (fun q cAq HH1 hK1 hP1 hD1 hS1 => ?_)
      refine nxtG (ad' := adP ad H.2.2.2 q) (cA' := fun h => if h = H.2.2.2 then cAq else cA h) hs (okS_c (v := vr (some H.2.2.2)) (Nat.lt_succ_self _) (fun v hv => okV_le (Nat.le_succ _) (okS_t hst v hv))) ?_ (adP_agr ad _ q) (Nat.le_succ _) (fun _ _ => rfl) (fun _ _ => rfl) (mW_push hW (fun h hh => if_neg (by omega)) ?_ (fun h => ?_) hP1 hD1) hS1 (by omega) (by omega)
      · rw [List.map_cons, map_agr (adP_agr ad _ q) (okS_t hst)]
        show Value.ref (adP ad H.2.2.2 q H.2.2.2) :: _ = _
        rw [adP_at]
      · rw [mcell_int (Or.inl hta2), fresh_int hok, if_pos rfl]
      · rw [if_pos rfl, show ety H.2.2.2 = .int by simp [ety, hta2]]
        exact hK1.2 0 _ rfl
    · have hta2 : TY H.2.2.2 = 101 := by omega
      refine va_newa (atype := .long) (tys := []) (a0 := (LN n H.2.2.2, .inr (.inl fun _ => 0))) (N' := LN n H.2.2.2) hx hb (hts _ acIn.2.1) (ty := .long) rfl hW.2.2.1 hW.1 hW.2.1 hS hA (fun cA => by first | exact vp_cell_i _ _ _ | exact vp_cell_l _ _ _ | rfl) hx0 hcl (Nat.le_trans (Nat.mul_le_mul_right _ hbig) (by decide)) (by omega) (by omega) hdec (fun q cAq HH1 hK1 hP1 hD1 hS1 => ?_)
      refine nxtG (ad' := adP ad H.2.2.2 q) (cA' := fun h => if h = H.2.2.2 then cAq else cA h) hs (okS_c (v := vr (some H.2.2.2)) (Nat.lt_succ_self _) (fun v hv => okV_le (Nat.le_succ _) (okS_t hst v hv))) ?_ (adP_agr ad _ q) (Nat.le_succ _) (fun _ _ => rfl) (fun _ _ => rfl) (mW_push hW (fun h hh => if_neg (by omega)) ?_ (fun h => ?_) hP1 hD1) hS1 (by omega) (by omega)
      · rw [List.map_cons, map_agr (adP_agr ad _ q) (okS_t hst)]
        show Value.ref (adP ad H.2.2.2 q H.2.2.2) :: _ = _
        rw [adP_at]
      · rw [mcell_long hta2, fresh_long hok, if_pos rfl]
      · rw [if_pos rfl, show ety H.2.2.2 = .long by simp [ety, hta2]]
        exact hK1.2 0 _ rfl
set_option maxRecDepth 20000 in
set_option maxHeartbeats 2000000 in
theorem cl_anewarray {l : Launch} {n d y pc : Nat} {i : Nat} {len ia ib ic : Nat} {z : Int} {sw : List (Int × Nat)} {kc ks : Nat} {ls : mLs} {st : List mV} {H : mH} {K : mK} (hw : okRow (y, pc, .anewarray i, len, (ia, ib, ic), z, sw) = true) (hstep : stepW n (Pr l n) (ent (Pr l n)) d (y, pc, .anewarray i, len, (ia, ib, ic), z, sw) kc ks ls st H K) : Pr l n d y pc kc ks ls st H K := by
  obtain ⟨hdec, hins, hyl⟩ := okRow_sp hw
  simp only [okIns, Bool.and_eq_true, Bool.or_eq_true, decide_eq_true_eq, beq_iff_eq] at hins
  intro p e R s m args below meth c A D ad cA HH locs cells slots lsR QF ad0 nx0 hctx hroom hnest hro hend hst hls hlv hW hS hag hnx hkc hks
  obtain ⟨hx, hb, hr, hml, hown, hts, hlk, hini, hA⟩ := id hctx
  have nxt : ∀ {pc' : Nat} {st' : List mV}, Pr l n d y pc' kc ks ls st' H K → okS H.2.2.2 st' → W p l e R s m args below meth c HH locs cells slots QF (F0 m pc' lsR (st'.map (mval ad))) := fun h ok => h p e R s m args below meth c A D ad cA HH locs cells slots lsR QF ad0 nx0 hctx hroom hnest hro hend ok hls hlv hW hS hag hnx hkc hks
  have nxtL : ∀ {pc' : Nat} {st' : List mV} {ls' : mLs} {lsR' : Array Slot}, Pr l n d y pc' kc ks ls' st' H K → okS H.2.2.2 st' → okLs H.2.2.2 ls' → lv_has lsR' (mMax y) (lvOf ad ls') → W p l e R s m args below meth c HH locs cells slots QF (F0 m pc' lsR' (st'.map (mval ad))) := fun h ok okl hl => h p e R s m args below meth c A D ad cA HH locs cells slots _ QF ad0 nx0 hctx hroom hnest hro hend ok okl hl hW hS hag hnx hkc hks
  dsimp only [stepW] at hstep
  have nxtG : ∀ {pc' kc' ks' : Nat} {st' : List mV} {H' : mH} {ad' : Nat → Nat} {cA' : Nat → ClassId} {HH1 : Heap} {locs1 : List Loc} {cells' slots' : Nat} {stR : List Value}, Pr l n d y pc' kc' ks' ls st' H' K → okS H'.2.2.2 st' → st'.map (mval ad') = stR → agr H.2.2.2 ad ad' → H.2.2.2 ≤ H'.2.2.2 → (∀ h, h < 16 → H'.1 h = H.1 h) → (∀ h, h < 16 → H'.2.2.1 h = H.2.2.1 h) → mW D n ad' cA' H' A s HH1 → va_S A s.heap HH1 locs1 → cells' + kc' ≤ (mBud y).1 → slots' + ks' ≤ (mBud y).2 → W p l e R s m args below meth c HH1 locs1 cells' slots' QF (F0 m pc' lsR stR) := fun h ok hst' ha hle e1 e2 hW' hS' g1 g2 => by
    rw [← hst']
    exact h p e R s m args below meth c A D _ _ _ _ _ _ lsR QF ad0 nx0 hctx hroom (mNest_agr hW.2.2.2.2.1 ha hnest) (mRO_congr e1 e2 (mRO_agr hW.2.2.2.2 ha hro)) hend ok (fun i v hv => okV_le hle (hls i v hv)) (lv_agr ha hls hlv) hW' hS' (agH_G ha hnx e1 e2 hag) (Nat.le_trans hnx hle) g1 g2
  obtain ⟨⟨⟨rfl, h110⟩, hci⟩, hl⟩ := hins
  have h110 : 110 ≤ ia := Nat.le_of_ble_eq_true h110
  
  have hok := hW.2.2.2.2
  have hin := hS.1
  obtain ⟨r1, r2, r3, r4⟩ := hroom
  split at hstep
  · exact hstep.elim
  · rename_i kc'
    obtain ⟨x, r, rfl, hs0⟩ := eI_inv hstep
    obtain ⟨ht, hxe, hs⟩ := chk_inv hs0
    simp only [Bool.and_eq_true] at ht
    have hta : TY H.2.2.2 = ia := Nat.eq_of_beq_eq_true ht.1
    have hks2 : LN n H.2.2.2 ≤ ks := Nat.le_of_ble_eq_true ht.2.1
    have hbig : LN n H.2.2.2 ≤ 100000 := Nat.le_of_ble_eq_true ht.2.2
    subst hxe
    have hx0 : ¬ (Int32.ofInt (LN n H.2.2.2 : Int)) < 0 := by
      rw [show (0 : Int32) = Int32.ofInt 0 from rfl, ofInt_lt ⟨by omega, by omega⟩ ⟨by omega, by omega⟩]
      omega
    have hcl : (Int32.ofInt (LN n H.2.2.2 : Int)).toNatClampNeg = LN n H.2.2.2 := by
      show (Int32.ofInt (LN n H.2.2.2 : Int)).toInt.toNat = _
      rw [toInt_ofInt_id ⟨by omega, by omega⟩]
      omega
    have hover : va_AO (clAt (ia - 110)).1 s := by
      simp only [List.mem_cons, List.not_mem_nil, or_false] at hci
      obtain ⟨q1, q2, q3⟩ := hnest.2.2.2.2
      rcases hci with h | h | h <;> rw [h]
      · exact q1
      · exact q2
      · exact q3
    have hety : ety H.2.2.2 = .object (clAt (ia - 110)).1 := by
      unfold ety; split
      · omega
      · omega
      · omega
      · rw [hta]
    refine va_newq (C := (clAt (ia - 110)).1) (tys := []) (N' := LN n H.2.2.2) hx hb hown (hts _ (wAt_sp hl rfl)) hover hW.2.2.1 hW.1 hW.2.1 hS hA hx0 hcl (by omega) (by omega) (by omega) hdec (fun q cAq HH1 hK1 hP1 hD1 hS1 => ?_)
    refine nxtG (ad' := adP ad H.2.2.2 q) (cA' := fun h => if h = H.2.2.2 then cAq else cA h) hs (okS_c (v := vr (some H.2.2.2)) (Nat.lt_succ_self _) (fun v hv => okV_le (Nat.le_succ _) (okS_t hst v hv))) ?_ (adP_agr ad _ q) (Nat.le_succ _) (fun _ _ => rfl) (fun _ _ => rfl) (mW_push hW (fun h hh => if_neg (by omega)) ?_ (fun h => ?_) hP1 hD1) hS1 (by omega) (by omega)
    · rw [List.map_cons, map_agr (adP_agr ad _ q) (okS_t hst)]
      show Value.ref (adP ad H.2.2.2 q H.2.2.2) :: _ = _
      rw [adP_at]
    · rw [mcell_ref (by omega), fresh_ref hok, if_pos rfl]
    · rw [if_pos rfl, hety]
      exact hK1.2 0 _ rfl
set_option maxRecDepth 20000 in
set_option maxHeartbeats 2000000 in
theorem cl_ireturn {l : Launch} {n d y pc : Nat} {len ia ib ic : Nat} {z : Int} {sw : List (Int × Nat)} {kc ks : Nat} {ls : mLs} {st : List mV} {H : mH} {K : mK} (hw : okRow (y, pc, .ireturn, len, (ia, ib, ic), z, sw) = true) (hstep : stepW n (Pr l n) (ent (Pr l n)) d (y, pc, .ireturn, len, (ia, ib, ic), z, sw) kc ks ls st H K) : Pr l n d y pc kc ks ls st H K := by
  obtain ⟨hdec, hins, hyl⟩ := okRow_sp hw
  simp only [okIns, Bool.and_eq_true, Bool.or_eq_true, decide_eq_true_eq, beq_iff_eq] at hins
  intro p e R s m args below meth c A D ad cA HH locs cells slots lsR QF ad0 nx0 hctx hroom hnest hro hend hst hls hlv hW hS hag hnx hkc hks
  obtain ⟨hx, hb, hr, hml, hown, hts, hlk, hini, hA⟩ := id hctx
  have nxt : ∀ {pc' : Nat} {st' : List mV}, Pr l n d y pc' kc ks ls st' H K → okS H.2.2.2 st' → W p l e R s m args below meth c HH locs cells slots QF (F0 m pc' lsR (st'.map (mval ad))) := fun h ok => h p e R s m args below meth c A D ad cA HH locs cells slots lsR QF ad0 nx0 hctx hroom hnest hro hend ok hls hlv hW hS hag hnx hkc hks
  have nxtL : ∀ {pc' : Nat} {st' : List mV} {ls' : mLs} {lsR' : Array Slot}, Pr l n d y pc' kc ks ls' st' H K → okS H.2.2.2 st' → okLs H.2.2.2 ls' → lv_has lsR' (mMax y) (lvOf ad ls') → W p l e R s m args below meth c HH locs cells slots QF (F0 m pc' lsR' (st'.map (mval ad))) := fun h ok okl hl => h p e R s m args below meth c A D ad cA HH locs cells slots _ QF ad0 nx0 hctx hroom hnest hro hend ok okl hl hW hS hag hnx hkc hks
  dsimp only [stepW] at hstep
  have nxtG : ∀ {pc' kc' ks' : Nat} {st' : List mV} {H' : mH} {ad' : Nat → Nat} {cA' : Nat → ClassId} {HH1 : Heap} {locs1 : List Loc} {cells' slots' : Nat} {stR : List Value}, Pr l n d y pc' kc' ks' ls st' H' K → okS H'.2.2.2 st' → st'.map (mval ad') = stR → agr H.2.2.2 ad ad' → H.2.2.2 ≤ H'.2.2.2 → (∀ h, h < 16 → H'.1 h = H.1 h) → (∀ h, h < 16 → H'.2.2.1 h = H.2.2.1 h) → mW D n ad' cA' H' A s HH1 → va_S A s.heap HH1 locs1 → cells' + kc' ≤ (mBud y).1 → slots' + ks' ≤ (mBud y).2 → W p l e R s m args below meth c HH1 locs1 cells' slots' QF (F0 m pc' lsR stR) := fun h ok hst' ha hle e1 e2 hW' hS' g1 g2 => by
    rw [← hst']
    exact h p e R s m args below meth c A D _ _ _ _ _ _ lsR QF ad0 nx0 hctx hroom (mNest_agr hW.2.2.2.2.1 ha hnest) (mRO_congr e1 e2 (mRO_agr hW.2.2.2.2 ha hro)) hend ok (fun i v hv => okV_le hle (hls i v hv)) (lv_agr ha hls hlv) hW' hS' (agH_G ha hnx e1 e2 hag) (Nat.le_trans hnx hle) g1 g2
  obtain ⟨⟨rfl, hins⟩, hn9⟩ := hins
  obtain ⟨r1, r2, r3, r4⟩ := hroom
  split at hstep
  · rename_i x
    have hxr : -2147483648 ≤ x ∧ x < 2147483648 := okS_h hst
    have fin : ∀ ty, mRet y = some ty → rkOf (some ty) = 1 → narrow ty (.int (Int32.ofInt x)) = .int (Int32.ofInt x) → K (some (vi x)) H → W p l e R s m args below meth c HH locs cells slots QF (F0 m pc lsR ([vi x].map (mval ad))) := fun ty h1 h2 h3 h4 => hend ad cA H HH locs cells slots lsR pc .ireturn (some (vi x)) hdec (Or.inl ⟨rfl, x, ty, rfl, h1, h3, h2⟩) (fun v hv => by cases hv; exact hxr) h4 hag hnx hW hS (by omega) (by omega)
    split at hstep
    · exact fin _ (rc0 hins.symm) rfl rfl hstep
    · obtain ⟨g1, g2⟩ := b01W_inv hstep
      exact fin _ (rc1 hins.symm) rfl (b01 g1).1 g2
    · refine fin _ (rc2 hins.symm) rfl ?_ hstep.2
      obtain ⟨k, rfl⟩ : ∃ k : Nat, x = (k : Int) := ⟨x.toNat, by omega⟩
      have := (pk_charN (q := k) (by omega)).1
      rw [show nI k = Int32.ofInt (k : Int) from ofNat_ofInt k] at this
      exact this
    · obtain ⟨rfl, hK⟩ := hstep
      by_cases h9 : rcOf (mRet y) = 9
      · exact absurd h9 (by simpa using hn9)
      · obtain ⟨ty, h1, h2⟩ := rcN h9
        refine fin ty h1 h2 ?_ hK
        have hh : rcOf (some ty) ≠ 9 := by rw [← h1]; exact h9
        cases ty <;> first | decide | exact absurd rfl hh
  · exact hstep.elim
set_option maxRecDepth 20000 in
set_option maxHeartbeats 2000000 in
theorem cl_lreturn {l : Launch} {n d y pc : Nat} {len ia ib ic : Nat} {z : Int} {sw : List (Int × Nat)} {kc ks : Nat} {ls : mLs} {st : List mV} {H : mH} {K : mK} (hw : okRow (y, pc, .lreturn, len, (ia, ib, ic), z, sw) = true) (hstep : stepW n (Pr l n) (ent (Pr l n)) d (y, pc, .lreturn, len, (ia, ib, ic), z, sw) kc ks ls st H K) : Pr l n d y pc kc ks ls st H K := by
  obtain ⟨hdec, hins, hyl⟩ := okRow_sp hw
  simp only [okIns, Bool.and_eq_true, Bool.or_eq_true, decide_eq_true_eq, beq_iff_eq] at hins
  intro p e R s m args below meth c A D ad cA HH locs cells slots lsR QF ad0 nx0 hctx hroom hnest hro hend hst hls hlv hW hS hag hnx hkc hks
  obtain ⟨hx, hb, hr, hml, hown, hts, hlk, hini, hA⟩ := id hctx
  have nxt : ∀ {pc' : Nat} {st' : List mV}, Pr l n d y pc' kc ks ls st' H K → okS H.2.2.2 st' → W p l e R s m args below meth c HH locs cells slots QF (F0 m pc' lsR (st'.map (mval ad))) := fun h ok => h p e R s m args below meth c A D ad cA HH locs cells slots lsR QF ad0 nx0 hctx hroom hnest hro hend ok hls hlv hW hS hag hnx hkc hks
  have nxtL : ∀ {pc' : Nat} {st' : List mV} {ls' : mLs} {lsR' : Array Slot}, Pr l n d y pc' kc ks ls' st' H K → okS H.2.2.2 st' → okLs H.2.2.2 ls' → lv_has lsR' (mMax y) (lvOf ad ls') → W p l e R s m args below meth c HH locs cells slots QF (F0 m pc' lsR' (st'.map (mval ad))) := fun h ok okl hl => h p e R s m args below meth c A D ad cA HH locs cells slots _ QF ad0 nx0 hctx hroom hnest hro hend ok okl hl hW hS hag hnx hkc hks
  dsimp only [stepW] at hstep
  have nxtG : ∀ {pc' kc' ks' : Nat} {st' : List mV} {H' : mH} {ad' : Nat → Nat} {cA' : Nat → ClassId} {HH1 : Heap} {locs1 : List Loc} {cells' slots' : Nat} {stR : List Value}, Pr l n d y pc' kc' ks' ls st' H' K → okS H'.2.2.2 st' → st'.map (mval ad') = stR → agr H.2.2.2 ad ad' → H.2.2.2 ≤ H'.2.2.2 → (∀ h, h < 16 → H'.1 h = H.1 h) → (∀ h, h < 16 → H'.2.2.1 h = H.2.2.1 h) → mW D n ad' cA' H' A s HH1 → va_S A s.heap HH1 locs1 → cells' + kc' ≤ (mBud y).1 → slots' + ks' ≤ (mBud y).2 → W p l e R s m args below meth c HH1 locs1 cells' slots' QF (F0 m pc' lsR stR) := fun h ok hst' ha hle e1 e2 hW' hS' g1 g2 => by
    rw [← hst']
    exact h p e R s m args below meth c A D _ _ _ _ _ _ lsR QF ad0 nx0 hctx hroom (mNest_agr hW.2.2.2.2.1 ha hnest) (mRO_congr e1 e2 (mRO_agr hW.2.2.2.2 ha hro)) hend ok (fun i v hv => okV_le hle (hls i v hv)) (lv_agr ha hls hlv) hW' hS' (agH_G ha hnx e1 e2 hag) (Nat.le_trans hnx hle) g1 g2
  obtain ⟨rfl, hins⟩ := hins
  split at hstep
  · rename_i x
    exact hend ad cA H HH locs cells slots lsR pc .lreturn (some (vl x)) hdec (Or.inr (Or.inl ⟨rfl, x, rfl, hins⟩)) (fun v hv => by cases hv; trivial) hstep hag hnx hW hS (by omega) (by omega)
  · exact hstep.elim
set_option maxRecDepth 20000 in
set_option maxHeartbeats 2000000 in
theorem cl_areturn {l : Launch} {n d y pc : Nat} {len ia ib ic : Nat} {z : Int} {sw : List (Int × Nat)} {kc ks : Nat} {ls : mLs} {st : List mV} {H : mH} {K : mK} (hw : okRow (y, pc, .areturn, len, (ia, ib, ic), z, sw) = true) (hstep : stepW n (Pr l n) (ent (Pr l n)) d (y, pc, .areturn, len, (ia, ib, ic), z, sw) kc ks ls st H K) : Pr l n d y pc kc ks ls st H K := by
  obtain ⟨hdec, hins, hyl⟩ := okRow_sp hw
  simp only [okIns, Bool.and_eq_true, Bool.or_eq_true, decide_eq_true_eq, beq_iff_eq] at hins
  intro p e R s m args below meth c A D ad cA HH locs cells slots lsR QF ad0 nx0 hctx hroom hnest hro hend hst hls hlv hW hS hag hnx hkc hks
  obtain ⟨hx, hb, hr, hml, hown, hts, hlk, hini, hA⟩ := id hctx
  have nxt : ∀ {pc' : Nat} {st' : List mV}, Pr l n d y pc' kc ks ls st' H K → okS H.2.2.2 st' → W p l e R s m args below meth c HH locs cells slots QF (F0 m pc' lsR (st'.map (mval ad))) := fun h ok => h p e R s m args below meth c A D ad cA HH locs cells slots lsR QF ad0 nx0 hctx hroom hnest hro hend ok hls hlv hW hS hag hnx hkc hks
  have nxtL : ∀ {pc' : Nat} {st' : List mV} {ls' : mLs} {lsR' : Array Slot}, Pr l n d y pc' kc ks ls' st' H K → okS H.2.2.2 st' → okLs H.2.2.2 ls' → lv_has lsR' (mMax y) (lvOf ad ls') → W p l e R s m args below meth c HH locs cells slots QF (F0 m pc' lsR' (st'.map (mval ad))) := fun h ok okl hl => h p e R s m args below meth c A D ad cA HH locs cells slots _ QF ad0 nx0 hctx hroom hnest hro hend ok okl hl hW hS hag hnx hkc hks
  dsimp only [stepW] at hstep
  have nxtG : ∀ {pc' kc' ks' : Nat} {st' : List mV} {H' : mH} {ad' : Nat → Nat} {cA' : Nat → ClassId} {HH1 : Heap} {locs1 : List Loc} {cells' slots' : Nat} {stR : List Value}, Pr l n d y pc' kc' ks' ls st' H' K → okS H'.2.2.2 st' → st'.map (mval ad') = stR → agr H.2.2.2 ad ad' → H.2.2.2 ≤ H'.2.2.2 → (∀ h, h < 16 → H'.1 h = H.1 h) → (∀ h, h < 16 → H'.2.2.1 h = H.2.2.1 h) → mW D n ad' cA' H' A s HH1 → va_S A s.heap HH1 locs1 → cells' + kc' ≤ (mBud y).1 → slots' + ks' ≤ (mBud y).2 → W p l e R s m args below meth c HH1 locs1 cells' slots' QF (F0 m pc' lsR stR) := fun h ok hst' ha hle e1 e2 hW' hS' g1 g2 => by
    rw [← hst']
    exact h p e R s m args below meth c A D _ _ _ _ _ _ lsR QF ad0 nx0 hctx hroom (mNest_agr hW.2.2.2.2.1 ha hnest) (mRO_congr e1 e2 (mRO_agr hW.2.2.2.2 ha hro)) hend ok (fun i v hv => okV_le hle (hls i v hv)) (lv_agr ha hls hlv) hW' hS' (agH_G ha hnx e1 e2 hag) (Nat.le_trans hnx hle) g1 g2
  obtain ⟨rfl, hins⟩ := hins
  split at hstep
  · rename_i x
    obtain ⟨a, rfl, hK⟩ := drf_inv hstep
    obtain ⟨ty, h1⟩ := rk3 hins
    exact hend ad cA H HH locs cells slots lsR pc .areturn (some (vr (some a))) hdec (Or.inr (Or.inr (Or.inl ⟨rfl, a, ty, rfl, h1, by rw [← h1]; exact hins⟩))) (fun v hv => by cases hv; exact okS_h hst) hK hag hnx hW hS (by omega) (by omega)
  · exact hstep.elim
set_option maxRecDepth 20000 in
set_option maxHeartbeats 2000000 in
theorem cl_return_ {l : Launch} {n d y pc : Nat} {len ia ib ic : Nat} {z : Int} {sw : List (Int × Nat)} {kc ks : Nat} {ls : mLs} {st : List mV} {H : mH} {K : mK} (hw : okRow (y, pc, .return_, len, (ia, ib, ic), z, sw) = true) (hstep : stepW n (Pr l n) (ent (Pr l n)) d (y, pc, .return_, len, (ia, ib, ic), z, sw) kc ks ls st H K) : Pr l n d y pc kc ks ls st H K := by
  obtain ⟨hdec, hins, hyl⟩ := okRow_sp hw
  simp only [okIns, Bool.and_eq_true, Bool.or_eq_true, decide_eq_true_eq, beq_iff_eq] at hins
  intro p e R s m args below meth c A D ad cA HH locs cells slots lsR QF ad0 nx0 hctx hroom hnest hro hend hst hls hlv hW hS hag hnx hkc hks
  obtain ⟨hx, hb, hr, hml, hown, hts, hlk, hini, hA⟩ := id hctx
  have nxt : ∀ {pc' : Nat} {st' : List mV}, Pr l n d y pc' kc ks ls st' H K → okS H.2.2.2 st' → W p l e R s m args below meth c HH locs cells slots QF (F0 m pc' lsR (st'.map (mval ad))) := fun h ok => h p e R s m args below meth c A D ad cA HH locs cells slots lsR QF ad0 nx0 hctx hroom hnest hro hend ok hls hlv hW hS hag hnx hkc hks
  have nxtL : ∀ {pc' : Nat} {st' : List mV} {ls' : mLs} {lsR' : Array Slot}, Pr l n d y pc' kc ks ls' st' H K → okS H.2.2.2 st' → okLs H.2.2.2 ls' → lv_has lsR' (mMax y) (lvOf ad ls') → W p l e R s m args below meth c HH locs cells slots QF (F0 m pc' lsR' (st'.map (mval ad))) := fun h ok okl hl => h p e R s m args below meth c A D ad cA HH locs cells slots _ QF ad0 nx0 hctx hroom hnest hro hend ok okl hl hW hS hag hnx hkc hks
  dsimp only [stepW] at hstep
  have nxtG : ∀ {pc' kc' ks' : Nat} {st' : List mV} {H' : mH} {ad' : Nat → Nat} {cA' : Nat → ClassId} {HH1 : Heap} {locs1 : List Loc} {cells' slots' : Nat} {stR : List Value}, Pr l n d y pc' kc' ks' ls st' H' K → okS H'.2.2.2 st' → st'.map (mval ad') = stR → agr H.2.2.2 ad ad' → H.2.2.2 ≤ H'.2.2.2 → (∀ h, h < 16 → H'.1 h = H.1 h) → (∀ h, h < 16 → H'.2.2.1 h = H.2.2.1 h) → mW D n ad' cA' H' A s HH1 → va_S A s.heap HH1 locs1 → cells' + kc' ≤ (mBud y).1 → slots' + ks' ≤ (mBud y).2 → W p l e R s m args below meth c HH1 locs1 cells' slots' QF (F0 m pc' lsR stR) := fun h ok hst' ha hle e1 e2 hW' hS' g1 g2 => by
    rw [← hst']
    exact h p e R s m args below meth c A D _ _ _ _ _ _ lsR QF ad0 nx0 hctx hroom (mNest_agr hW.2.2.2.2.1 ha hnest) (mRO_congr e1 e2 (mRO_agr hW.2.2.2.2 ha hro)) hend ok (fun i v hv => okV_le hle (hls i v hv)) (lv_agr ha hls hlv) hW' hS' (agH_G ha hnx e1 e2 hag) (Nat.le_trans hnx hle) g1 g2
  obtain ⟨rfl, hins⟩ := hins
  split at hstep
  · exact hend ad cA H HH locs cells slots lsR pc .return_ none hdec (Or.inr (Or.inr (Or.inr ⟨rfl, rfl, hins⟩))) (fun v hv => by cases hv) hstep hag hnx hW hS (by omega) (by omega)
  · exact hstep.elim
