/-! ===== the class: where things are; rows; what is asked of one ===== -/
theorem oOk_0 : ∀ c j : Fin 7, j.val ≤ c.val → oOk 0 c.val (oH j.val) := by unfold oOk; decide +kernel
theorem oOk_n {n c h : Nat} (o : oOk 0 c h) : oOk n c h := o
theorem oOk_j {n c j : Nat} (hc : c ≤ 6) (hj : j ≤ c) : oOk n c (oH j) := oOk_n (oOk_0 ⟨c, by omega⟩ ⟨j, by omega⟩ hj)
theorem oOk_69 {n c : Nat} : oOk n c 69 := ⟨rfl, rfl, rfl, rfl, rfl, rfl, rfl, rfl, rfl, rfl⟩
theorem pOk_guess {n c : Nat} : pOk n c 81 := ⟨rfl, rfl, rfl, rfl, rfl, rfl, rfl⟩
theorem pOk_now {n c p : Nat} (hp : p < 6) : pOk n c (25 + 3 * p) := by
  rcases p with _ | _ | _ | _ | _ | _ | p
  all_goals first | exact ⟨rfl, rfl, rfl, rfl, rfl, rfl, rfl⟩ | omega
theorem pOk_kept {n c p : Nat} (hp : p < 6) : pOk n c (51 + 3 * p) := by
  rcases p with _ | _ | _ | _ | _ | _ | p
  all_goals first | exact ⟨rfl, rfl, rfl, rfl, rfl, rfl, rfl⟩ | omega
theorem Rs18 {c p : Nat} (hp : p < 6) : Rs c 18 p = some (25 + 3 * p) := by
  rcases p with _ | _ | _ | _ | _ | _ | p
  all_goals first | rfl | omega
theorem Rs44 {c p : Nat} (hp : p < 6) : Rs c 44 p = some (51 + 3 * p) := by
  rcases p with _ | _ | _ | _ | _ | _ | p
  all_goals first | rfl | omega
theorem Rs73 {c j : Nat} (hj : j < c) : Rs c 73 j = some (oH j) := by
  unfold Rs
  rw [show Nat.blt 73 155 = true from rfl]
  show (match Nat.blt j c with
    | true => some (oH j)
    | false => none) = _
  rw [show Nat.blt j c = true from Nat.blt_eq.mpr hj]
def hH (I : mI) : Nat := if I 17 4 < 0 then 69 else oH (I 17 4).toNat
def cO (I : mI) (c : Nat) : Prop := c ≤ 6 ∧ I 16 5 = (c : Int) ∧ (-1 ≤ I 17 4 ∧ I 17 4 < (c : Int)) ∧ oC I 69 ∧ ∀ j, j < c → oC I (oH j)
theorem cO_h {n c : Nat} {I : mI} (h : cO I c) : oOk n c (hH I) ∧ oC I (hH I) := by
  obtain ⟨h1, h2, h3, h4, h5⟩ := h
  unfold hH
  by_cases q : I 17 4 < 0
  · rw [if_pos q]; exact ⟨oOk_69, h4⟩
  · rw [if_neg q]; exact ⟨oOk_j h1 (by omega), h5 _ (by omega)⟩
theorem x_hold {n d : Nat} {I : mI} {L : mL} {c : Nat} {K : mK2} (h : cO I c) (k : K (some (vr (some (hH I)))) I L c) : C2 n d 112 [vr (some 16)] I L c K := by
  obtain ⟨h1, h2, h3, h4, h5⟩ := h
  refine x_holding ?_
  unfold hH at k
  by_cases q : I 17 4 < 0
  · rw [if_pos q] at k ⊢; exact k
  · rw [if_neg q] at k
    rw [if_neg q, if_pos (by omega), if_pos (by omega), Rs73 (by omega)]
    exact ⟨by omega, by omega, k⟩
/-- the class's people: n of them, in their bounds -/
def cP (I : mI) : Prop := (0 ≤ I 17 1 ∧ I 17 1 ≤ 6) ∧ (0 ≤ I 17 2 ∧ I 17 2 < 24) ∧ (∀ p, p < (I 17 1).toNat → okP (perC I (25 + 3 * p)) ∧ I (25 + 3 * p) 0 = (p : Int)) ∧ ∀ p, p < 6 → 0 ≤ I (25 + 3 * p) 4 ∧ I (25 + 3 * p) 4 ≤ 1
def perN (I : mI) (p : Nat) : mP := perC I (25 + 3 * p)
theorem x_paidByAll' {n d : Nat} {hour : Int} {I : mI} {L : mL} {c : Nat} {K : mK2} (h : cO I c) (hp : cP I) (hh : 0 ≤ hour ∧ hour < 24) (k : K (some (vi (allS (offC I (hH I)) (perN I) hour (I 17 1).toNat))) I L c) : C2 n (d + 6) 113 [vr (some 16), vi hour] I L c K := by
  obtain ⟨p1, p2, p3, p4⟩ := hp
  obtain ⟨ho, oc⟩ := cO_h (n := n) h
  refine x_paidByAll (x_hold h ?_)
  rw [rr_vr, drf_s]
  have loop := loopN (N := (I 17 1).toNat) (P := fun j => W2 n (d + 6) 113 10 [some (vr (some 16)), some (vi hour), some (vr (some (hH I))), some (vi (allS (offC I (hH I)) (perN I) hour j)), some (vi (j : Int))] [] I L c K) ?_ ?_ 0 (Nat.zero_le _)
  · exact loop
  · refine x_paidByAll_10 ?_
    rw [if_neg (by omega)]
    exact k
  · intro j hj ih
    refine x_paidByAll_10 ?_
    rw [if_pos (by omega), Int.toNat_natCast, Rs18 (by omega), chkE ho.1, wr_nat (by omega)]
    refine ⟨by omega, ?_⟩
    refine x_pays ho (pOk_now (by omega)) oc (p3 j hj).1 hh ?_
    have b1 := all_bd (P := perN I) (hour := hour) oc.1 (n := j) (by omega)
    have b2 := pays_bd (P := perC I (25 + 3 * j)) (hour := hour) oc.1
    rw [ri_vi, wri (by omega)]
    exact ih
def gI3 : List Nat := [81, 82, 83]
theorem x_older {n d y p : Nat} {I : mI} {L : mL} {c : Nat} {K : mK2} (hp : pOk n c p) (hn : p + 3 ≤ 81) (hP : okP (perC I p)) (hy : y ≤ 1000) (k : ∀ I', eqx gI3 I I' → perC I' 81 = ageS (perC I p) y → K (some (vr (some 81))) I' L c) : C2 n (d + 1) 6 [vr (some 80), vr (some p), vi (y : Int)] I L c K := by
  refine As_older (x_copyP pOk_guess hp (by decide) (by omega) hP.2.2.2.2.1 ?_)
  intro I1 x1 z1
  rw [rv_no]
  refine x_grow pOk_guess (by decide) (by rw [z1]; exact hP) hy ?_
  intro I2 x2 z2
  rw [rv_no]
  exact k I2 (eqx_tr x1 (eqx_wk rfl x2)) (by rw [z2, z1])
theorem x_bestHour {n d h p : Nat} {I : mI} {L : mL} {c : Nat} {K : mK2} (ho : oOk n c h) (hp : pOk n c p) (oc : oC I h) (hP : okP (perC I p)) (k : K (some (vi ((bestS (fun h' => paysS (offC I h) (perC I p) h') 23 : Nat) : Int))) I L c) : C2 n (d + 6) 7 [vr (some 80), vr (some h), vr (some p)] I L c K := by
  refine As_bestHour ?_
  rw [chkE ho.1]
  refine x_pays ho hp oc hP (by decide) ?_
  rw [ri_vi]
  have loop := loopN (N := 23) (P := fun j => W2 n (d + 6) 7 13 [none, some (vr (some h)), some (vr (some p)), some (vi ((bestS (fun h' => paysS (offC I h) (perC I p) h') j : Nat) : Int)), some (vi (paysS (offC I h) (perC I p) ((bestS (fun h' => paysS (offC I h) (perC I p) h') j : Nat) : Int))), some (vi ((j + 1 : Nat) : Int)), none] [] I L c K) ?_ ?_ 0 (Nat.zero_le _)
  · exact loop
  · refine As_bestHour_13 ?_
    rw [if_neg (by omega)]
    exact k
  · intro j hj ih
    refine As_bestHour_13 ?_
    rw [if_pos (by omega), chkE ho.1, wr_nat (by omega)]
    refine x_pays ho hp oc hP (by omega) ?_
    rw [ri_vi]
    unfold bestS at ih
    by_cases r : paysS (offC I h) (perC I p) ((j + 1 : Nat) : Int) < paysS (offC I h) (perC I p) ((bestS (fun h' => paysS (offC I h) (perC I p) h') j : Nat) : Int)
    · rw [if_pos r]; rw [if_pos r] at ih; exact ih
    · rw [if_neg r]; rw [if_neg r] at ih; exact ih
theorem codesG_e {I I' : mI} {a : Nat} (e : I' a = I a) : ∀ m k, codesG I' a k m = codesG I a k m
  | 0, _ => rfl
  | m + 1, k => by unfold codesG; rw [e, codesG_e e m]
theorem fromC_e {I I' : mI} {h : Nat} (e : I' (h + 2) = I (h + 2)) : ∀ k, fromC I' h k = fromC I h k
  | 0 => rfl
  | k + 1 => by unfold fromC; rw [e]
theorem wishC_e {I I' : mI} {h : Nat} (e1 : I' (h + 1) = I (h + 1)) (e2 : I' (h + 2) = I (h + 2)) (e3 : I' (h + 3) = I (h + 3)) : ∀ k, wishC I' h k = wishC I h k
  | 0 => rfl
  | k + 1 => by unfold wishC; rw [wishC_e e1 e2 e3 k, e1, fromC_e e2, fromC_e e2, codesG_e e3]
theorem offC_c {I I' : mI} {h : Nat} (e0 : I' h = I h) (e1 : I' (h + 1) = I (h + 1)) (e2 : I' (h + 2) = I (h + 2)) (e3 : I' (h + 3) = I (h + 3)) : offC I' h = offC I h := by
  unfold offC
  rw [e0, wishC_e e1 e2 e3]
theorem oC_c {I I' : mI} {h : Nat} (e0 : I' h = I h) (e1 : I' (h + 1) = I (h + 1)) (e2 : I' (h + 2) = I (h + 2)) (e3 : I' (h + 3) = I (h + 3)) (o : oC I h) : oC I' h := by
  unfold oC
  rw [offC_c e0 e1 e2 e3, e0, e2, e3]
  obtain ⟨a, b, c, d⟩ := o
  refine ⟨a, b, fun k hk => ?_, d⟩
  rw [fromC_e e2, fromC_e e2]
  exact c k hk
theorem oH_r (j : Nat) : oH j = 76 ∨ 155 ≤ oH j := by
  cases j with
  | zero => exact Or.inl rfl
  | succ j => right; show 155 ≤ 155 + 4 * j; omega
/-- the cells of those made by constructors that are no office's and not the world's own -/
def scr (l : List Nat) : Bool := l.all fun a => Nat.blt a 155 && (!(Nat.blt 68 a && Nat.blt a 73) && (!(Nat.blt 75 a && Nat.blt a 80)))
theorem scr_n {l : List Nat} (h : scr l = true) {h0 : Nat} (hh : h0 = 69 ∨ h0 = 76 ∨ 155 ≤ h0) : ∀ i, i < 4 → h0 + i ≠ 104 ∧ h0 + i ∉ l := by
  intro i hi
  refine ⟨by omega, fun hm => ?_⟩
  have := List.all_eq_true.mp h _ hm
  rw [Bool.and_eq_true, Bool.and_eq_true, Nat.blt_eq, Bool.not_eq_true', Bool.not_eq_true', Bool.and_eq_false_iff, Bool.and_eq_false_iff, Bool.eq_false_iff, Bool.eq_false_iff, Bool.eq_false_iff, Bool.eq_false_iff, Ne, Ne, Ne, Ne, Nat.blt_eq, Nat.blt_eq, Nat.blt_eq, Nat.blt_eq] at this
  omega
theorem off_s {l : List Nat} {I I' : mI} (e : eqx l I I') (hs : scr l = true) {h : Nat} (hh : h = 69 ∨ h = 76 ∨ 155 ≤ h) : offC I' h = offC I h := by
  have n := scr_n hs hh
  exact offC_c (cell_n e (n 0 (by decide)).1 (n 0 (by decide)).2) (cell_n e (n 1 (by decide)).1 (n 1 (by decide)).2) (cell_n e (n 2 (by decide)).1 (n 2 (by decide)).2) (cell_n e (n 3 (by decide)).1 (n 3 (by decide)).2)
theorem oC_s {l : List Nat} {I I' : mI} (e : eqx l I I') (hs : scr l = true) {h : Nat} (hh : h = 69 ∨ h = 76 ∨ 155 ≤ h) (o : oC I h) : oC I' h := by
  have n := scr_n hs hh
  exact oC_c (cell_n e (n 0 (by decide)).1 (n 0 (by decide)).2) (cell_n e (n 1 (by decide)).1 (n 1 (by decide)).2) (cell_n e (n 2 (by decide)).1 (n 2 (by decide)).2) (cell_n e (n 3 (by decide)).1 (n 3 (by decide)).2) o
theorem hH_r (I : mI) : hH I = 69 ∨ hH I = 76 ∨ 155 ≤ hH I := by
  unfold hH
  split
  · exact Or.inl rfl
  · exact Or.inr (oH_r _)
theorem cO_s {l : List Nat} {I I' : mI} {c : Nat} (e : eqx l I I') (hs : scr l = true) (h16 : I' 16 5 = I 16 5) (h17 : I' 17 4 = I 17 4) (o : cO I c) : cO I' c := by
  obtain ⟨h1, h2, h3, h4, h5⟩ := o
  unfold cO
  rw [h16, h17]
  exact ⟨h1, h2, h3, oC_s e hs (Or.inl rfl) h4, fun j hj => oC_s e hs (Or.inr (oH_r j)) (h5 j hj)⟩
theorem hH_s {I I' : mI} (h17 : I' 17 4 = I 17 4) : hH I' = hH I := by unfold hH; rw [h17]
theorem x_firstRise {n d h p : Nat} {hour : Int} {I : mI} {L : mL} {c : Nat} {K : mK2} (ho : oOk n c h) (hr : h = 69 ∨ h = 76 ∨ 155 ≤ h) (hp : pOk n c p) (hn : p + 3 ≤ 81) (oc : oC I h) (hP : okP (perC I p)) (hh : 0 ≤ hour ∧ hour < 24) (k : ∀ I', eqx gI3 I I' → K (some (vi (risesS (offC I h) (perC I p) hour))) I' L c) : C2 n (d + 6) 8 [vr (some 80), vr (some h), vr (some p), vi hour] I L c K := by
  refine As_firstRise (x_copyP pOk_guess hp (by decide) (by omega) hP.2.2.2.2.1 ?_)
  intro I1 x1 z1
  rw [rv_no, chkE ho.1]
  have o1 := oC_s x1 rfl hr oc
  refine x_pays ho pOk_guess o1 (by rw [z1]; exact hP) hh ?_
  rw [ri_vi, z1, off_s x1 rfl hr]
  have loop : ∀ m y, y + m = 61 → 1 ≤ y → (∀ I', eqx gI3 I I' → K (some (vi (fstS (fun y => decide (paysS (offC I h) (ageS (perC I p) (y - 1)) hour < paysS (offC I h) (ageS (perC I p) y) hour)) y m))) I' L c) → ∀ I2, eqx gI3 I I2 → perC I2 81 = ageS (perC I p) (y - 1) →
      W2 n (d + 6) 8 22 [some (vr (some 80)), some (vr (some h)), none, some (vi hour), some (vi (paysS (offC I h) (ageS (perC I p) (y - 1)) hour)), some (vi (y : Int)), none] [] I2 L c K := by
    intro m
    induction m with
    | zero =>
      intro y hy hy1 kk I2 x2 z2
      refine As_firstRise_22 ?_
      rw [if_pos (by omega)]
      exact kk I2 x2
    | succ m ih =>
      intro y hy hy1 kk I2 x2 z2
      refine As_firstRise_22 ?_
      simp only [chkE ho.1, wr_nat (show y < 1000000 by omega)]
      rw [if_neg (by omega)]
      refine x_grow (y := 1) pOk_guess (by decide) (by rw [z2]; exact okP_age hP _) (by decide) ?_
      intro I3 x3 z3
      have x13 : eqx gI3 I I3 := eqx_tr x2 (eqx_wk rfl x3)
      have z4 : perC I3 81 = ageS (perC I p) y := by
        rw [z3, z2]
        show yearS (ageS (perC I p) (y - 1)) = _
        rw [show y = (y - 1) + 1 by omega]
        rfl
      rw [rv_no]
      refine x_pays ho pOk_guess (oC_s x13 rfl hr oc) (by rw [z4]; exact okP_age hP _) hh ?_
      rw [ri_vi, z4, off_s x13 rfl hr]
      unfold fstS at kk
      by_cases r : paysS (offC I h) (ageS (perC I p) (y - 1)) hour < paysS (offC I h) (ageS (perC I p) y) hour
      · rw [if_pos r]
        simp only [if_pos (decide_eq_true r)] at kk
        exact kk I3 x13
      · rw [if_neg r]
        simp only [decide_eq_false r, if_neg (show ¬ (false = true) by decide)] at kk
        exact ih (y + 1) (by omega) (by omega) kk I3 x13 z4
  exact loop 60 1 rfl (by omega) k I1 x1 z1
/-! rows -/
def rOk (n c h a N : Nat) : Prop := TY h = 5 ∧ Rs c h 1 = some a ∧ TY a = 100 ∧ LN n a = 4 * N
theorem rOk_l {n c : Nat} : rOk n c 19 20 6 := ⟨rfl, rfl, rfl, rfl⟩
theorem rOk_p {n c : Nat} : rOk n c 21 22 10 := ⟨rfl, rfl, rfl, rfl⟩
theorem rOk_b {n c : Nat} : rOk n c 23 24 8 := ⟨rfl, rfl, rfl, rfl⟩
theorem x_cell {n d h a N k j : Nat} {I : mI} {L : mL} {c : Nat} {K : mK2} (hr : rOk n c h a N) (hN : N ≤ 100) (hk : k < N) (hj : j < 4) (kk : K (some (vi (I a (4 * k + j)))) I L c) : C2 n d 59 [vr (some h), vi (k : Int), vi (j : Int)] I L c K := by
  obtain ⟨r1, r2, r3, r4⟩ := hr
  refine Ro_cell ?_
  simp only [chkE r1, r2, drf_s, r4, chkE2 r3]
  have e : wr (wr ((k : Int) * 4) + (j : Int)) = ((4 * k + j : Nat) : Int) := by rw [wri (x := (k : Int) * 4) (by omega), wri (by omega)]; omega
  rw [e, if_neg (by omega)]
  refine chk_i (by rw [r3]; rfl) ?_
  rw [if_pos (by omega)]
  exact ⟨by omega, kk⟩
theorem x_cell0 {n d h a N k : Nat} {I : mI} {L : mL} {c : Nat} {K : mK2} (hr : rOk n c h a N) (hN : N ≤ 100) (hk : k < N) (kk : K (some (vi (I a (4 * k)))) I L c) : C2 n d 59 [vr (some h), vi (k : Int), vi 0] I L c K := x_cell (j := 0) hr hN hk (by decide) kk
theorem x_put {n d h a N m : Nat} {v0 v1 v2 v3 : Int} {I : mI} {L : mL} {c : Nat} {K : mK2} (hr : rOk n c h a N) (hN : N ≤ 100) (hha : h ≠ a) (hm : I h 2 = (m : Int)) (hk : m < N) (kk : ∀ I', eqx [h, a] I I' → (h < 1000) → I' h 2 = ((m + 1 : Nat) : Int) → (∀ i, i ≠ 2 → I' h i = I h i) → (∀ i, i < 4 * m → I' a i = I a i) → I' a (4 * m) = v0 → I' a (4 * m + 1) = v1 → I' a (4 * m + 2) = v2 → I' a (4 * m + 3) = v3 → K (some (vi ((m + 1 : Nat) : Int))) I' L c) (hb : h < 1000 ∧ a < 1000) : C2 n d 58 [vr (some h), vi v0, vi v1, vi v2, vi v3] I L c K := by
  obtain ⟨r1, r2, r3, r4⟩ := hr
  refine Ro_put ?_
  have ew : wr (I h 2 * 4) = ((4 * m : Nat) : Int) := by rw [hm, wri (by omega)]; omega
  simp only [chkE r1, r2, drf_s, r4, chkE r3, ew]
  have e1 : wr (((4 * m : Nat) : Int) + 1) = ((4 * m + 1 : Nat) : Int) := by rw [wri (by omega)]; omega
  have e2 : wr (((4 * m : Nat) : Int) + 2) = ((4 * m + 2 : Nat) : Int) := by rw [wri (by omega)]; omega
  have e3 : wr (((4 * m : Nat) : Int) + 3) = ((4 * m + 3 : Nat) : Int) := by rw [wri (by omega)]; omega
  have e4 : wr (((4 * m : Nat) : Int) + 4) = ((4 * m + 4 : Nat) : Int) := by rw [wri (by omega)]; omega
  rw [e1, e2, e3, e4]
  refine chk_i (by rw [r3]; rfl) ?_
  rw [if_neg (by omega)]
  simp only [Int.toNat_natCast, up2_same, up2_ne hha]
  have e5 : wr (I h 2 + 1) = ((m + 1 : Nat) : Int) := by rw [hm]; exact wr_nat (by omega)
  rw [e5]
  refine ⟨by omega, by omega, by omega, by omega, ?_⟩
  refine kk _ ?_ hb.1 up2_same ?_ ?_ ?_ ?_ ?_ ?_
  · refine eqx_up (eqx_up (eqx_up (eqx_up (eqx_up (eqx_rf _ _) ?_) ?_) ?_) ?_) ?_
    all_goals first | exact jk_m hb.1 (by simp) | exact jk_m hb.2 (by simp)
  · intro i hi
    simp [up2, hi, hha]
  all_goals simp only [up2_ne (show a ≠ h from fun e => hha e.symm)]
  · intro i hi
    rw [up2_at (by omega), up2_at (by omega), up2_at (by omega), up2_at (by omega)]
  · rw [up2_at (by omega), up2_at (by omega), up2_at (by omega), up2_same]
  · rw [up2_at (by omega), up2_at (by omega), up2_same]
  · rw [up2_at (by omega), up2_same]
  · rw [up2_same]
