/-! ===== the class: what its public methods answer, by its own words ===== -/
def rg (x : Int) : Prop := -2147483648 ≤ x ∧ x < 2147483648
def isC (I : mI) (p : Int) : Prop := 0 ≤ p ∧ p < I 17 1
theorem wr_m {t a : Int} (h : rg t) (ha : 0 ≤ a ∧ a ≤ 1000) : wr (t - a) = t - a ∨ (1000 ≤ wr (t - a) ∧ t < 0) := by
  unfold rg at h
  unfold wr
  omega
theorem x_of' {n d : Nat} {p t : Int} {I : mI} {L : mL} {c : Nat} {K : mK2} (hO : cO I c) (hP : cP I) (ht : rg t) (k : K (some (vi (if 0 ≤ p ∧ p < I 17 1 then ofS (offC I (hH I)) (perN I p.toNat) (I 17 2) t else -1001))) I L c) : C2 n (d + 6) 68 [vr (some 16), vi p, vi t] I L c K := by
  obtain ⟨p1, p2, p3, p4⟩ := hP
  obtain ⟨ho, oc⟩ := cO_h (n := n) hO
  refine x_of ?_
  unfold rg at ht
  by_cases q : 0 ≤ p ∧ p < I 17 1
  · rw [if_pos q] at k
    obtain ⟨p, rfl⟩ : ∃ m : Nat, p = m := ⟨p.toNat, by omega⟩
    rw [Int.toNat_natCast] at k
    have hp : p < 6 := by omega
    have po := pOk_now (n := n) (c := c) hp
    obtain ⟨hPp, hp0⟩ := p3 p (by omega)
    rw [if_neg (by omega), if_pos (by omega), if_pos (by omega), Int.toNat_natCast, Rs18 hp, drf_s]
    refine ⟨by omega, x_hold hO ?_⟩
    rw [rr_vr, drf_s]
    simp only [chkE po.1, chkE ho.1, po.2.1, drf_s, chkE2 po.2.2.2.1, po.2.2.2.2.2.1]
    unfold ofS at k
    by_cases a1 : 10 ≤ t ∧ t ≤ 15
    · rw [if_pos a1] at k
      rw [if_neg (by omega)]
      have e : perN I p (5 + (t - 10).toNat) = I (25 + 3 * p + 1) (t - 10).toNat := perC5 I _ (by omega)
      rw [e] at k
      simp (disch := omega) only [if_pos, if_neg, wri]
      exact ⟨by omega, k⟩
    rw [if_neg a1] at k
    by_cases a2 : 20 ≤ t ∧ t ≤ 25
    · rw [if_pos a2] at k
      simp (disch := omega) only [if_pos, if_neg]
      rw [show wr (t - 20) = (((t - 20).toNat : Nat) : Int) by rw [wri (by omega)]; omega]
      refine x_fine (d := d + 2) ho po oc hPp p2 (by omega) ?_
      exact k
    rw [if_neg a2] at k
    by_cases a3 : 30 ≤ t ∧ t ≤ 35
    · rw [if_pos a3] at k
      simp (disch := omega) only [if_pos, if_neg]
      rw [wri (x := t - 30) (by omega)]
      refine x_liking (d := d + 3) ho po oc hPp ?_
      exact k
    rw [if_neg a3] at k
    have t20 : t < 10 ∨ 16 ≤ t := by omega
    by_cases b0 : t = 0
    · subst b0
      simp (disch := omega) only [if_pos, if_neg] at k ⊢
      exact k
    rw [if_neg b0] at k
    by_cases b1 : t = 1
    · subst b1
      simp (disch := omega) only [if_pos, if_neg] at k ⊢
      exact k
    rw [if_neg b1] at k
    by_cases b2 : t = 2
    · subst b2
      simp (disch := omega) only [if_pos, if_neg] at k ⊢
      exact k
    rw [if_neg b2] at k
    by_cases b3 : t = 3
    · subst b3
      simp (disch := omega) only [if_pos, if_neg] at k ⊢
      have k3 : K (some (vi (I (25 + 3 * p) 4))) I L c := k
      have g4 := p4 p hp
      by_cases r : I (25 + 3 * p) 4 = 0
      · rw [if_pos r]; rw [r] at k3; exact k3
      · rw [if_neg r]; rw [show I (25 + 3 * p) 4 = 1 by omega] at k3; exact k3
    rw [if_neg b3] at k
    by_cases b4 : t = 4
    · subst b4
      simp (disch := omega) only [if_pos, if_neg] at k ⊢
      exact x_pays ho po oc hPp p2 k
    rw [if_neg b4] at k
    by_cases b5 : t = 5
    · subst b5
      simp (disch := omega) only [if_pos, if_neg] at k ⊢
      exact x_partsLetOff (d := d + 1) ho po oc hPp p2 k
    rw [if_neg b5] at k
    by_cases b6 : t = 6
    · subst b6
      simp (disch := omega) only [if_pos, if_neg] at k ⊢
      exact x_partToShow (d := d + 1) ho po oc hPp p2 k
    rw [if_neg b6] at k
    simp (disch := omega) only [if_neg b0, if_neg b1, if_neg b2, if_neg b3, if_neg b4, if_neg b5, if_neg b6]
    repeat' (first | exact k | (exfalso; omega) | refine ite_i (fun _ => ?_) (fun _ => ?_))
  · rw [if_neg q] at k
    repeat' (first | exact k | (exfalso; omega) | refine ite_i (fun _ => ?_) (fun _ => ?_))
theorem x_told' {n d : Nat} {t : Int} {I : mI} {L : mL} {c : Nat} {K : mK2} (hO : cO I c) (hP : cP I) (k : K (some (vi (toldS (offC I (hH I)) (perN I) (I 17 2) (I 17 3) (I 17 1).toNat t))) I L c) : C2 n (d + 7) 75 [vr (some 16), vi t] I L c K := by
  obtain ⟨ho, oc⟩ := cO_h (n := n) hO
  refine x_told (x_hold hO ?_)
  rw [rr_vr, drf_s]
  simp only [chkE ho.1]
  unfold toldS at k
  by_cases b0 : t = 0
  · rw [if_pos b0] at k ⊢; exact k
  rw [if_neg b0] at k ⊢
  by_cases b1 : t = 1
  · rw [if_pos b1] at k ⊢; exact k
  rw [if_neg b1] at k ⊢
  by_cases b2 : t = 2
  · rw [if_pos b2] at k ⊢; exact k
  rw [if_neg b2] at k ⊢
  by_cases b3 : t = 3
  · rw [if_pos b3] at k ⊢; exact k
  rw [if_neg b3] at k ⊢
  by_cases b4 : t = 4
  · rw [if_pos b4] at k ⊢; exact k
  rw [if_neg b4] at k ⊢
  by_cases b5 : t = 5
  · rw [if_pos b5] at k ⊢; exact x_glow ho oc hP.2.1 k
  rw [if_neg b5] at k ⊢
  by_cases b6 : t = 6
  · rw [if_pos b6] at k ⊢; exact x_paidByAll' hO hP hP.2.1 k
  rw [if_neg b6] at k ⊢
  exact k
theorem x_on' {n d : Nat} {y t : Int} {I : mI} {L : mL} {c : Nat} {K : mK2} (hO : cO I c) (hP : cP I) (ht : rg t)
    (k1 : ¬ (t = 0 ∨ isC I (t - 10) ∨ isC I (t - 20)) → K (some (vi (-1))) I L c)
    (k2 : (t = 0 ∨ isC I (t - 10) ∨ isC I (t - 20)) → ¬ (0 ≤ y ∧ y ≤ 60) → K (some (vi (-2))) I L c)
    (k3 : (t = 0 ∨ isC I (t - 10) ∨ isC I (t - 20)) → 0 ≤ y ∧ y ≤ 60 → ∀ I', eqx gI3 I I' → K (some (vi (onS (offC I (hH I)) (perN I) (I 17 2) (I 17 1).toNat y.toNat t))) I' L c) : C2 n (d + 6) 77 [vr (some 16), vi y, vi t] I L c K := by
  have hO' := hO
  have hP' := hP
  obtain ⟨p1, p2, p3, p4⟩ := hP
  obtain ⟨ho, oc⟩ := cO_h (n := n) hO
  have u1 := wr_m (a := 10) ht (by decide)
  have u2 := wr_m (a := 20) ht (by decide)
  unfold isC at k1 k2 k3
  refine x_on ?_
  generalize wr (t - 10) = u at *
  generalize wr (t - 20) = v at *
  by_cases q : t = 0 ∨ (0 ≤ t - 10 ∧ t - 10 < I 17 1) ∨ (0 ≤ t - 20 ∧ t - 20 < I 17 1)
  · by_cases r : 0 ≤ y ∧ y ≤ 60
    · obtain ⟨m, rfl⟩ : ∃ m : Nat, y = m := ⟨y.toNat, by omega⟩
      have kk := k3 q r
      rw [Int.toNat_natCast] at kk
      unfold onS at kk
      clear k1 k2 k3
      have one : ∀ (I1 : mI), eqx gI3 I I1 → ∀ p, p < 6 → perN I1 p = perN I p := fun I1 e p hp => perN_n e rfl hp
      have hR := hH_r I
      by_cases t0 : t = 0
      · simp only [if_pos t0] at kk
        have main : W2 n (d + 6) 77 131 [some (vr (some 16)), some (vi (m : Int)), none, none, none, some (vr (some (hH I))), some (vi 0), some (vi 0)] [] I L c K := by
          have loop := loopN (N := (I 17 1).toNat) (P := fun j => ∀ I1, eqx gI3 I I1 → W2 n (d + 6) 77 131 [some (vr (some 16)), some (vi (m : Int)), none, none, none, some (vr (some (hH I))), some (vi (sumS (fun p => paysS (offC I (hH I)) (ageS (perN I p) m) (I 17 2)) j)), some (vi (j : Int))] [] I1 L c K) ?_ ?_ 0 (Nat.zero_le _)
          · exact loop I (eqx_rf _ _)
          · intro I1 x1
            refine x_on_131 ?_
            rw [x1 17 1 rfl, if_neg (by omega)]
            exact kk I1 x1
          · intro j hj ih I1 x1
            have sb := sum_bd (f := fun p => paysS (offC I (hH I)) (ageS (perN I p) m) (I 17 2)) (B := 594) j (fun i _ => pays_bd oc.1)
            have pb := pays_bd (P := ageS (perN I j) m) (hour := I 17 2) oc.1
            refine x_on_131 ?_
            rw [x1 17 1 rfl, if_pos (by omega), Int.toNat_natCast, Rs18 (by omega)]
            simp only [chkE ho.1, wr_nat (show j < 1000000 by omega)]
            refine ⟨by omega, ?_⟩
            have pe : perC I1 (25 + 3 * j) = perN I j := one I1 x1 j (by omega)
            refine x_older (d := d + 4) (pOk_now (by omega)) (by omega) (by rw [pe]; exact (p3 j hj).1) (by omega) ?_
            intro I2 x2 z2
            have x12 := eqx_tr x1 x2
            rw [rr_vr, x12 17 2 rfl]
            refine x_pays ho pOk_guess (oC_s x12 rfl hR oc) (by rw [z2, pe]; exact okP_age (p3 j hj).1 _) p2 ?_
            rw [ri_vi, z2, pe, off_s x12 rfl hR, wri (by omega)]
            exact ih I2 x12
        repeat' (first | (refine x_hold hO' ?_; exact main) | (exfalso; omega) | refine ite_i (fun _ => ?_) (fun _ => ?_))
      simp only [if_neg t0] at kk
      by_cases t1 : t < 20
      · simp only [if_pos t1] at kk
        have hu : u = (((t - 10).toNat : Nat) : Int) := by omega
        have pe : perC I (25 + 3 * (t - 10).toNat) = perN I (t - 10).toNat := rfl
        have hq : (t - 10).toNat < (I 17 1).toNat := by omega
        clear q
        have main : C2 n (d + 5) 6 [vr (some 80), vr (Rs c 18 u.toNat), vi (m : Int)] I L c (fun r I14 L15 c16 => rr r (fun o17 => chk (Nat.beq (TY (hH I)) 2) (C2 n (d + 5) 36 [vr (some (hH I)), vr o17, vi (I14 17 2)] I14 L15 c16 (fun r18 I19 L20 c21 => ri r18 (fun x22 => K (some (vi x22)) I19 L20 c21))))) := by
          rw [hu, Int.toNat_natCast, Rs18 (by omega)]
          refine x_older (d := d + 4) (pOk_now (by omega)) (by omega) (p3 _ hq).1 (by omega) ?_
          intro I2 x2 z2
          rw [rr_vr, x2 17 2 rfl, chkE ho.1]
          refine x_pays ho pOk_guess (oC_s x2 rfl hR oc) (by rw [z2]; exact okP_age (p3 _ hq).1 _) p2 ?_
          rw [ri_vi, z2, off_s x2 rfl hR]
          exact kk I2 x2
        repeat' (first | (refine x_hold hO' ?_; exact ⟨by omega, main⟩) | (exfalso; omega) | refine ite_i (fun _ => ?_) (fun _ => ?_))
      · simp only [if_neg t1] at kk
        have hv : v = (((t - 20).toNat : Nat) : Int) := by omega
        have hq : (t - 20).toNat < (I 17 1).toNat := by omega
        clear q
        have main : C2 n (d + 5) 6 [vr (some 80), vr (Rs c 18 v.toNat), vi (m : Int)] I L c (fun r I14 L15 c16 => rr r (fun o17 => chk (Nat.beq (TY (hH I)) 2) (C2 n (d + 5) 37 [vr (some (hH I)), vr o17, vi (I14 17 2)] I14 L15 c16 (fun r18 I19 L20 c21 => ri r18 (fun x22 => K (some (vi x22)) I19 L20 c21))))) := by
          rw [hv, Int.toNat_natCast, Rs18 (by omega)]
          refine x_older (d := d + 4) (pOk_now (by omega)) (by omega) (p3 _ hq).1 (by omega) ?_
          intro I2 x2 z2
          rw [rr_vr, x2 17 2 rfl, chkE ho.1]
          refine x_partsLetOff (d := d + 1) ho pOk_guess (oC_s x2 rfl hR oc) (by rw [z2]; exact okP_age (p3 _ hq).1 _) p2 ?_
          rw [ri_vi, z2, off_s x2 rfl hR]
          exact kk I2 x2
        repeat' (first | (refine x_hold hO' ?_; exact ⟨by omega, main⟩) | (exfalso; omega) | refine ite_i (fun _ => ?_) (fun _ => ?_))
    · have kk := k2 q r
      clear k1 k2 k3
      repeat' (first | exact kk | (exfalso; omega) | refine ite_i (fun _ => ?_) (fun _ => ?_))
  · have kk := k1 q
    clear k1 k2 k3
    repeat' (first | exact kk | (exfalso; omega) | refine ite_i (fun _ => ?_) (fun _ => ?_))
theorem x_seenAt' {n d : Nat} {p t : Int} {I : mI} {L : mL} {c : Nat} {K : mK2} (hO : cO I c) (hP : cP I)
    (k1 : ¬ isC I p → K (some (vi (-1))) I L c)
    (k2 : isC I p → ¬ (0 ≤ t ∧ t < 24) → K (some (vi (-2))) I L c)
    (k3 : isC I p → 0 ≤ t ∧ t < 24 → K (some (vi (paysS (offC I (hH I)) (perN I p.toNat) t))) I L c) : C2 n (d + 6) 78 [vr (some 16), vi p, vi t] I L c K := by
  have hO' := hO
  obtain ⟨p1, p2, p3, p4⟩ := hP
  obtain ⟨ho, oc⟩ := cO_h (n := n) hO
  unfold isC at k1 k2 k3
  refine x_seenAt ?_
  by_cases q : 0 ≤ p ∧ p < I 17 1
  · by_cases r : 0 ≤ t ∧ t < 24
    · obtain ⟨p, rfl⟩ : ∃ m : Nat, p = m := ⟨p.toNat, by omega⟩
      have kk := k3 q r
      rw [Int.toNat_natCast] at kk
      rw [if_neg (by omega), if_pos (by omega), if_pos (by omega), if_neg (by omega), if_pos (by omega), Int.toNat_natCast]
      refine x_hold hO' ?_
      rw [rr_vr, drf_s, Rs18 (by omega), chkE ho.1]
      exact ⟨by omega, x_pays ho (pOk_now (by omega)) oc (p3 p (by omega)).1 r kk⟩
    · have kk := k2 q r
      repeat' (first | exact kk | (exfalso; omega) | refine ite_i (fun _ => ?_) (fun _ => ?_))
  · have kk := k1 q
    repeat' (first | exact kk | (exfalso; omega) | refine ite_i (fun _ => ?_) (fun _ => ?_))
theorem x_when' {n d : Nat} {p t : Int} {I : mI} {L : mL} {c : Nat} {K : mK2} (hO : cO I c) (hP : cP I)
    (k1 : ¬ (isC I p ∧ 0 ≤ t ∧ t ≤ 1) → K (some (vi (-1))) I L c)
    (k2 : isC I p → t = 0 → K (some (vi ((bestS (fun h => paysS (offC I (hH I)) (perN I p.toNat) h) 23 : Nat) : Int))) I L c)
    (k3 : isC I p → t = 1 → ∀ I', eqx gI3 I I' → K (some (vi (risesS (offC I (hH I)) (perN I p.toNat) (I 17 2)))) I' L c) : C2 n (d + 7) 79 [vr (some 16), vi p, vi t] I L c K := by
  have hO' := hO
  obtain ⟨p1, p2, p3, p4⟩ := hP
  obtain ⟨ho, oc⟩ := cO_h (n := n) hO
  unfold isC at k1 k2 k3
  refine x_when ?_
  by_cases q : (0 ≤ p ∧ p < I 17 1) ∧ 0 ≤ t ∧ t ≤ 1
  · obtain ⟨p, rfl⟩ : ∃ m : Nat, p = m := ⟨p.toNat, by omega⟩
    rw [Int.toNat_natCast] at k2 k3
    rw [if_neg (by omega), if_pos (by omega), if_pos (by omega)]
    simp only [Int.toNat_natCast, Rs18 (show p < 6 by omega), drf_s]
    by_cases r : t = 0
    · rw [if_pos r, if_pos r]
      refine ⟨by omega, x_hold hO' ?_⟩
      rw [rr_vr]
      exact x_bestHour ho (pOk_now (by omega)) oc (p3 p (by omega)).1 (k2 q.1 r)
    · rw [if_neg r, if_pos (by omega), if_neg r]
      refine ⟨by omega, x_hold hO' ?_⟩
      rw [rr_vr]
      exact x_firstRise ho (hH_r I) (pOk_now (by omega)) (by omega) oc (p3 p (by omega)).1 p2 (k3 q.1 (by omega))
  · have kk := k1 q
    repeat' (first | exact kk | (exfalso; omega) | refine ite_i (fun _ => ?_) (fun _ => ?_))
theorem x_jointly' {n d : Nat} {p t : Int} {I : mI} {L : mL} {c : Nat} {K : mK2} (hO : cO I c) (hP : cP I)
    (k1 : ¬ (isC I p ∧ isC I t) → K (some (vi (-1))) I L c)
    (k2 : isC I p ∧ isC I t → p = t → K (some (vi (-2))) I L c)
    (k3 : isC I p ∧ isC I t → p ≠ t → ∀ I', eqx [87] I I' → K (some (vi (jointS (offC I (hH I)) (perN I p.toNat) (perN I t.toNat) (I 17 2)))) I' L c) : C2 n (d + 5) 81 [vr (some 16), vi p, vi t] I L c K := by
  have hO' := hO
  have hP' := hP
  obtain ⟨p1, p2, p3, p4⟩ := hP
  obtain ⟨ho, oc⟩ := cO_h (n := n) hO
  unfold isC at k1 k2 k3
  refine x_jointly ?_
  by_cases q : (0 ≤ p ∧ p < I 17 1) ∧ 0 ≤ t ∧ t < I 17 1
  · obtain ⟨p, rfl⟩ : ∃ m : Nat, p = m := ⟨p.toNat, by omega⟩
    obtain ⟨t, rfl⟩ : ∃ m : Nat, t = m := ⟨t.toNat, by omega⟩
    have kk := k3 q
    rw [Int.toNat_natCast, Int.toNat_natCast] at kk
    rw [if_neg (by omega), if_pos (by omega), if_pos (by omega), if_neg (by omega), if_pos (by omega), if_pos (by omega)]
    by_cases r : (p : Int) = t
    · rw [if_pos r]; exact k2 q r
    · rw [if_neg r]
      refine x_hold hO' ?_
      rw [rr_vr, drf_s]
      refine x_fillFines ho (hH_r I) oc hP' p2 ?_
      intro I1 x1 z1
      rw [rv_no]
      refine x_paidByTwo ho (oC_s x1 rfl (hH_r I) oc) (by omega) (by omega) (A := perN I p) (B := perN I t) (hour := I 17 2) ?_ ?_ ?_
      · intro i hi; rw [off_s x1 rfl (hH_r I)]; exact z1 p (by omega) i hi
      · intro i hi; rw [off_s x1 rfl (hH_r I)]; exact z1 t (by omega) i hi
      · rw [ri_vi, off_s x1 rfl (hH_r I)]; exact kk r I1 x1
  · have kk := k1 q
    repeat' (first | exact kk | (exfalso; omega) | refine ite_i (fun _ => ?_) (fun _ => ?_))
theorem x_raises' {n d : Nat} {q : Int} {I : mI} {L : mL} {c : Nat} {K : mK2} (hO : cO I c) (hP : cP I)
    (k1 : ¬ (0 ≤ q ∧ q ≤ 9999) → K (some (vi (-2))) I L c)
    (k3 : 0 ≤ q ∧ q ≤ 9999 → ∀ I', eqx [87] I I' → K (some (vi (raisesS (offC I (hH I)) (perN I) (I 17 2) (I 17 1).toNat q))) I' L c) : C2 n (d + 5) 83 [vr (some 16), vi q] I L c K := by
  have hO' := hO
  have hP' := hP
  obtain ⟨p1, p2, p3, p4⟩ := hP
  obtain ⟨ho, oc⟩ := cO_h (n := n) hO
  refine x_raises ?_
  by_cases r : 0 ≤ q ∧ q ≤ 9999
  · rw [if_neg (by omega), if_neg (by omega)]
    refine x_hold hO' ?_
    rw [rr_vr, drf_s]
    refine x_fillFines ho (hH_r I) oc hP' p2 ?_
    intro I1 x1 z1
    rw [rv_no]
    have kk := k3 r I1 x1
    have hP1 : cP I1 := by
      refine ⟨by rw [x1 17 1 rfl]; exact p1, by rw [x1 17 2 rfl]; exact p2, ?_, ?_⟩
      · intro p hp
        rw [x1 17 1 rfl] at hp
        have pe : perC I1 (25 + 3 * p) = perC I (25 + 3 * p) := perN_n x1 rfl (by omega)
        rw [pe, cell_n x1 (by omega) (by simp; omega)]
        exact p3 p hp
      · intro p hp
        rw [cell_n x1 (by omega) (by simp; omega)]
        exact p4 p hp
    have pN : ∀ p, p < (I 17 1).toNat → perN I1 p = perN I p := fun p hp => perN_n x1 rfl (by omega)
    have loop : ∀ m y, y + m = 61 → K (some (vi (fstS (fun m => decide (q ≤ allS (tasS (offC I (hH I)) m) (perN I) (I 17 2) (I 17 1).toNat)) y m))) I1 L c →
        W2 n (d + 5) 83 40 [some (vr (some 16)), some (vi q), some (vr (some (hH I))), some (vi (y : Int))] [] I1 L c K := by
      intro m
      induction m with
      | zero =>
        intro y hy kk
        refine x_raises_40 ?_
        rw [if_neg (by omega)]
        exact kk
      | succ m ih =>
        intro y hy kk
        refine x_raises_40 ?_
        rw [if_pos (by omega)]
        refine x_partsBelow (h := hH I) (hour := I 17 2) hP1 ?_ ?_
        · intro p hp t ht
          rw [x1 17 1 rfl] at hp
          rw [off_s x1 rfl (hH_r I), pN p hp]
          exact z1 p hp t ht
        · have e1 : sumS (fun p => belS (offC I1 (hH I)) (I 17 2) (y : Int) (perN I1 p)) (I1 17 1).toNat = sumS (fun p => belS (offC I (hH I)) (I 17 2) (y : Int) (perN I p)) (I 17 1).toNat := by
            rw [x1 17 1 rfl, off_s x1 rfl (hH_r I)]
            exact sum_cg (fun i hi => by rw [pN i hi])
          have e2 : I1 (hH I) 2 = (offC I (hH I)).2.2.1 := by
            rw [← off_s x1 rfl (hH_r I)]; rfl
          have ab := all_bel (offC I (hH I)) (perN I) (I 17 2) (y : Int) (I 17 1).toNat
          have sb := sum_bd (f := fun p => belS (offC I (hH I)) (I 17 2) (y : Int) (perN I p)) (B := 6) (I 17 1).toNat (fun i _ => bel_bd _ _ _ _)
          have hO3 := oc.1.2.2.1
          have mb : 0 ≤ (offC I (hH I)).2.2.1 * sumS (fun p => belS (offC I (hH I)) (I 17 2) (y : Int) (perN I p)) (I 17 1).toNat ∧ (offC I (hH I)).2.2.1 * sumS (fun p => belS (offC I (hH I)) (I 17 2) (y : Int) (perN I p)) (I 17 1).toNat ≤ 99 * 36 := by
            generalize sumS (fun p => belS (offC I (hH I)) (I 17 2) (y : Int) (perN I p)) (I 17 1).toNat = S at *
            exact ⟨Int.mul_nonneg hO3.1 sb.1, Int.mul_le_mul hO3.2 (by omega) sb.1 (by omega)⟩
          rw [ri_vi, chkE ho.1, e1, e2, Int.mul_comm, wri (by omega), ← ab, wr_nat (by omega)]
          clear ab mb sb e1
          unfold fstS at kk
          by_cases s : q ≤ allS (tasS (offC I (hH I)) (y : Int)) (perN I) (I 17 2) (I 17 1).toNat
          · rw [if_neg (by omega)]
            rw [if_pos (decide_eq_true s)] at kk
            exact kk
          · rw [if_pos (by omega)]
            rw [if_neg (by rw [decide_eq_false s]; decide)] at kk
            exact ih (y + 1) (by omega) kk
    exact loop 61 0 rfl kk
  · have kk := k1 r
    repeat' (first | exact kk | (exfalso; omega) | refine ite_i (fun _ => ?_) (fun _ => ?_))
