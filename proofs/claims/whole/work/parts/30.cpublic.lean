/-! ===== the class: tastes, graces, odds, means, ends, books, judging ===== -/
theorem x_tastes' {n d : Nat} {t : Int} {I : mI} {L : mL} {c : Nat} {K : mK2} (hO : cO I c) (hP : cP I) (hl : lCI I)
    (k1 : ¬ (0 ≤ t ∧ t ≤ 1) → K (some (vi (-1))) I L c)
    (k3 : 0 ≤ t ∧ t ≤ 1 → ∀ I', eqx lA I I' → K (some (vi (if t = 0 then (tastesS (offC I (hH I)) (perN I) (I 17 2) (lkC I) (I 19 2).toNat).1 else (tastesS (offC I (hH I)) (perN I) (I 17 2) (lkC I) (I 19 2).toNat).2))) I' L c) : C2 n (d + 5) 85 [vr (some 16), vi t] I L c K := by
  have hO' := hO
  have hP' := hP
  have hl' := hl
  obtain ⟨ho, oc⟩ := cO_h (n := n) hO
  refine x_tastes ?_
  by_cases r : 0 ≤ t ∧ t ≤ 1
  · have main : C2 n (d + 4) 112 [vr (some 16)] I L c (fun r1 I2 L3 c4 => rr r1 (fun o5 => C2 n (d + 4) 21 [vr (some 80), vr (some 17), vr o5] I2 L3 c4 (fun r6 I7 L8 c9 => rv r6 (W2 n (d + 5) 85 33 [some (vr (some 16)), some (vi t), some (vi 0), some (vi (-5)), some (vi 60)] [] I7 L8 c9 K)))) := by
      refine x_hold hO' ?_
      rw [rr_vr]
      refine x_fillLooks ho (hH_r I) oc hP' hl' ?_
      intro I1 x1 z1
      rw [rv_no]
      have kk := k3 r I1 x1
      have c0 : I1 20 = I 20 := cell_n x1 (by decide) (by decide)
      have c9 : I1 19 = I 19 := cell_n x1 (by decide) (by decide)
      have lk1 : lkC I1 = lkC I := by unfold lkC; rw [c0]
      have hl1 : lCI I1 := by
        unfold lCI
        rw [c9, lk1, x1 17 1 rfl]
        exact hl
      unfold tastesS at kk
      have gg : ∀ m : Nat, allB (loB (I1 88) (lkC I) (m : Int)) (I 19 2).toNat = looksS (tasS (offC I (hH I)) m) (perN I) (I 17 2) (lkC I) (I 19 2).toNat := fun m => looks_is z1
      generalize hg : (fun m : Nat => looksS (tasS (offC I (hH I)) m) (perN I) (I 17 2) (lkC I) (I 19 2).toNat) = g at *
      have gg2 : ∀ m : Nat, allB (loB (I1 88) (lkC I) (m : Int)) (I 19 2).toNat = g m := fun m => by rw [gg m, ← hg]
      have loop := loopN (N := 61) (P := fun j => W2 n (d + 5) 85 33 [some (vr (some 16)), some (vi t), some (vi (downS g 61 j).1), some (vi (downS g 61 j).2), some (vi (60 - (j : Int)))] [] I1 L c K) ?_ ?_ 0 (Nat.zero_le _)
      · exact loop
      · refine x_tastes_33 ?_
        rw [if_pos (by omega)]
        by_cases s : t = 0
        · rw [if_pos s] at kk ⊢; exact kk
        · rw [if_neg s] at kk ⊢; exact kk
      · intro j hj ih
        refine x_tastes_33 ?_
        rw [if_neg (by omega), show (60 - (j : Int)) = ((61 - 1 - j : Nat) : Int) by omega]
        refine x_areLooksSo hl1 ?_
        have b := down_bd g 61 j
        rw [ri_vi, lk1, c9, gg2, wri (by omega), show ((61 - 1 - j : Nat) : Int) + -1 = 60 - ((j + 1 : Nat) : Int) by omega]
        unfold downS at ih
        by_cases s : g (61 - 1 - j) = true
        · rw [if_pos s] at ih
          rw [s, if_neg (by decide), wri (by omega)]
          exact ih
        · rw [if_neg s] at ih
          rw [Bool.eq_false_iff.mpr s, if_pos (by decide)]
          exact ih
    repeat' (first | exact main | (exfalso; omega) | refine ite_i (fun _ => ?_) (fun _ => ?_))
  · have kk := k1 r
    repeat' (first | exact kk | (exfalso; omega) | refine ite_i (fun _ => ?_) (fun _ => ?_))
/-- one place of one person changed: the class's people stay people -/
theorem perN_up {I : mI} {p i : Nat} {x : Int} {a k : Nat} (hp : p < 6) (ha : a = 25 + 3 * p ∨ a = 25 + 3 * p + 1 ∨ a = 25 + 3 * p + 2) (h : perC (up2 I a k x) (25 + 3 * p) = setP (perC I (25 + 3 * p)) i x) : ∀ q, q < 6 → perN (up2 I a k x) q = updP (perN I) p (setP (perN I p) i x) q := by
  intro q hq
  unfold updP
  by_cases e : q = p
  · rw [if_pos e, e]; exact h
  · rw [if_neg e]
    exact perC_c (up2_ne (by omega)) (up2_ne (by omega)) (up2_ne (by omega))
theorem okP_g {Q : mP} {i : Nat} {x : Int} (h : okP Q) (hi : 5 ≤ i) (hx : 0 ≤ x ∧ x ≤ 9) : okP (setP Q i x) := by
  obtain ⟨h0, h1, h2, h3, h4, h5⟩ := h
  have ne : ∀ j, j < 5 → setP Q i x j = Q j := fun j hj => if_neg (by omega)
  refine ⟨by rw [ne 0 (by decide)]; exact h0, by rw [ne 1 (by decide)]; exact h1, by rw [ne 2 (by decide)]; exact h2, by rw [ne 3 (by decide)]; exact h3, by rw [ne 4 (by decide)]; exact h4, fun j hj => ?_⟩
  show 0 ≤ (if j = i then x else Q j) ∧ (if j = i then x else Q j) ≤ 9
  exact ite_bd (fun _ => hx) (fun _ => h5 j hj)
theorem okP_v {Q : mP} {x : Int} (h : okP Q) (hx : 0 ≤ x ∧ x ≤ 9) : okP (setP Q 2 x) := by
  obtain ⟨h0, h1, h2, h3, h4, h5⟩ := h
  refine ⟨h0, h1, hx, h3, h4, fun j hj => ?_⟩
  show 0 ≤ (if j = 2 then x else Q j) ∧ (if j = 2 then x else Q j) ≤ 9
  rw [if_neg (by omega)]
  exact h5 j hj
/-- one place is tried, the scratch may change, and it is put back: both of the same form -/
theorem cP_try {I I1 : mI} {a k p i : Nat} {x : Int} (hP : cP I) (hp : p < 6) (ha : a = 25 + 3 * p ∨ a = 25 + 3 * p + 1) (hk : a = 25 + 3 * p → k = 2) (e : eqp lA a k I I1) (hh : perC (up2 I a k x) (25 + 3 * p) = setP (perC I (25 + 3 * p)) i x) (hok : okP (perC I (25 + 3 * p)) → okP (setP (perC I (25 + 3 * p)) i x)) : cP (up2 I1 a k x) ∧ ∀ q, q < 6 → perN (up2 I1 a k x) q = updP (perN I) p (setP (perN I p) i x) q := by
  obtain ⟨p1, p2, p3, p4⟩ := hP
  have x2 := eqp_up (v := x) e
  have pN : ∀ q, q < 6 → perN (up2 I1 a k x) q = perN (up2 I a k x) q := fun q hq => perN_n x2 rfl hq
  have pU := perN_up (i := i) hp (by omega) hh
  refine ⟨⟨?_, ?_, ?_, ?_⟩, fun q hq => by rw [pN q hq, pU q hq]⟩
  · rw [x2 17 1 rfl, up2_ne (by omega)]; exact p1
  · rw [x2 17 2 rfl, up2_ne (by omega)]; exact p2
  · intro q hq
    rw [x2 17 1 rfl, up2_ne (by omega)] at hq
    have := pN q (by omega)
    refine ⟨?_, ?_⟩
    · show okP (perN (up2 I1 a k x) q)
      rw [this, pU q (by omega)]
      unfold updP
      split
      · rename_i e
        subst e
        exact hok (p3 q hq).1
      · exact (p3 q hq).1
    · rw [cell_n x2 (by omega) (by simp; omega)]
      by_cases e1 : 25 + 3 * q = a
      · have : k = 2 := hk (by omega)
        subst this
        subst e1
        rw [up2_at (by decide)]
        exact (p3 q hq).2
      · rw [up2_ne e1]; exact (p3 q hq).2
  · intro q hq
    rw [cell_n x2 (by omega) (by simp; omega)]
    by_cases e1 : 25 + 3 * q = a
    · have : k = 2 := hk (by omega)
      subst this
      subst e1
      rw [up2_at (by decide)]
      exact p4 q hq
    · rw [up2_ne e1]; exact p4 q hq
theorem looks_cg {O : mO} {Ps Qs : Nat → mP} {hour : Int} {lk : Nat → Int × Int × Int × Int} {m : Nat} (h : ∀ k, k < m → Ps (lk k).1.toNat = Qs (lk k).1.toNat) : looksS O Ps hour lk m = looksS O Qs hour lk m := by
  refine allB_cg (fun i hi => ?_)
  unfold seenS
  rw [h i hi]
theorem x_try {n d : Nat} {a k p i : Nat} {x : Int} {I I1 : mI} {L : mL} {c : Nat} {K : mK2} (hO : cO I c) (hP : cP I) (hl : lCI I) (hp : p < 6) (ha : a = 25 + 3 * p ∨ a = 25 + 3 * p + 1) (hk : a = 25 + 3 * p → k = 2) (e : eqp lA a k I I1) (hh : perC (up2 I a k x) (25 + 3 * p) = setP (perC I (25 + 3 * p)) i x) (hok : okP (perC I (25 + 3 * p)) → okP (setP (perC I (25 + 3 * p)) i x))
    (kk : ∀ I', eqp lA a k I I' → K (some (vi (b2i (looksS (offC I (hH I)) (updP (perN I) p (setP (perN I p) i x)) (I 17 2) (lkC I) (I 19 2).toNat)))) I' L c) : C2 n (d + 5) 112 [vr (some 16)] (up2 I1 a k x) L c (fun r3 I4 L5 c6 => rr r3 (fun o7 => C2 n (d + 5) 23 [vr (some 80), vr (some 17), vr o7] I4 L5 c6 K)) := by
  obtain ⟨ho, oc⟩ := cO_h (n := n) hO
  obtain ⟨cp, pn⟩ := cP_try hP hp ha hk e hh hok
  have x2 := eqp_up (v := x) e
  have s0 : eqx [a] I (up2 I a k x) := eqx_up (eqx_rf _ _) (jk_m (by omega) (by simp))
  have sa : scr [a] = true := by
    have : p = 0 ∨ p = 1 ∨ p = 2 ∨ p = 3 ∨ p = 4 ∨ p = 5 := by omega
    rcases ha with e | e <;> rcases this with f | f | f | f | f | f <;> (subst e; subst f; rfl)
  have h17 : up2 I1 a k x 17 = I 17 := by rw [cell_n x2 (by decide) (by simp), up2_ne (by omega)]
  have h16 : up2 I1 a k x 16 = I 16 := by rw [cell_n x2 (by decide) (by simp), up2_ne (by omega)]
  have h19 : up2 I1 a k x 19 = I 19 := by rw [cell_n x2 (by decide) (by simp), up2_ne (by omega)]
  have h20 : up2 I1 a k x 20 = I 20 := by rw [cell_n x2 (by decide) (by simp), up2_ne (by omega)]
  have hO2 : cO (up2 I1 a k x) c := cO_s x2 rfl (by rw [h16, up2_ne (by omega)]) (by rw [h17, up2_ne (by omega)]) (cO_s s0 sa (by rw [up2_ne (by omega)]) (by rw [up2_ne (by omega)]) hO)
  have hHe : hH (up2 I1 a k x) = hH I := hH_s (by rw [h17])
  have lke : lkC (up2 I1 a k x) = lkC I := by unfold lkC; rw [h20]
  have hl2 : lCI (up2 I1 a k x) := by
    unfold lCI
    rw [h19, lke, h17]
    exact hl
  have ofe : offC (up2 I1 a k x) (hH I) = offC I (hH I) := by rw [off_s x2 rfl (hH_r I), off_s s0 sa (hH_r I)]
  refine x_hold hO2 ?_
  rw [rr_vr, hHe]
  refine x_areLooksSoBy ho (hH_r I) (oC_s x2 rfl (hH_r I) (oC_s s0 sa (hH_r I) oc)) cp hl2 ?_
  intro I2 x3
  rw [ofe, h17, h19, lke]
  rw [looks_cg (Qs := updP (perN I) p (setP (perN I p) i x)) (fun k hk => pn _ (by have := (hl.2 k hk).1; have := hP.1; omega))]
  exact kk I2 (eqp_tr e x3)
theorem x_graces' {n d : Nat} {p t x : Int} {I : mI} {L : mL} {c : Nat} {K : mK2} (hO : cO I c) (hP : cP I) (hl : lCI I)
    (k1 : ¬ (isC I p ∧ (0 ≤ t ∧ t ≤ 5) ∧ 0 ≤ x ∧ x ≤ 1) → K (some (vi (-1))) I L c)
    (k3 : isC I p ∧ (0 ≤ t ∧ t ≤ 5) ∧ 0 ≤ x ∧ x ≤ 1 → ∀ I', eqx lA I I' → K (some (vi (if x = 0 then (gracesS (offC I (hH I)) (perN I) (I 17 2) (lkC I) (I 19 2).toNat p.toNat (5 + t.toNat)).1 else (gracesS (offC I (hH I)) (perN I) (I 17 2) (lkC I) (I 19 2).toNat p.toNat (5 + t.toNat)).2))) I' L c) : C2 n (d + 6) 86 [vr (some 16), vi p, vi t, vi x] I L c K := by
  have hP1 := hP.1
  unfold isC at k1 k3
  refine x_graces ?_
  by_cases r : (0 ≤ p ∧ p < I 17 1) ∧ (0 ≤ t ∧ t ≤ 5) ∧ 0 ≤ x ∧ x ≤ 1
  · have kk := k3 r
    obtain ⟨p, rfl⟩ : ∃ m : Nat, p = m := ⟨p.toNat, by omega⟩
    obtain ⟨t, rfl⟩ : ∃ m : Nat, t = m := ⟨t.toNat, by omega⟩
    rw [Int.toNat_natCast, Int.toNat_natCast] at kk
    clear k1 k3
    have hp : p < 6 := by omega
    have po := pOk_now (n := n) (c := c) hp
    unfold gracesS at kk
    have main : W2 n (d + 6) 86 55 [some (vr (some 16)), none, some (vi (t : Int)), some (vi x), some (vr (some (25 + 3 * p))), some (vi (I (25 + 3 * p + 1) t)), some (vi 0), some (vi (-5)), some (vi 9)] [] I L c K := by
      generalize hg : (fun m : Nat => looksS (offC I (hH I)) (updP (perN I) p (setP (perN I p) (5 + t) m)) (I 17 2) (lkC I) (I 19 2).toNat) = g at *
      have loop := loopN (N := 10) (P := fun j => ∀ I1, eqp lA (25 + 3 * p + 1) t I I1 → W2 n (d + 6) 86 55 [some (vr (some 16)), none, some (vi (t : Int)), some (vi x), some (vr (some (25 + 3 * p))), some (vi (I (25 + 3 * p + 1) t)), some (vi (downS g 10 j).1), some (vi (downS g 10 j).2), some (vi (9 - (j : Int)))] [] I1 L c K) ?_ ?_ 0 (Nat.zero_le _)
      · exact loop I (eqp_rf _ _ _ _)
      · intro I1 x1
        refine x_graces_55 ?_
        rw [if_pos (by omega), chkE po.1, po.2.1, drf_s, chkE po.2.2.2.1, po.2.2.2.2.2.1, Int.toNat_natCast]
        have k2 := kk _ (eqp_end x1 rfl)
        refine ⟨by omega, ?_⟩
        by_cases s : x = 0
        · rw [if_pos s] at k2 ⊢; exact k2
        · rw [if_neg s] at k2 ⊢; exact k2
      · intro j hj ih I1 x1
        refine x_graces_55 ?_
        rw [if_neg (by omega), show (9 - (j : Int)) = ((10 - 1 - j : Nat) : Int) by omega, chkE po.1, po.2.1, drf_s, chkE po.2.2.2.1, po.2.2.2.2.2.1, Int.toNat_natCast]
        refine ⟨by omega, ?_⟩
        refine x_try (i := 5 + t) hO hP hl hp (Or.inr rfl) (by omega) x1 (perC_g I _ t _ (by omega)) (fun o => okP_g o (by omega) (by omega)) ?_
        intro I2 x2
        have ih' := ih I2 x2
        unfold downS at ih'
        have hg1 : looksS (offC I (hH I)) (updP (perN I) p (setP (perN I p) (5 + t) ((10 - 1 - j : Nat) : Int))) (I 17 2) (lkC I) (I 19 2).toNat = g (10 - 1 - j) := congrFun hg _
        have b := down_bd g 10 j
        rw [ri_vi, hg1, wri (x := _ + -1) (by omega), show ((10 - 1 - j : Nat) : Int) + -1 = 9 - ((j + 1 : Nat) : Int) by omega]
        by_cases s : g (10 - 1 - j) = true
        · rw [if_pos s] at ih'
          rw [s, if_neg (by decide), wri (by omega)]
          exact ih'
        · rw [if_neg s] at ih'
          rw [Bool.eq_false_iff.mpr s, if_pos (by decide)]
          exact ih'
    rw [if_neg (by omega), if_pos (by omega), if_pos (by omega), if_neg (by omega), if_pos (by omega)]
    simp only [Int.toNat_natCast, Rs18 hp, drf_s, chkE po.1, po.2.1, chkE2 po.2.2.2.1, po.2.2.2.2.2.1]
    by_cases s : x = 0
    · rw [if_pos s]; exact ⟨by omega, by omega, main⟩
    · rw [if_neg s, if_pos (by omega)]; exact ⟨by omega, by omega, main⟩
  · have kk := k1 r
    repeat' (first | exact kk | (exfalso; omega) | refine ite_i (fun _ => ?_) (fun _ => ?_))
theorem x_can' {n d : Nat} {p x : Int} {I : mI} {L : mL} {c : Nat} {K : mK2} (hO : cO I c) (hP : cP I) (hl : lCI I)
    (k1 : ¬ (isC I p ∧ 0 ≤ x ∧ x ≤ 1) → K (some (vi (-1))) I L c)
    (k3 : isC I p ∧ 0 ≤ x ∧ x ≤ 1 → ∀ I', eqx lA I I' → K (some (vi (if x = 0 then (gracesS (offC I (hH I)) (perN I) (I 17 2) (lkC I) (I 19 2).toNat p.toNat 2).1 else (gracesS (offC I (hH I)) (perN I) (I 17 2) (lkC I) (I 19 2).toNat p.toNat 2).2))) I' L c) : C2 n (d + 6) 87 [vr (some 16), vi p, vi x] I L c K := by
  have hP1 := hP.1
  unfold isC at k1 k3
  refine x_can ?_
  by_cases r : (0 ≤ p ∧ p < I 17 1) ∧ 0 ≤ x ∧ x ≤ 1
  · have kk := k3 r
    obtain ⟨p, rfl⟩ : ∃ m : Nat, p = m := ⟨p.toNat, by omega⟩
    rw [Int.toNat_natCast] at kk
    clear k1 k3
    have hp : p < 6 := by omega
    have po := pOk_now (n := n) (c := c) hp
    unfold gracesS at kk
    have main : W2 n (d + 6) 87 44 [some (vr (some 16)), none, some (vi x), some (vr (some (25 + 3 * p))), some (vi (I (25 + 3 * p) 2)), some (vi 0), some (vi (-5)), some (vi 9)] [] I L c K := by
      generalize hg : (fun m : Nat => looksS (offC I (hH I)) (updP (perN I) p (setP (perN I p) 2 m)) (I 17 2) (lkC I) (I 19 2).toNat) = g at *
      have loop := loopN (N := 10) (P := fun j => ∀ I1, eqp lA (25 + 3 * p) 2 I I1 → W2 n (d + 6) 87 44 [some (vr (some 16)), none, some (vi x), some (vr (some (25 + 3 * p))), some (vi (I (25 + 3 * p) 2)), some (vi (downS g 10 j).1), some (vi (downS g 10 j).2), some (vi (9 - (j : Int)))] [] I1 L c K) ?_ ?_ 0 (Nat.zero_le _)
      · exact loop I (eqp_rf _ _ _ _)
      · intro I1 x1
        refine x_can_44 ?_
        rw [if_pos (by omega), chkE po.1]
        have k2 := kk _ (eqp_end x1 rfl)
        by_cases s : x = 0
        · rw [if_pos s] at k2 ⊢; exact k2
        · rw [if_neg s] at k2 ⊢; exact k2
      · intro j hj ih I1 x1
        refine x_can_44 ?_
        rw [if_neg (by omega), show (9 - (j : Int)) = ((10 - 1 - j : Nat) : Int) by omega, chkE po.1]
        refine x_try (i := 2) hO hP hl hp (Or.inl rfl) (fun _ => rfl) x1 (perC_f I _ 2 _ (by decide)) (fun o => okP_v o (by omega)) ?_
        intro I2 x2
        have ih' := ih I2 x2
        unfold downS at ih'
        have hg1 : looksS (offC I (hH I)) (updP (perN I) p (setP (perN I p) 2 ((10 - 1 - j : Nat) : Int))) (I 17 2) (lkC I) (I 19 2).toNat = g (10 - 1 - j) := congrFun hg _
        have b := down_bd g 10 j
        rw [ri_vi, hg1, wri (x := _ + -1) (by omega), show ((10 - 1 - j : Nat) : Int) + -1 = 9 - ((j + 1 : Nat) : Int) by omega]
        by_cases s : g (10 - 1 - j) = true
        · rw [if_pos s] at ih'
          rw [s, if_neg (by decide), wri (by omega)]
          exact ih'
        · rw [if_neg s] at ih'
          rw [Bool.eq_false_iff.mpr s, if_pos (by decide)]
          exact ih'
    rw [if_neg (by omega), if_pos (by omega), if_pos (by omega)]
    simp only [Int.toNat_natCast, Rs18 hp, drf_s, chkE po.1]
    by_cases s : x = 0
    · rw [if_pos s]; exact ⟨by omega, main⟩
    · rw [if_neg s, if_pos (by omega)]; exact ⟨by omega, main⟩
  · have kk := k1 r
    repeat' (first | exact kk | (exfalso; omega) | refine ite_i (fun _ => ?_) (fun _ => ?_))
theorem x_odds' {n d : Nat} {p t x : Int} {I : mI} {L : mL} {c : Nat} {K : mK2} (hO : cO I c) (hP : cP I)
    (k1 : ¬ (isC I p ∧ (0 ≤ t ∧ t ≤ 5) ∧ 0 ≤ x ∧ x ≤ 1) → K (some (vl noL)) I L c)
    (k3 : isC I p ∧ (0 ≤ t ∧ t ≤ 5) ∧ 0 ≤ x ∧ x ≤ 1 → K (some (vl (Int64.ofInt (oddS (offC I (hH I)) (perN I p.toNat) t.toNat x)))) I L c) : C2 n (d + 4) 88 [vr (some 16), vi p, vi t, vi x] I L c K := by
  have hO' := hO
  obtain ⟨p1, p2, p3, p4⟩ := hP
  obtain ⟨ho, oc⟩ := cO_h (n := n) hO
  unfold isC at k1 k3
  refine x_odds ?_
  by_cases r : (0 ≤ p ∧ p < I 17 1) ∧ (0 ≤ t ∧ t ≤ 5) ∧ 0 ≤ x ∧ x ≤ 1
  · have kk := k3 r
    obtain ⟨p, rfl⟩ : ∃ m : Nat, p = m := ⟨p.toNat, by omega⟩
    obtain ⟨t, rfl⟩ : ∃ m : Nat, t = m := ⟨t.toNat, by omega⟩
    rw [Int.toNat_natCast, Int.toNat_natCast] at kk
    clear k1 k3
    unfold oddS at kk
    have main : W2 n (d + 4) 88 38 [some (vr (some 16)), some (vi (p : Int)), some (vi (t : Int)), some (vi x), some (vr (some (hH I))), some (vi 0), some (vi 0)] [] I L c K := by
      have loop := loopN (N := 24) (P := fun j => W2 n (d + 4) 88 38 [some (vr (some 16)), some (vi (p : Int)), some (vi (t : Int)), some (vi x), some (vr (some (hH I))), some (vi ((manyS (fun h => offS (offC I (hH I)) (perN I p) (h : Int) t) j : Nat) : Int)), some (vi (j : Int))] [] I L c K) ?_ ?_ 0 (Nat.zero_le _)
      · exact loop
      · refine x_odds_38 ?_
        rw [if_neg (by omega)]
        have ml := many_le (fun h => offS (offC I (hH I)) (perN I p) (h : Int) t) 24
        refine x_sideOf (b := 24) (by omega) (by omega) (by omega) ?_
        exact kk
      · intro j hj ih
        have ml := many_le (fun h => offS (offC I (hH I)) (perN I p) (h : Int) t) j
        refine x_odds_38 ?_
        rw [if_pos (by omega), chkE ho.1, Int.toNat_natCast, Rs18 (by omega)]
        refine ⟨by omega, ?_⟩
        refine x_fine ho (pOk_now (by omega)) oc (p3 p (by omega)).1 (by omega) (by omega) ?_
        rw [ri_vi, chkE ho.1, wr_nat (show j < 1000000 by omega), show I (hH I) 0 = (offC I (hH I)).1 from rfl]
        by_cases q : fineS (offC I (hH I)) (perC I (25 + 3 * p)) (j : Int) t < (offC I (hH I)).1
        · rw [if_pos q]
          rw [many_f (f := fun h : Nat => offS (offC I (hH I)) (perN I p) (h : Int) t) (off_lt.mp q)] at ih
          exact ih
        · rw [if_neg q]
          rw [many_t (f := fun h : Nat => offS (offC I (hH I)) (perN I p) (h : Int) t) (by
            cases z : offS (offC I (hH I)) (perN I p) (j : Int) t with
            | true => rfl
            | false => exact absurd (off_lt.mpr z) q)] at ih
          rw [wr_nat (by omega)]
          exact ih
    have m2 : C2 n (d + 3) 112 [vr (some 16)] I L c (fun r1 I2 L3 c4 => rr r1 (fun o5 => drf o5 (fun a6 => W2 n (d + 4) 88 38 [some (vr (some 16)), some (vi (p : Int)), some (vi (t : Int)), some (vi x), some (vr (some a6)), some (vi 0), some (vi 0)] [] I2 L3 c4 K))) := x_hold hO' main
    repeat' (first | exact m2 | (exfalso; omega) | refine ite_i (fun _ => ?_) (fun _ => ?_))
  · have kk := k1 r
    repeat' (first | exact kk | (exfalso; omega) | refine ite_i (fun _ => ?_) (fun _ => ?_))
theorem x_mean' {n d : Nat} {p t : Int} {I : mI} {L : mL} {c : Nat} {K : mK2} (hO : cO I c) (hP : cP I)
    (k1 : ¬ ((0 ≤ p ∧ p < 24) ∧ (0 ≤ t ∧ t ≤ 1) ∧ 0 < I 17 1) → K (some (vl noL)) I L c)
    (k3 : (0 ≤ p ∧ p < 24) ∧ (0 ≤ t ∧ t ≤ 1) ∧ 0 < I 17 1 → K (some (vl (Int64.ofInt (meanS (offC I (hH I)) (perN I) (I 17 1).toNat p t)))) I L c) : C2 n (d + 7) 89 [vr (some 16), vi p, vi t] I L c K := by
  have hP1 := hP.1
  obtain ⟨ho, oc⟩ := cO_h (n := n) hO
  refine x_mean ?_
  by_cases r : (0 ≤ p ∧ p < 24) ∧ (0 ≤ t ∧ t ≤ 1) ∧ 0 < I 17 1
  · have kk := k3 r
    clear k1 k3
    unfold meanS at kk
    have main : C2 n (d + 6) 113 [vr (some 16), vi p] I L c (fun r1 I2 L3 c4 => ri r1 (fun x5 => C2 n (d + 6) 114 [vi x5, vi (I2 17 1), vi t] I2 L3 c4 (fun r6 I7 L8 c9 => rl r6 (fun x10 => K (some (vl x10)) I7 L8 c9)))) := by
      refine x_paidByAll' hO hP r.1 ?_
      have b := all_bd (P := perN I) (hour := p) oc.1 (n := (I 17 1).toNat) (by omega)
      have hN : I 17 1 = (((I 17 1).toNat : Nat) : Int) := by omega
      have r3 := r.2.2
      generalize (I 17 1).toNat = N at *
      rw [ri_vi, hN, show allS (offC I (hH I)) (perN I) p N = (((allS (offC I (hH I)) (perN I) p N).toNat : Nat) : Int) by omega]
      exact x_sideOf (by omega) (by omega) (by omega) kk
    repeat' (first | exact main | (exfalso; omega) | refine ite_i (fun _ => ?_) (fun _ => ?_))
  · have kk := k1 r
    repeat' (first | exact kk | (exfalso; omega) | refine ite_i (fun _ => ?_) (fun _ => ?_))
def pCI (I : mI) : Prop := (0 ≤ I 21 2 ∧ I 21 2 ≤ 10) ∧ ∀ k, k < (I 21 2).toNat → (0 ≤ (plC I k).1 ∧ (plC I k).1 ≤ 3) ∧ ((plC I k).1 = 1 → 0 ≤ (plC I k).2 ∧ (plC I k).2 < 24)
theorem x_ends' {n d : Nat} {t : Int} {I : mI} {L : mL} {c : Nat} {K : mK2} (hO : cO I c) (hP : cP I) (hl : pCI I)
    (k1 : ¬ (0 ≤ t ∧ t ≤ 1) → K (some (vi (-1))) I L c)
    (k3 : 0 ≤ t ∧ t ≤ 1 → ∀ I', eqx gI3 I I' → K (some (vi (endsS (offC I (hH I)) (perN I) (I 17 2) (plC I) (I 21 2).toNat (I 17 1).toNat t))) I' L c) : C2 n (d + 6) 91 [vr (some 16), vi t] I L c K := by
  have hO' := hO
  obtain ⟨p1, p2, p3, p4⟩ := hP
  obtain ⟨ho, oc⟩ := cO_h (n := n) hO
  obtain ⟨l1, l2⟩ := hl
  refine x_ends ?_
  by_cases r : 0 ≤ t ∧ t ≤ 1
  · have kk := k3 r
    clear k1 k3
    unfold endsS at kk
    generalize hR : (fun p => planS (plC I) (perN I p) (I 17 2) (I 21 2).toNat) = R at *
    have hR' : ∀ p, planS (plC I) (perN I p) (I 17 2) (I 21 2).toNat = R p := fun p => congrFun hR p
    simp only [hR'] at kk
    have okR : ∀ p, p < (I 17 1).toNat → okP (R p).1 := fun p hp => by rw [← hR']; exact okP_plan (p3 p hp).1 _
    have hrR : ∀ p, 0 ≤ (R p).2 ∧ (R p).2 < 24 := fun p => by rw [← hR']; exact plan_hour p2 _ (fun k hk => (l2 k hk).2)
    clear hR
    have main : W2 n (d + 6) 91 19 [some (vr (some 16)), some (vi t), some (vr (some (hH I))), some (vi 0), some (vi 0), none] [] I L c K := by
      have loop := loopN (N := (I 17 1).toNat) (P := fun j => ∀ I1, eqx gI3 I I1 → W2 n (d + 6) 91 19 [some (vr (some 16)), some (vi t), some (vr (some (hH I))), some (vi (if t = 0 then sumS (fun p => paysS (offC I (hH I)) (R p).1 (R p).2) j else sumS (fun p => if (R p).1 4 = 1 then 0 else ((manyS (offS (offC I (hH I)) (R p).1 (R p).2) 6 : Nat) : Int)) j)), some (vi (j : Int)), none] [] I1 L c K) ?_ ?_ 0 (Nat.zero_le _)
      · have := loop I (eqx_rf _ _)
        rw [show (if t = 0 then sumS (fun p => paysS (offC I (hH I)) (R p).1 (R p).2) 0 else sumS (fun p => if (R p).1 4 = 1 then 0 else ((manyS (offS (offC I (hH I)) (R p).1 (R p).2) 6 : Nat) : Int)) 0) = 0 by split <;> rfl] at this
        exact this
      · intro I1 x1
        refine x_ends_19 ?_
        rw [x1 17 1 rfl, if_neg (by omega)]
        exact kk I1 x1
      · intro j hj ih I1 x1
        have pe : perC I1 (25 + 3 * j) = perN I j := perN_n x1 rfl (by omega)
        have e22 : plC I1 = plC I := by unfold plC; rw [cell_n x1 (by decide) (by decide)]
        have e21 : I1 21 = I 21 := cell_n x1 (by decide) (by decide)
        refine x_ends_19 ?_
        rw [x1 17 1 rfl, if_pos (by omega), Int.toNat_natCast, Rs18 (by omega), wr_nat (by omega)]
        refine ⟨by omega, ?_⟩
        refine x_goByPlan (d := d + 4) (pOk_now (by omega)) (by omega) (by rw [pe]; exact (p3 j hj).1) (by rw [x1 17 2 rfl]; exact p2) (by rw [e21]; exact l1) (by rw [e21, e22]; exact l2) ?_
        intro I2 x2 z2
        have x12 := eqx_tr x1 x2
        rw [e22, e21, pe, x1 17 2 rfl, hR'] at z2
        rw [ri_vi, e22, e21, pe, x1 17 2 rfl, hR']
        have sb := sum_bd (f := fun p => paysS (offC I (hH I)) (R p).1 (R p).2) (B := 594) j (fun i _ => pays_bd oc.1)
        have pb := pays_bd (P := (R j).1) (hour := (R j).2) oc.1
        have sb2 := sum_bd (f := fun p => if (R p).1 4 = 1 then 0 else ((manyS (offS (offC I (hH I)) (R p).1 (R p).2) 6 : Nat) : Int)) (B := 6) j (fun i _ => by
          have := many_le (offS (offC I (hH I)) (R i).1 (R i).2) 6
          exact ite_bd (fun _ => by omega) (fun _ => by omega))
        have ml := many_le (offS (offC I (hH I)) (R j).1 (R j).2) 6
        have hb := bits_lt (offS (offC I (hH I)) (R j).1 (R j).2) 6
        by_cases t0 : t = 0
        · simp only [if_pos t0] at ih ⊢
          rw [chkE ho.1]
          refine x_pays ho pOk_guess (oC_s x12 rfl (hH_r I) oc) (by rw [z2]; exact okR j hj) (hrR j) ?_
          rw [ri_vi, z2, off_s x12 rfl (hH_r I), wri (by omega)]
          exact ih I2 x12
        · simp only [if_neg t0] at ih ⊢
          have g4 := (okR j hj).2.2.2.2.1
          have e4 : I2 81 4 = (R j).1 4 := by rw [← z2]; rfl
          unfold sumS at ih
          by_cases g : I2 81 4 = 0
          · simp only [if_neg (show ¬ ((R j).1 4 = 1) by omega)] at ih
            rw [if_pos g, chkE ho.1]
            refine x_partsLetOff (d := d + 1) ho pOk_guess (oC_s x12 rfl (hH_r I) oc) (by rw [z2]; exact okR j hj) (hrR j) ?_
            rw [ri_vi, z2, off_s x12 rfl (hH_r I)]
            refine x_bitCount hb ?_
            rw [ri_vi, bits_many, wri (by omega)]
            exact ih I2 x12
          · simp only [if_pos (show ((R j).1 4 = 1) by omega), Int.add_zero] at ih
            rw [if_neg g]
            exact ih I2 x12
    have m2 : C2 n (d + 5) 112 [vr (some 16)] I L c (fun r1 I2 L3 c4 => rr r1 (fun o5 => drf o5 (fun a6 => W2 n (d + 6) 91 19 [some (vr (some 16)), some (vi t), some (vr (some a6)), some (vi 0), some (vi 0), none] [] I2 L3 c4 K))) := x_hold hO' main
    repeat' (first | exact m2 | (exfalso; omega) | refine ite_i (fun _ => ?_) (fun _ => ?_))
  · have kk := k1 r
    repeat' (first | exact kk | (exfalso; omega) | refine ite_i (fun _ => ?_) (fun _ => ?_))
def bkC (I : mI) (k : Nat) : Int × Int := (I 24 (4 * k), I 24 (4 * k + 1))
def bCI (I : mI) : Prop := (0 ≤ I 23 2 ∧ I 23 2 ≤ 8) ∧ ∀ k, k < (I 23 2).toNat → 0 ≤ (bkC I k).1 ∧ (bkC I k).1 < I 17 1
theorem x_looked' {n d : Nat} {I : mI} {L : mL} {c : Nat} {K : mK2} (hO : cO I c) (hP : cP I) (hl : bCI I) (k : K (some (vi (lookedS (offC I (hH I)) (perN I) (I 17 2) (bkC I) (I 23 2).toNat))) I L c) : C2 n (d + 6) 93 [vr (some 16)] I L c K := by
  have hO' := hO
  obtain ⟨p1, p2, p3, p4⟩ := hP
  obtain ⟨ho, oc⟩ := cO_h (n := n) hO
  obtain ⟨l1, l2⟩ := hl
  refine x_looked ?_
  unfold lookedS at k
  have loop : ∀ m y, y + m = (I 23 2).toNat → K (some (vi (fstS (fun k => !decide (paysS (offC I (hH I)) (perN I (bkC I k).1.toNat) (I 17 2) = (bkC I k).2)) y m))) I L c →
      W2 n (d + 6) 93 2 [some (vr (some 16)), some (vi (y : Int)), none] [] I L c K := by
    intro m
    induction m with
    | zero =>
      intro y hy kk
      refine x_looked_2 ?_
      rw [if_neg (by omega)]
      exact kk
    | succ m ih =>
      intro y hy kk
      have hb := l2 y (by omega)
      refine x_looked_2 ?_
      rw [if_pos (by omega), wr_nat (by omega)]
      refine x_cell0 rOk_b (by decide) (by omega) ?_
      rw [ri_vi, show I 24 (4 * y) = (bkC I y).1 from rfl, if_neg (by omega), if_pos (by omega), if_pos (by omega)]
      refine x_hold hO' ?_
      rw [rr_vr, drf_s, chkE ho.1, Rs18 (by omega)]
      refine ⟨by omega, ?_⟩
      refine x_pays ho (pOk_now (by omega)) oc (p3 _ (by omega)).1 p2 ?_
      rw [ri_vi]
      refine x_cell (j := 1) rOk_b (by decide) (by omega) (by decide) ?_
      rw [ri_vi, show I 24 (4 * y + 1) = (bkC I y).2 from rfl]
      unfold fstS at kk
      have e0 : perC I (25 + 3 * (bkC I y).1.toNat) = perN I (bkC I y).1.toNat := rfl
      rw [e0]
      by_cases s : paysS (offC I (hH I)) (perN I (bkC I y).1.toNat) (I 17 2) = (bkC I y).2
      · rw [if_pos s]
        rw [if_neg (by rw [decide_eq_true s]; decide)] at kk
        exact ih (y + 1) (by omega) kk
      · rw [if_neg s]
        rw [if_pos (by rw [decide_eq_false s]; rfl)] at kk
        exact kk
  exact loop _ 0 (by omega) k
theorem Rs91 {c t : Nat} (ht : t < 6) : Rs c 91 t = some (92 + 2 * t) ∧ Rs c (92 + 2 * t) 2 = some (93 + 2 * t) ∧ TY (92 + 2 * t) = 6 ∧ TY (93 + 2 * t) = 101 := by
  rcases t with _ | _ | _ | _ | _ | _ | t
  all_goals first | exact ⟨rfl, rfl, rfl, rfl⟩ | omega
theorem LN93 {n t : Nat} (ht : t < 6) : LN n (93 + 2 * t) = 60 := by
  rcases t with _ | _ | _ | _ | _ | _ | t
  all_goals first | rfl | omega
def tC (I : mI) : Prop := ∀ t, t < 6 → (-1 ≤ I (92 + 2 * t) 0 ∧ I (92 + 2 * t) 0 ≤ 4) ∧ (0 ≤ I (92 + 2 * t) 1 ∧ I (92 + 2 * t) 1 ≤ 60) ∧ (I (92 + 2 * t) 0 = -1 → I (92 + 2 * t) 1 = 0)
theorem judge_cg {O : mO} {Ps Qs : Nat → mP} {hour len i : Int} {it it' : Nat → Int64} (hi : 0 ≤ len ∧ len ≤ 60) : ∀ m p, (∀ q, q < p + m → Ps q = Qs q) → (∀ k : Nat, (k : Int) < len → it k = it' k) → judgeS O Ps hour len i it p m = judgeS O Qs hour len i it' p m
  | 0, _, _, _ => rfl
  | m + 1, p, hP, hT => by
    unfold judgeS
    rw [judge_cg hi m (p + 1) (fun q hq => hP q (by omega)) hT, hP p (by omega)]
    by_cases q : i < 0 ∨ len - i ≤ p
    · rw [if_pos q, if_pos q]
    · rw [if_neg q, if_neg q, hT (i.toNat + p) (by omega)]
theorem x_judge' {n d : Nat} {t i : Int} {I : mI} {L : mL} {c : Nat} {K : mK2} (hO : cO I c) (hP : cP I) (hT : tC I) (hi : rg i)
    (k1 : ¬ (0 ≤ t ∧ t < 6) → K (some (vi (-1))) I L c)
    (k2 : 0 ≤ t ∧ t < 6 → ¬ (I (92 + 2 * t.toNat) 0 = -1 ∨ I (92 + 2 * t.toNat) 0 = 2) → K (some (vi (-12))) I L c)
    (k3 : 0 ≤ t ∧ t < 6 → I (92 + 2 * t.toNat) 0 = -1 ∨ I (92 + 2 * t.toNat) 0 = 2 → K (some (vi (judgeS (offC I (hH I)) (perN I) (I 17 2) (I (92 + 2 * t.toNat) 1) i (fun k => L (93 + 2 * t.toNat) k) 0 (I 17 1).toNat))) I L c) : C2 n (d + 6) 94 [vr (some 16), vi t, vi i] I L c K := by
  have hO' := hO
  obtain ⟨p1, p2, p3, p4⟩ := hP
  obtain ⟨ho, oc⟩ := cO_h (n := n) hO
  unfold rg at hi
  refine x_judge ?_
  by_cases q : 0 ≤ t ∧ t < 6
  · obtain ⟨t, rfl⟩ : ∃ m : Nat, t = m := ⟨t.toNat, by omega⟩
    rw [Int.toNat_natCast] at k2 k3
    have k2 := k2 q
    have k3 := k3 q
    have ht : t < 6 := by omega
    obtain ⟨b1, b2, b3⟩ := hT t ht
    obtain ⟨r1, r2, r3, r4⟩ := Rs91 (c := c) ht
    rw [if_neg (by omega), if_pos (by omega), Int.toNat_natCast, r1, drf_s, chkE r3, chkE r3]
    have main : I (92 + 2 * t) 0 = -1 ∨ I (92 + 2 * t) 0 = 2 → W2 n (d + 6) 94 38 [some (vr (some 16)), none, some (vi i), some (vr (some (92 + 2 * t))), some (vi 0)] [] I L c K := by
      intro s
      have loop : ∀ m y, y + m = (I 17 1).toNat → K (some (vi (judgeS (offC I (hH I)) (perN I) (I 17 2) (I (92 + 2 * t) 1) i (fun k => L (93 + 2 * t) k) y m))) I L c →
          W2 n (d + 6) 94 38 [some (vr (some 16)), none, some (vi i), some (vr (some (92 + 2 * t))), some (vi (y : Int))] [] I L c K := by
        intro m
        induction m with
        | zero =>
          intro y hy kk
          refine x_judge_38 ?_
          rw [if_neg (by omega)]
          exact kk
        | succ m ih =>
          intro y hy kk
          unfold judgeS at kk
          refine x_judge_38 ?_
          rw [if_pos (by omega), wri (x := 100 + (y : Int)) (by omega)]
          by_cases a2 : i < 0
          · rw [if_pos a2]
            rw [if_pos (by omega)] at kk
            exact kk
          rw [if_neg a2, chkE r3, wri (x := _ - i) (by omega)]
          by_cases a3 : (y : Int) < I (92 + 2 * t) 1 - i
          · rw [if_pos a3]
            rw [if_neg (by omega)] at kk
            rw [chkE r3, r2, drf_s, chkE r4, LN93 ht, wri (x := i + (y : Int)) (by omega)]
            refine ⟨by omega, ?_⟩
            refine x_hold hO' ?_
            rw [rr_vr, drf_s, chkE ho.1, Int.toNat_natCast, Rs18 (by omega)]
            refine ⟨by omega, ?_⟩
            refine x_pays ho (pOk_now (by omega)) oc (p3 _ (by omega)).1 p2 ?_
            rw [ri_vi, wr_nat (by omega), show (i + (y : Int)).toNat = i.toNat + y by omega]
            have e0 : perC I (25 + 3 * y) = perN I y := rfl
            rw [e0]
            by_cases a4 : lcm3 (L (93 + 2 * t) (i.toNat + y)) (Int64.ofInt (paysS (offC I (hH I)) (perN I y) (I 17 2))) = 0
            · rw [if_pos a4]
              rw [if_pos a4] at kk
              exact ih (y + 1) (by omega) kk
            · rw [if_neg a4]
              rw [if_neg a4] at kk
              exact kk
          · rw [if_neg a3]
            rw [if_pos (by omega)] at kk
            exact kk
      exact loop _ 0 (by omega) (k3 s)
    refine ⟨by omega, ?_⟩
    by_cases s1 : I (92 + 2 * t) 0 = -1
    · rw [if_pos s1]
      exact main (Or.inl s1)
    · rw [if_neg s1]
      by_cases s2 : I (92 + 2 * t) 0 = 2
      · rw [if_pos s2]
        exact main (Or.inr s2)
      · rw [if_neg s2]
        exact k2 (by omega)
  · have kk := k1 q
    repeat' (first | exact kk | (exfalso; omega) | refine ite_i (fun _ => ?_) (fun _ => ?_))
