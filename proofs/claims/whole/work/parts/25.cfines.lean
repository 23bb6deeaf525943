/-! ===== the class: fines of all, two of them, parts below ===== -/
theorem perN_n {l : List Nat} {I I' : mI} (e : eqx l I I') (h : l.all (fun a => Nat.blt 42 a) = true) {p : Nat} (hp : p < 6) : perN I' p = perN I p := by
  have nn : ∀ a, a ≤ 42 → a ∉ l := fun a ha hm => by
    have := List.all_eq_true.mp h a hm
    rw [Nat.blt_eq] at this
    omega
  exact perC_n e (by omega) (nn _ (by omega)) (nn _ (by omega)) (nn _ (by omega))
theorem x_fillFines {n d h : Nat} {hour : Int} {I : mI} {L : mL} {c : Nat} {K : mK2} (ho : oOk n c h) (hr : h = 69 ∨ h = 76 ∨ 155 ≤ h) (oc : oC I h) (hP : cP I) (hh : 0 ≤ hour ∧ hour < 24) (k : ∀ I', eqx [87] I I' → (∀ p, p < (I 17 1).toNat → ∀ t, t < 6 → I' 87 (6 * p + t) = fineS (offC I h) (perN I p) hour t) → K none I' L c) : C2 n (d + 4) 13 [vr (some 80), vr (some 17), vr (some h), vi hour] I L c K := by
  obtain ⟨p1, p2, p3, p4⟩ := hP
  refine As_fillFines ?_
  have loop := loopN (N := (I 17 1).toNat) (P := fun j => ∀ I1, eqx [87] I I1 → (∀ p, p < j → ∀ t, t < 6 → I1 87 (6 * p + t) = fineS (offC I h) (perN I p) hour t) → W2 n (d + 4) 13 3 [some (vr (some 80)), some (vr (some 17)), some (vr (some h)), some (vi hour), some (vi (j : Int)), none] [] I1 L c K) ?_ ?_ 0 (Nat.zero_le _)
  · exact loop I (eqx_rf _ _) (fun p hp => absurd hp (Nat.not_lt_zero _))
  · intro I1 x1 z1
    refine As_fillFines_3 ?_
    rw [chkE (show TY 17 = 7 from rfl), x1 17 1 rfl, if_neg (by omega)]
    exact k I1 x1 z1
  · intro j hj ih I1 x1 z1
    refine As_fillFines_3 ?_
    rw [chkE (show TY 17 = 7 from rfl), x1 17 1 rfl, if_pos (by omega), if_pos (by omega)]
    have loop2 := loopN (N := 6) (P := fun i => ∀ I2, eqx [87] I I2 → (∀ p, p < j → ∀ t, t < 6 → I2 87 (6 * p + t) = fineS (offC I h) (perN I p) hour t) → (∀ t, t < i → I2 87 (6 * j + t) = fineS (offC I h) (perN I j) hour t) → W2 n (d + 4) 13 22 [some (vr (some 80)), some (vr (some 17)), some (vr (some h)), some (vi hour), some (vi (j : Int)), some (vi (i : Int))] [] I2 L c K) ?_ ?_ 0 (Nat.zero_le _)
    · exact loop2 I1 x1 z1 (fun t ht => absurd ht (Nat.not_lt_zero _))
    · intro I2 x2 z2 w2
      refine As_fillFines_22 ?_
      rw [if_neg (by omega), wr_nat (by omega)]
      refine ih I2 x2 (fun p hp t ht => ?_)
      by_cases r : p = j
      · rw [r]; exact w2 t ht
      · exact z2 p (by omega) t ht
    · intro i hi ih2 I2 x2 z2 w2
      refine As_fillFines_22 ?_
      rw [if_pos (by omega), chkE (show TY 17 = 7 from rfl), show Rs c 17 0 = some 18 from rfl, drf_s]
      refine chk_i rfl ⟨by rw [show LN n 18 = 6 from rfl]; omega, ?_⟩
      rw [chkE ho.1, Int.toNat_natCast, Rs18 (by omega)]
      have pe : perC I2 (25 + 3 * j) = perN I j := perN_n x2 rfl (by omega)
      refine x_fine ho (pOk_now (by omega)) (oC_s x2 rfl hr oc) (by rw [pe]; exact (p3 j hj).1) hh hi ?_
      have e1 : wr (wr ((j : Int) * 6) + (i : Int)) = ((6 * j + i : Nat) : Int) := by rw [wri (x := (j : Int) * 6) (by omega), wri (by omega)]; omega
      rw [ri_vi, pe, off_s x2 rfl hr, e1, Int.toNat_natCast, wr_nat (by omega)]
      refine ⟨by omega, ih2 _ (eqx_up x2 rfl) ?_ ?_⟩
      · intro p hp t ht
        rw [up2_at (by omega)]
        exact z2 p hp t ht
      · intro t ht
        by_cases r : t = i
        · rw [r, up2_same]
        · rw [up2_at (by omega)]
          exact w2 t (by omega)
theorem off_lt {O : mO} {P : mP} {hour : Int} {t : Nat} : (fineS O P hour t < O.1) ↔ offS O P hour t = false := by
  unfold offS
  rw [decide_eq_false_iff_not]
  omega
theorem x_paidByTwo {n d h a b : Nat} {hour : Int} {A B : mP} {I : mI} {L : mL} {c : Nat} {K : mK2} (ho : oOk n c h) (oc : oC I h) (ha : a < 6) (hb : b < 6) (fa : ∀ t, t < 6 → I 87 (6 * a + t) = fineS (offC I h) A hour t) (fb : ∀ t, t < 6 → I 87 (6 * b + t) = fineS (offC I h) B hour t) (k : K (some (vi (jointS (offC I h) A B hour))) I L c) : C2 n d 14 [vr (some 80), vr (some h), vi (a : Int), vi (b : Int)] I L c K := by
  refine As_paidByTwo ?_
  have e2 : I h 2 = (offC I h).2.2.1 := rfl
  have e0 : I h 0 = (offC I h).1 := rfl
  have hO := oc.1.2.2.1
  have loop := loopN (N := 6) (P := fun j => W2 n d 14 6 [some (vr (some 80)), some (vr (some h)), some (vi (a : Int)), some (vi (b : Int)), some (vi ((offC I h).2.2.1 * ((manyS (fun t => !(offS (offC I h) A hour t || offS (offC I h) B hour t)) j : Nat) : Int))), some (vi (j : Int)), none] [] I L c K) ?_ ?_ 0 (Nat.zero_le _)
  · rw [show (offC I h).2.2.1 * ((manyS (fun t => !(offS (offC I h) A hour t || offS (offC I h) B hour t)) 0 : Nat) : Int) = 0 from Int.mul_zero _] at loop
    exact loop
  · refine As_paidByTwo_6 ?_
    rw [if_neg (by omega)]
    exact k
  · intro j hj ih
    refine As_paidByTwo_6 ?_
    have e1 : wr (wr ((a : Int) * 6) + (j : Int)) = ((6 * a + j : Nat) : Int) := by rw [wri (x := (a : Int) * 6) (by omega), wri (by omega)]; omega
    have e3 : wr (wr ((b : Int) * 6) + (j : Int)) = ((6 * b + j : Nat) : Int) := by rw [wri (x := (b : Int) * 6) (by omega), wri (by omega)]; omega
    rw [if_pos (by omega), e1, e3, Int.toNat_natCast, Int.toNat_natCast, fa j hj, fb j hj, chkE ho.1, chkE ho.1, e0, e2, wr_nat (by omega)]
    refine ⟨by omega, by omega, ?_⟩
    have ml := many_le (fun t => !(offS (offC I h) A hour t || offS (offC I h) B hour t)) j
    have mb : 0 ≤ (offC I h).2.2.1 * ((manyS (fun t => !(offS (offC I h) A hour t || offS (offC I h) B hour t)) j : Nat) : Int) ∧ (offC I h).2.2.1 * ((manyS (fun t => !(offS (offC I h) A hour t || offS (offC I h) B hour t)) j : Nat) : Int) ≤ 99 * 6 := by
      generalize manyS (fun t => !(offS (offC I h) A hour t || offS (offC I h) B hour t)) j = m at *
      exact ⟨Int.mul_nonneg hO.1 (by omega), Int.mul_le_mul hO.2 (by omega) (by omega) (by omega)⟩
    by_cases q : fineS (offC I h) A hour j < (offC I h).1 ∧ fineS (offC I h) B hour j < (offC I h).1
    · rw [if_pos (by split <;> omega)]
      rw [many_t (by rw [off_lt.mp q.1, off_lt.mp q.2]; rfl)] at ih
      rw [wri (by omega)]
      rw [show (offC I h).2.2.1 * ((manyS (fun t => !(offS (offC I h) A hour t || offS (offC I h) B hour t)) j + 1 : Nat) : Int) = (offC I h).2.2.1 * ((manyS (fun t => !(offS (offC I h) A hour t || offS (offC I h) B hour t)) j : Nat) : Int) + (offC I h).2.2.1 by rw [Int.natCast_succ, Int.mul_add, Int.mul_one]] at ih
      exact ih
    · rw [if_neg (by split <;> omega)]
      rw [many_f (by
        rw [off_lt, off_lt] at q
        cases x : offS (offC I h) A hour j with
        | true => rfl
        | false =>
          cases y : offS (offC I h) B hour j with
          | true => rfl
          | false => exact absurd ⟨x, y⟩ q)] at ih
      exact ih
def belS (O : mO) (hour taste : Int) (P : mP) : Int := if P 4 = 1 then 0 else ((manyS (fun t => !(offS (tasS O taste) P hour t)) 6 : Nat) : Int)
theorem bel_bd (O : mO) (hour taste : Int) (P : mP) : 0 ≤ belS O hour taste P ∧ belS O hour taste P ≤ 6 := by
  have := many_le (fun t => !(offS (tasS O taste) P hour t)) 6
  unfold belS
  split <;> omega
theorem many_not (f : Nat → Bool) : ∀ k, manyS (fun t => !(f t)) k + manyS f k = k
  | 0 => rfl
  | k + 1 => by
    have := many_not f k
    unfold manyS
    cases h : f k <;> simp <;> omega
theorem all_bel (O : mO) (Ps : Nat → mP) (hour taste : Int) : ∀ n, allS (tasS O taste) Ps hour n = O.2.2.1 * sumS (fun p => belS O hour taste (Ps p)) n
  | 0 => (Int.mul_zero _).symm
  | n + 1 => by
    show allS (tasS O taste) Ps hour n + paysS (tasS O taste) (Ps n) hour = O.2.2.1 * (sumS (fun p => belS O hour taste (Ps p)) n + belS O hour taste (Ps n))
    rw [Int.mul_add, all_bel O Ps hour taste n]
    congr 1
    unfold paysS belS
    by_cases q : Ps n 4 = 1
    · rw [if_pos q, if_pos q, Int.mul_zero]
    · rw [if_neg q, if_neg q]
      have := many_not (offS (tasS O taste) (Ps n) hour) 6
      rw [show ((manyS (fun t => !(offS (tasS O taste) (Ps n) hour t)) 6 : Nat) : Int) = 6 - ((manyS (offS (tasS O taste) (Ps n) hour) 6 : Nat) : Int) by omega]
      rfl
theorem x_partsBelow {n d h : Nat} {hour taste : Int} {I : mI} {L : mL} {c : Nat} {K : mK2} (hP : cP I) (hf : ∀ p, p < (I 17 1).toNat → ∀ t, t < 6 → I 87 (6 * p + t) = fineS (offC I h) (perN I p) hour t) (k : K (some (vi (sumS (fun p => belS (offC I h) hour taste (perN I p)) (I 17 1).toNat))) I L c) : C2 n d 15 [vr (some 80), vr (some 17), vi taste] I L c K := by
  obtain ⟨p1, p2, p3, p4⟩ := hP
  refine As_partsBelow ?_
  have loop := loopN (N := (I 17 1).toNat) (P := fun j => W2 n d 15 5 [some (vr (some 80)), some (vr (some 17)), some (vi taste), some (vi (sumS (fun p => belS (offC I h) hour taste (perN I p)) j)), some (vi (j : Int)), none] [] I L c K) ?_ ?_ 0 (Nat.zero_le _)
  · exact loop
  · refine As_partsBelow_5 ?_
    rw [chkE (show TY 17 = 7 from rfl), if_neg (by omega)]
    exact k
  · intro j hj ih
    refine As_partsBelow_5 ?_
    rw [chkE (show TY 17 = 7 from rfl), if_pos (by omega), if_pos (by omega)]
    have sb := sum_bd (f := fun p => belS (offC I h) hour taste (perN I p)) (B := 6) j (fun i _ => bel_bd _ _ _ _)
    unfold sumS at ih
    have g4 := p4 j (by omega)
    by_cases g : I (25 + 3 * j) 4 = 0
    · have eb : belS (offC I h) hour taste (perN I j) = ((manyS (fun t => !(offS (tasS (offC I h) taste) (perN I j) hour t)) 6 : Nat) : Int) := if_neg (show ¬ (perN I j 4 = 1) by show ¬ (I (25 + 3 * j) 4 = 1); omega)
      rw [eb] at ih
      clear eb
      have loop2 := loopN (N := 6) (P := fun i => W2 n d 15 24 [some (vr (some 80)), some (vr (some 17)), some (vi taste), some (vi (sumS (fun p => belS (offC I h) hour taste (perN I p)) j + ((manyS (fun t => !(offS (tasS (offC I h) taste) (perN I j) hour t)) i : Nat) : Int))), some (vi (j : Int)), some (vi (i : Int))] [] I L c K) ?_ ?_ 0 (Nat.zero_le _)
      · rw [show sumS (fun p => belS (offC I h) hour taste (perN I p)) j + ((manyS (fun t => !(offS (tasS (offC I h) taste) (perN I j) hour t)) 0 : Nat) : Int) = sumS (fun p => belS (offC I h) hour taste (perN I p)) j from Int.add_zero _] at loop2
        exact loop2
      · refine As_partsBelow_24 ?_
        rw [if_neg (by omega), wr_nat (by omega)]
        exact ih
      · intro i hi ih2
        have ml := many_le (fun t => !(offS (tasS (offC I h) taste) (perN I j) hour t)) i
        have e1 : wr (wr ((j : Int) * 6) + (i : Int)) = ((6 * j + i : Nat) : Int) := by rw [wri (x := (j : Int) * 6) (by omega), wri (by omega)]; omega
        refine As_partsBelow_24 ?_
        rw [if_pos (by omega), chkE (show TY 17 = 7 from rfl), show Rs c 17 0 = some 18 from rfl, drf_s]
        refine chk_i rfl ⟨by rw [show LN n 18 = 6 from rfl]; omega, ?_⟩
        rw [Int.toNat_natCast, Rs18 (by omega), drf_s, chkE (pOk_now (n := n) (c := c) (show j < 6 by omega)).1, if_pos g, e1, Int.toNat_natCast, hf j hj i hi, wr_nat (show i < 1000000 by omega)]
        refine ⟨by omega, ?_⟩
        have ol : (fineS (offC I h) (perN I j) hour i < taste) ↔ offS (tasS (offC I h) taste) (perN I j) hour i = false := off_lt (O := tasS (offC I h) taste)
        by_cases q : fineS (offC I h) (perN I j) hour i < taste
        · rw [if_pos q]
          rw [many_t (by rw [ol.mp q]; rfl)] at ih2
          rw [wri (by omega)]
          rw [show ((manyS (fun t => !(offS (tasS (offC I h) taste) (perN I j) hour t)) i + 1 : Nat) : Int) = ((manyS (fun t => !(offS (tasS (offC I h) taste) (perN I j) hour t)) i : Nat) : Int) + 1 from rfl, ← Int.add_assoc] at ih2
          exact ih2
        · rw [if_neg q]
          rw [many_f (by
            cases x : offS (tasS (offC I h) taste) (perN I j) hour i with
            | true => rfl
            | false => exact absurd (ol.mpr x) q)] at ih2
          rw [wri (by omega), Int.add_zero]
          exact ih2
    · have eb : belS (offC I h) hour taste (perN I j) = 0 := if_pos (show perN I j 4 = 1 by show I (25 + 3 * j) 4 = 1; omega)
      rw [eb, Int.add_zero] at ih
      clear eb
      refine As_partsBelow_24 ?_
      rw [if_pos (by omega), chkE (show TY 17 = 7 from rfl), show Rs c 17 0 = some 18 from rfl, drf_s]
      refine chk_i rfl ⟨by rw [show LN n 18 = 6 from rfl]; omega, ?_⟩
      rw [Int.toNat_natCast, Rs18 (by omega), drf_s, chkE (pOk_now (n := n) (c := c) (show j < 6 by omega)).1, if_neg g, wr_nat (by omega)]
      exact ih
theorem x_sideOf {n d a b : Nat} {side : Int} {I : mI} {L : mL} {c : Nat} {K : mK2} (ha : a < 100000) (hb : b < 60) (h0 : 0 < b) (k : K (some (vl (Int64.ofInt (lowS a b side)))) I L c) : C2 n d 114 [vi (a : Int), vi (b : Int), vi side] I L c K := by
  refine x_sideOfFraction ?_
  have hg : Nat.gcd a b ≠ 0 := by
    have := Nat.gcd_pos_of_pos_right a h0
    omega
  have fin : ∀ (x : Int), x = ((Nat.gcd a b : Nat) : Int) → (if x = 0 then K (some (vl noL)) I L c else if side = 0 then nzW x (K (some (vl (Int64.ofInt (wr ((a : Int).tdiv x))))) I L c) else nzW x (K (some (vl (Int64.ofInt (wr ((b : Int).tdiv x))))) I L c)) := by
    intro x hx
    subst hx
    unfold lowS at k
    unfold nzW
    rw [if_neg (by omega)]
    by_cases s : side = 0
    · rw [if_pos s] at k ⊢
      rw [if_neg (by omega), low_aux ha]
      exact k
    · rw [if_neg s] at k ⊢
      rw [if_neg (by omega), low_aux (by omega)]
      exact k
  have go : ∀ N s p q : Nat, q ≤ N → s + N < 64 → Nat.gcd p q = Nat.gcd a b → W2 n d 114 8 [some (vi (a : Int)), some (vi (b : Int)), some (vi side), some (vi (p : Int)), some (vi (q : Int)), some (vi (s : Int)), none] [] I L c K := by
    intro N
    induction N with
    | zero =>
      intro s p q hq hs hgg
      obtain rfl : q = 0 := by omega
      rw [Nat.gcd_zero_right] at hgg
      refine x_sideOfFraction_8 ?_
      rw [if_pos (by omega), if_pos (by omega)]
      exact fin _ (by rw [hgg])
    | succ N ih =>
      intro s p q hq hs hgg
      refine x_sideOfFraction_8 ?_
      rw [if_pos (by omega)]
      by_cases r : q = 0
      · subst r
        rw [Nat.gcd_zero_right] at hgg
        rw [if_pos (by omega)]
        exact fin _ (by rw [hgg])
      · rw [if_neg (by omega)]
        have e : (p : Int).tmod (q : Int) = ((p % q : Nat) : Int) := by rw [tmod_nn (by omega)]; exact (Int.natCast_emod p q).symm
        unfold nzW
        rw [if_neg (by omega), e, wr_nat (by omega)]
        have := Nat.mod_lt p (Nat.pos_of_ne_zero r)
        refine ih (s + 1) q (p % q) (by omega) (by omega) ?_
        rw [← hgg, Nat.gcd_comm p q, Nat.gcd_rec q p, Nat.gcd_comm]
  exact go b 0 a b (Nat.le_refl _) (by omega) rfl
