/-! ===== the class: how fine, what one pays; a person's own cells ===== -/
theorem x_fine {n d : Nat} {hour : Int} {h p t : Nat} {I : mI} {L : mL} {c : Nat} {K : mK2} (ho : oOk n c h) (hp : pOk n c p) (oc : oC I h) (hP : okP (perC I p)) (hh : 0 ≤ hour ∧ hour < 24) (ht : t < 6) (k : K (some (vi (fineS (offC I h) (perC I p) hour t))) I L c) : C2 n (d + 3) 30 [vr (some h), vr (some p), vi (t : Int), vi hour] I L c K := by
  have hl := lik_bd (perC I p) hour t oc.1
  have hO := oc.1
  have g0 := (glow_bd (offC I h).2.1 hour).1
  have g1 := (glow_bd (offC I h).2.1 hour).2 hO.2.1.1 hO.2.1.2 hh.1 hh.2
  obtain ⟨p0, p1, p2, p3, p4, p5⟩ := hP
  have q5 := p5 (5 + t) (by omega)
  have q11 := p5 (11 + t % 4) (by omega)
  rw [perC5 I p ht] at q5
  rw [perC11 I p (by omega)] at q11
  refine Of_fine ?_
  rw [if_neg (by omega), if_pos (by omega)]
  obtain ⟨e1, e2, e3, e4, e5, e6, e7⟩ := hp
  simp only [chkE e1, e2, e3, drf_s, chkE2 e4, chkE2 e5, e6, e7, chkE ho.1, Int.toNat_natCast]
  refine ⟨by omega, ?_⟩
  refine x_liking ho ⟨e1, e2, e3, e4, e5, e6, e7⟩ oc ⟨p0, p1, p2, p3, p4, p5⟩ ?_
  simp only [ri_vi]
  refine x_glow ho oc hh ?_
  simp only [ri_vi]
  simp only [chkE e1, e3, drf_s, chkE2 e5, e7]
  unfold fineS at k
  rw [show perC I p 1 = I p 1 from rfl, show perC I p 2 = I p 2 from rfl, show perC I p 3 = I p 3 from rfl, perC5 I p ht, perC11 I p (by omega)] at k
  rw [show perC I p 1 = I p 1 from rfl] at p1
  rw [show perC I p 2 = I p 2 from rfl] at p2
  rw [show perC I p 3 = I p 3 from rfl] at p3
  generalize likS (offC I h) (perC I p) hour t = lik at *
  generalize glowS (offC I h).2.1 hour = glow at *
  have et : ((t : Int).tmod 4).toNat = t % 4 := by rw [tmod_nn (by omega)]; omega
  rw [et]
  generalize I (p + 1) t = gr at *
  generalize I (p + 2) (t % 4) = rw1 at *
  generalize I p 1 = kd at *
  generalize I p 2 = v at *
  generalize I p 3 = ag at *
  have fin : ∀ w : Int, w = (if kd = 1 then gr + lik + glow / 3 - ag / 20
      else if kd = 2 then gr + lik + glow / 3 + (if hour % 2 = 0 ∧ t < 3 then 3 else 0)
      else if kd = 3 then gr + lik + glow / 3 + (if t = 1 then 5 else 0)
      else if kd = 4 then gr + lik - ag / 20
      else if kd = 5 then gr + lik + glow / 3 + (if hour % 2 = 0 ∧ t < 3 then 3 else 0) + (if ag < 20 then v else 0)
      else if kd = 6 then gr + lik + glow / 3 + (if t = 1 then 5 else 0) + rw1
      else gr + lik + glow / 3) → K (some (vi w)) I L c := fun w hw => hw ▸ k
  simp only [tmod_nn hh.1, tdiv_nn g0, tdiv_nn p3.1, tmod_nn (show (0 : Int) ≤ (t : Int) by omega)]
  clear k
  repeat' (first | refine And.intro (by omega) ?_ | refine ite_i (fun _ => ?_) (fun _ => ?_))
  all_goals (refine fin _ ?_; simp (disch := omega) only [if_pos, if_neg, wri]; try omega)
theorem b_orbit {k b : Nat} (hk : k < 6) (hb : b < 2 ^ k) : bior (b : Int) (bshl 1 (k : Int)) = ((b + 2 ^ k : Nat) : Int) := bior_bit ⟨k, hk⟩ ⟨b, hb⟩
theorem x_partsLetOff {n d : Nat} {hour : Int} {h p : Nat} {I : mI} {L : mL} {c : Nat} {K : mK2} (ho : oOk n c h) (hp : pOk n c p) (oc : oC I h) (hP : okP (perC I p)) (hh : 0 ≤ hour ∧ hour < 24) (k : K (some (vi ((bitsS (offS (offC I h) (perC I p) hour) 6 : Nat) : Int))) I L c) : C2 n (d + 4) 37 [vr (some h), vr (some p), vi hour] I L c K := by
  refine Of_partsLetOff ?_
  have key := loopN (N := 6) (P := fun j => W2 n (d + 4) 37 5 [some (vr (some h)), some (vr (some p)), some (vi hour), some (vi ((bitsS (offS (offC I h) (perC I p) hour) j : Nat) : Int)), some (vi (j : Int))] [] I L c K) ?_ ?_ 0 (Nat.zero_le _)
  · exact key
  · refine Of_partsLetOff_5 ?_
    rw [if_neg (by omega)]
    exact k
  · intro j hj ih
    refine Of_partsLetOff_5 ?_
    simp only [chkE ho.1, wr_nat (show j < 1000000 by omega)]
    rw [if_pos (by omega)]
    refine x_fine ho hp oc hP hh hj ?_
    rw [ri_vi]
    have hb := bits_lt (offS (offC I h) (perC I p) hour) j
    unfold bitsS at ih
    by_cases q : fineS (offC I h) (perC I p) hour j < I h 0
    · rw [if_pos q]
      rw [if_neg (by unfold offS; rw [decide_eq_true_eq]; show ¬ (I h 0 ≤ _); omega)] at ih
      exact ih
    · rw [if_neg q]
      rw [if_pos (by unfold offS; rw [decide_eq_true_eq]; show (I h 0 ≤ _); omega)] at ih
      rw [b_orbit hj hb]
      exact ih
theorem x_partToShow {n d : Nat} {hour : Int} {h p : Nat} {I : mI} {L : mL} {c : Nat} {K : mK2} (ho : oOk n c h) (hp : pOk n c p) (oc : oC I h) (hP : okP (perC I p)) (hh : 0 ≤ hour ∧ hour < 24) (k : K (some (vi (showS (fineS (offC I h) (perC I p) hour) (offC I h).1 6).1)) I L c) : C2 n (d + 4) 38 [vr (some h), vr (some p), vi hour] I L c K := by
  refine Of_partToShow ?_
  generalize hF : fineS (offC I h) (perC I p) hour = F at *
  have fb := fun t => fine_bd t oc.1 hP hh
  rw [hF] at fb
  have key := loopN (N := 6) (P := fun j => W2 n (d + 4) 38 9 [some (vr (some h)), some (vr (some p)), some (vi hour), some (vi (showS F (offC I h).1 j).2), some (vi (showS F (offC I h).1 j).1), some (vi (j : Int)), none] [] I L c K) ?_ ?_ 0 (Nat.zero_le _)
  · exact key
  · refine Of_partToShow_9 ?_
    rw [if_neg (by omega)]
    exact k
  · intro j hj ih
    refine Of_partToShow_9 ?_
    simp only [chkE ho.1, wr_nat (show j < 1000000 by omega)]
    rw [if_pos (by omega)]
    refine x_fine ho hp oc hP hh hj ?_
    rw [ri_vi, hF, show I h 0 = (offC I h).1 from rfl]
    have sb := show_bd F (offC I h).1 (fun t _ => by have := fb t; omega) j (by omega)
    have s5 : ∀ i, (showS F (offC I h).1 i).1 < 0 → (showS F (offC I h).1 i).1 = -5 := by
      intro i
      induction i with
      | zero => intro _; rfl
      | succ i ihi =>
        unfold showS
        split
        · intro hneg
          have : (i : Int) < 0 := hneg
          omega
        · exact ihi
    have s5 := s5 j
    unfold showS at ih
    by_cases q1 : F j < (offC I h).1
    · rw [if_pos q1]
      by_cases q2 : (showS F (offC I h).1 j).1 = -5
      · rw [if_pos q2]; rw [if_pos ⟨q1, Or.inl (by omega)⟩] at ih; exact ih
      · rw [if_neg q2]
        by_cases q3 : (showS F (offC I h).1 j).2 < F j
        · rw [if_pos q3]; rw [if_pos ⟨q1, Or.inr q3⟩] at ih; exact ih
        · rw [if_neg q3]; rw [if_neg (by rintro ⟨_, a | a⟩ <;> first | exact q2 (s5 a) | contradiction)] at ih; exact ih
    · rw [if_neg q1]; rw [if_neg (fun a => q1 a.1)] at ih; exact ih
theorem bc_raw : ∀ v : Fin 64, (band (wr ((wr ((band (wr ((wr ((band (wr ((v.val : Int) - (band (bushr (v.val : Int) 1) 1431655765))) 858993459) + (band (bushr (wr ((v.val : Int) - (band (bushr (v.val : Int) 1) 1431655765))) 2) 858993459))) + (bushr (wr ((band (wr ((v.val : Int) - (band (bushr (v.val : Int) 1) 1431655765))) 858993459) + (band (bushr (wr ((v.val : Int) - (band (bushr (v.val : Int) 1) 1431655765))) 2) 858993459))) 4))) 252645135) + (bushr (band (wr ((wr ((band (wr ((v.val : Int) - (band (bushr (v.val : Int) 1) 1431655765))) 858993459) + (band (bushr (wr ((v.val : Int) - (band (bushr (v.val : Int) 1) 1431655765))) 2) 858993459))) + (bushr (wr ((band (wr ((v.val : Int) - (band (bushr (v.val : Int) 1) 1431655765))) 858993459) + (band (bushr (wr ((v.val : Int) - (band (bushr (v.val : Int) 1) 1431655765))) 2) 858993459))) 4))) 252645135) 8))) + (bushr (wr ((band (wr ((wr ((band (wr ((v.val : Int) - (band (bushr (v.val : Int) 1) 1431655765))) 858993459) + (band (bushr (wr ((v.val : Int) - (band (bushr (v.val : Int) 1) 1431655765))) 2) 858993459))) + (bushr (wr ((band (wr ((v.val : Int) - (band (bushr (v.val : Int) 1) 1431655765))) 858993459) + (band (bushr (wr ((v.val : Int) - (band (bushr (v.val : Int) 1) 1431655765))) 2) 858993459))) 4))) 252645135) + (bushr (band (wr ((wr ((band (wr ((v.val : Int) - (band (bushr (v.val : Int) 1) 1431655765))) 858993459) + (band (bushr (wr ((v.val : Int) - (band (bushr (v.val : Int) 1) 1431655765))) 2) 858993459))) + (bushr (wr ((band (wr ((v.val : Int) - (band (bushr (v.val : Int) 1) 1431655765))) 858993459) + (band (bushr (wr ((v.val : Int) - (band (bushr (v.val : Int) 1) 1431655765))) 2) 858993459))) 4))) 252645135) 8))) 16))) 63) = ((manyS (fun i => Nat.testBit v.val i) 6 : Nat) : Int) := by decide +kernel
theorem x_bitCount {n d : Nat} {v : Nat} {I : mI} {L : mL} {c : Nat} {K : mK2} (hv : v < 64) (k : K (some (vi ((manyS (fun i => Nat.testBit v i) 6 : Nat) : Int))) I L c) : C2 n d 220 [vi (v : Int)] I L c K := by
  refine j_bitCount_220 ?_
  have e := bc_raw ⟨v, hv⟩
  dsimp only at e
  rw [e]
  exact k
theorem bits_test (f : Nat → Bool) : ∀ k i, Nat.testBit (bitsS f k) i = (decide (i < k) && f i)
  | 0, i => by
    show Nat.testBit 0 i = _
    rw [Nat.zero_testBit]
    rfl
  | k + 1, i => by
    have ih := bits_test f k
    have hb := bits_lt f k
    show Nat.testBit (bitsS f k + (if f k = true then 2 ^ k else 0)) i = _
    by_cases q : f k = true
    · rw [if_pos q, Nat.add_comm]
      by_cases e : i = k
      · subst e
        rw [Nat.testBit_two_pow_add_eq, Nat.testBit_lt_two_pow hb, q, decide_eq_true (by omega)]
        rfl
      · by_cases r : i < k
        · rw [Nat.testBit_two_pow_add_gt r, ih, decide_eq_true r, decide_eq_true (by omega)]
        · have : 2 ^ k + bitsS f k < 2 ^ i := by
            have h1 : 2 ^ (k + 1) ≤ 2 ^ i := Nat.pow_le_pow_right (by decide) (by omega)
            rw [Nat.pow_succ] at h1
            omega
          rw [Nat.testBit_lt_two_pow this, decide_eq_false (by omega)]
          rfl
    · rw [if_neg q, Nat.add_zero, ih]
      by_cases e : i = k
      · subst e
        rw [decide_eq_false (by omega), Bool.eq_false_iff.mpr q, Bool.and_false, Bool.and_false]
      · by_cases r : i < k
        · rw [decide_eq_true r, decide_eq_true (by omega)]
        · rw [decide_eq_false r, decide_eq_false (by omega)]
theorem many_cg {f g : Nat → Bool} : ∀ {k : Nat}, (∀ i, i < k → f i = g i) → manyS f k = manyS g k
  | 0, _ => rfl
  | k + 1, h => by unfold manyS; rw [many_cg (fun i hi => h i (by omega)), h k (by omega)]
theorem bits_many (f : Nat → Bool) : manyS (fun i => Nat.testBit (bitsS f 6) i) 6 = manyS f 6 := by
  refine many_cg (fun i hi => ?_)
  rw [bits_test, decide_eq_true hi]
  rfl
theorem x_pays {n d : Nat} {hour : Int} {h p : Nat} {I : mI} {L : mL} {c : Nat} {K : mK2} (ho : oOk n c h) (hp : pOk n c p) (oc : oC I h) (hP : okP (perC I p)) (hh : 0 ≤ hour ∧ hour < 24) (k : K (some (vi (paysS (offC I h) (perC I p) hour))) I L c) : C2 n (d + 5) 36 [vr (some h), vr (some p), vi hour] I L c K := by
  refine Of_pays ?_
  simp only [chkE ho.1, chkE hp.1]
  have h4 := hP.2.2.2.2.1
  have pb := pays_bd (P := perC I p) (hour := hour) oc.1
  unfold paysS at k pb
  rw [show perC I p 4 = I p 4 from rfl] at h4 k pb
  by_cases q : I p 4 = 0
  · rw [if_pos q]
    rw [if_neg (by omega)] at k pb
    refine x_partsLetOff ho hp oc hP hh ?_
    rw [ri_vi]
    have hb := bits_lt (offS (offC I h) (perC I p) hour) 6
    refine x_bitCount hb ?_
    rw [ri_vi, bits_many]
    have ml := many_le (offS (offC I h) (perC I p) hour) 6
    rw [wri (x := 6 - _) (by omega), Int.mul_comm, wri (by exact ⟨by have := pb.1; rw [show (offC I h).2.2.1 = I h 2 from rfl] at this; omega, by have := pb.2; rw [show (offC I h).2.2.1 = I h 2 from rfl] at this; omega⟩)]
    exact k
  · rw [if_neg q]
    rw [if_pos (by omega)] at k
    exact k
