/-! ===== the reference: the image is taken, and all is as it was ===== -/
abbrev lIm : List Nat := [1052, 1053, 1054, 1055, 1056, 1057, 1058, 1059, 1060, 137, 138, 139, 142, 143, 144, 149, 140, 141, 145, 146, 147, 148]
theorem c_image {n d : Nat} {I : mI} {L : mL} {c : Nat} {K : mK2} (hb : ∀ k, k < 6 → 0 ≤ I 132 k ∧ I 132 k ≤ 1)  (k : ∀ I1, eqx lIm I I1 → (I1 104 52 = 1 ∧ I1 104 53 = I 104 10 ∧ I1 104 54 = I 104 0 ∧ I1 104 55 = I 104 1 ∧ I1 104 56 = I 104 2 ∧ I1 104 57 = I 104 3 ∧ I1 104 58 = I 104 41 ∧ I1 104 59 = I 104 46 ∧ I1 104 60 = I 104 47) → (∀ k, k < 6 → I1 137 k = I 105 k ∧ I1 138 k = I 106 k ∧ I1 139 k = I 107 k ∧ I1 142 k = I 129 k ∧ I1 143 k = I 130 k ∧ I1 144 k = I 131 k ∧ I1 149 k = I 132 k) → (∀ k, k < 36 → I1 140 k = I 108 k) → (∀ k, k < 24 → I1 141 k = I 109 k) → (∀ k, k < 10 → I1 145 k = I 133 k ∧ I1 146 k = I 134 k) → (∀ k, k < 8 → I1 147 k = I 135 k ∧ I1 148 k = I 136 k) → K (some (vi (I1 104 0))) I1 L c) : C2 n d 200 [vr (some 104)] I L c K := by
  refine m_image ?_
  simp (disch := decide) only [up2_at, up2_same]
  have key4 : ∀ I1, eqx lIm I I1 → (I1 104 52 = 1 ∧ I1 104 53 = I 104 10 ∧ I1 104 54 = I 104 0 ∧ I1 104 55 = I 104 1 ∧ I1 104 56 = I 104 2 ∧ I1 104 57 = I 104 3 ∧ I1 104 58 = I 104 41 ∧ I1 104 59 = I 104 46 ∧ I1 104 60 = I 104 47) → (∀ k, k < 6 → I1 137 k = I 105 k ∧ I1 138 k = I 106 k ∧ I1 139 k = I 107 k ∧ I1 142 k = I 129 k ∧ I1 143 k = I 130 k ∧ I1 144 k = I 131 k ∧ I1 149 k = I 132 k) → (∀ k, k < 36 → I1 140 k = I 108 k) → (∀ k, k < 24 → I1 141 k = I 109 k) → (∀ k, k < 10 → I1 145 k = I 133 k ∧ I1 146 k = I 134 k) → W2 n d 200 259 [some (vr (some 104)), some (vi 0)] [] I1 L c K := by
    intro I1 x1 f1 g0 g1 g2 g3
    have loop := loopN (N := 8) (P := fun j => ∀ I2, eqx lIm I I2 → (I2 104 52 = 1 ∧ I2 104 53 = I 104 10 ∧ I2 104 54 = I 104 0 ∧ I2 104 55 = I 104 1 ∧ I2 104 56 = I 104 2 ∧ I2 104 57 = I 104 3 ∧ I2 104 58 = I 104 41 ∧ I2 104 59 = I 104 46 ∧ I2 104 60 = I 104 47) → (∀ k, k < 6 → I2 137 k = I 105 k ∧ I2 138 k = I 106 k ∧ I2 139 k = I 107 k ∧ I2 142 k = I 129 k ∧ I2 143 k = I 130 k ∧ I2 144 k = I 131 k ∧ I2 149 k = I 132 k) → (∀ k, k < 36 → I2 140 k = I 108 k) → (∀ k, k < 24 → I2 141 k = I 109 k) → (∀ k, k < 10 → I2 145 k = I 133 k ∧ I2 146 k = I 134 k) → (∀ k, k < j → I2 147 k = I 135 k ∧ I2 148 k = I 136 k) → W2 n d 200 259 [some (vr (some 104)), some (vi (j : Int))] [] I2 L c K) ?_ ?_ 0 (Nat.zero_le _)
    · exact loop I1 x1 f1 g0 g1 g2 g3 (fun k hk => absurd hk (Nat.not_lt_zero _))
    · intro I2 x2 f2 g0 g1 g2 g3 gg
      refine m_image_259 ?_
      rw [if_neg (by omega)]
      exact k I2 x2 f2 g0 g1 g2 g3 gg
    · intro j hj ih I2 x2 f2 g0 g1 g2 g3 gg
      refine m_image_259 ?_
      rw [if_pos (by omega), wr_nat (by omega)]
      simp (disch := decide) only [Int.toNat_natCast, up2_ne]
      repeat' refine And.intro (by omega) ?_
      refine ih _ ?_ ?_ ?_ ?_ ?_ ?_ ?_
      · exact eqx_up (eqx_up (x2) rfl) rfl
      · simp (disch := decide) only [up2_ne]; exact f2
      · simp (disch := decide) only [up2_ne]; exact g0
      · simp (disch := decide) only [up2_ne]; exact g1
      · simp (disch := decide) only [up2_ne]; exact g2
      · simp (disch := decide) only [up2_ne]; exact g3
      · intro i hi
        by_cases r : i = j
        · subst r
          simp (disch := decide) only [up2_ne, up2_same]
          exact ⟨x2 135 _ rfl, x2 136 _ rfl⟩
        · have q := gg i (by omega)
          simp (disch := first | exact r | decide) only [up2_ne, up2_at]
          exact q
  have key3 : ∀ I1, eqx lIm I I1 → (I1 104 52 = 1 ∧ I1 104 53 = I 104 10 ∧ I1 104 54 = I 104 0 ∧ I1 104 55 = I 104 1 ∧ I1 104 56 = I 104 2 ∧ I1 104 57 = I 104 3 ∧ I1 104 58 = I 104 41 ∧ I1 104 59 = I 104 46 ∧ I1 104 60 = I 104 47) → (∀ k, k < 6 → I1 137 k = I 105 k ∧ I1 138 k = I 106 k ∧ I1 139 k = I 107 k ∧ I1 142 k = I 129 k ∧ I1 143 k = I 130 k ∧ I1 144 k = I 131 k ∧ I1 149 k = I 132 k) → (∀ k, k < 36 → I1 140 k = I 108 k) → (∀ k, k < 24 → I1 141 k = I 109 k) → W2 n d 200 221 [some (vr (some 104)), some (vi 0)] [] I1 L c K := by
    intro I1 x1 f1 g0 g1 g2
    have loop := loopN (N := 10) (P := fun j => ∀ I2, eqx lIm I I2 → (I2 104 52 = 1 ∧ I2 104 53 = I 104 10 ∧ I2 104 54 = I 104 0 ∧ I2 104 55 = I 104 1 ∧ I2 104 56 = I 104 2 ∧ I2 104 57 = I 104 3 ∧ I2 104 58 = I 104 41 ∧ I2 104 59 = I 104 46 ∧ I2 104 60 = I 104 47) → (∀ k, k < 6 → I2 137 k = I 105 k ∧ I2 138 k = I 106 k ∧ I2 139 k = I 107 k ∧ I2 142 k = I 129 k ∧ I2 143 k = I 130 k ∧ I2 144 k = I 131 k ∧ I2 149 k = I 132 k) → (∀ k, k < 36 → I2 140 k = I 108 k) → (∀ k, k < 24 → I2 141 k = I 109 k) → (∀ k, k < j → I2 145 k = I 133 k ∧ I2 146 k = I 134 k) → W2 n d 200 221 [some (vr (some 104)), some (vi (j : Int))] [] I2 L c K) ?_ ?_ 0 (Nat.zero_le _)
    · exact loop I1 x1 f1 g0 g1 g2 (fun k hk => absurd hk (Nat.not_lt_zero _))
    · intro I2 x2 f2 g0 g1 g2 gg
      refine m_image_221 ?_
      rw [if_neg (by omega)]
      exact key4 I2 x2 f2 g0 g1 g2 gg
    · intro j hj ih I2 x2 f2 g0 g1 g2 gg
      refine m_image_221 ?_
      rw [if_pos (by omega), wr_nat (by omega)]
      simp (disch := decide) only [Int.toNat_natCast, up2_ne]
      repeat' refine And.intro (by omega) ?_
      refine ih _ ?_ ?_ ?_ ?_ ?_ ?_
      · exact eqx_up (eqx_up (x2) rfl) rfl
      · simp (disch := decide) only [up2_ne]; exact f2
      · simp (disch := decide) only [up2_ne]; exact g0
      · simp (disch := decide) only [up2_ne]; exact g1
      · simp (disch := decide) only [up2_ne]; exact g2
      · intro i hi
        by_cases r : i = j
        · subst r
          simp (disch := decide) only [up2_ne, up2_same]
          exact ⟨x2 133 _ rfl, x2 134 _ rfl⟩
        · have q := gg i (by omega)
          simp (disch := first | exact r | decide) only [up2_ne, up2_at]
          exact q
  have key2 : ∀ I1, eqx lIm I I1 → (I1 104 52 = 1 ∧ I1 104 53 = I 104 10 ∧ I1 104 54 = I 104 0 ∧ I1 104 55 = I 104 1 ∧ I1 104 56 = I 104 2 ∧ I1 104 57 = I 104 3 ∧ I1 104 58 = I 104 41 ∧ I1 104 59 = I 104 46 ∧ I1 104 60 = I 104 47) → (∀ k, k < 6 → I1 137 k = I 105 k ∧ I1 138 k = I 106 k ∧ I1 139 k = I 107 k ∧ I1 142 k = I 129 k ∧ I1 143 k = I 130 k ∧ I1 144 k = I 131 k ∧ I1 149 k = I 132 k) → (∀ k, k < 36 → I1 140 k = I 108 k) → W2 n d 200 195 [some (vr (some 104)), some (vi 0)] [] I1 L c K := by
    intro I1 x1 f1 g0 g1
    have loop := loopN (N := 24) (P := fun j => ∀ I2, eqx lIm I I2 → (I2 104 52 = 1 ∧ I2 104 53 = I 104 10 ∧ I2 104 54 = I 104 0 ∧ I2 104 55 = I 104 1 ∧ I2 104 56 = I 104 2 ∧ I2 104 57 = I 104 3 ∧ I2 104 58 = I 104 41 ∧ I2 104 59 = I 104 46 ∧ I2 104 60 = I 104 47) → (∀ k, k < 6 → I2 137 k = I 105 k ∧ I2 138 k = I 106 k ∧ I2 139 k = I 107 k ∧ I2 142 k = I 129 k ∧ I2 143 k = I 130 k ∧ I2 144 k = I 131 k ∧ I2 149 k = I 132 k) → (∀ k, k < 36 → I2 140 k = I 108 k) → (∀ k, k < j → I2 141 k = I 109 k) → W2 n d 200 195 [some (vr (some 104)), some (vi (j : Int))] [] I2 L c K) ?_ ?_ 0 (Nat.zero_le _)
    · exact loop I1 x1 f1 g0 g1 (fun k hk => absurd hk (Nat.not_lt_zero _))
    · intro I2 x2 f2 g0 g1 gg
      refine m_image_195 ?_
      rw [if_neg (by omega)]
      exact key3 I2 x2 f2 g0 g1 gg
    · intro j hj ih I2 x2 f2 g0 g1 gg
      refine m_image_195 ?_
      rw [if_pos (by omega), wr_nat (by omega)]
      simp (disch := decide) only [Int.toNat_natCast, up2_ne]
      repeat' refine And.intro (by omega) ?_
      refine ih _ ?_ ?_ ?_ ?_ ?_
      · exact eqx_up (x2) rfl
      · simp (disch := decide) only [up2_ne]; exact f2
      · simp (disch := decide) only [up2_ne]; exact g0
      · simp (disch := decide) only [up2_ne]; exact g1
      · intro i hi
        by_cases r : i = j
        · subst r
          simp (disch := decide) only [up2_ne, up2_same]
          exact x2 109 _ rfl
        · have q := gg i (by omega)
          simp (disch := first | exact r | decide) only [up2_ne, up2_at]
          exact q
  have key1 : ∀ I1, eqx lIm I I1 → (I1 104 52 = 1 ∧ I1 104 53 = I 104 10 ∧ I1 104 54 = I 104 0 ∧ I1 104 55 = I 104 1 ∧ I1 104 56 = I 104 2 ∧ I1 104 57 = I 104 3 ∧ I1 104 58 = I 104 41 ∧ I1 104 59 = I 104 46 ∧ I1 104 60 = I 104 47) → (∀ k, k < 6 → I1 137 k = I 105 k ∧ I1 138 k = I 106 k ∧ I1 139 k = I 107 k ∧ I1 142 k = I 129 k ∧ I1 143 k = I 130 k ∧ I1 144 k = I 131 k ∧ I1 149 k = I 132 k) → W2 n d 200 169 [some (vr (some 104)), some (vi 0)] [] I1 L c K := by
    intro I1 x1 f1 g0
    have loop := loopN (N := 36) (P := fun j => ∀ I2, eqx lIm I I2 → (I2 104 52 = 1 ∧ I2 104 53 = I 104 10 ∧ I2 104 54 = I 104 0 ∧ I2 104 55 = I 104 1 ∧ I2 104 56 = I 104 2 ∧ I2 104 57 = I 104 3 ∧ I2 104 58 = I 104 41 ∧ I2 104 59 = I 104 46 ∧ I2 104 60 = I 104 47) → (∀ k, k < 6 → I2 137 k = I 105 k ∧ I2 138 k = I 106 k ∧ I2 139 k = I 107 k ∧ I2 142 k = I 129 k ∧ I2 143 k = I 130 k ∧ I2 144 k = I 131 k ∧ I2 149 k = I 132 k) → (∀ k, k < j → I2 140 k = I 108 k) → W2 n d 200 169 [some (vr (some 104)), some (vi (j : Int))] [] I2 L c K) ?_ ?_ 0 (Nat.zero_le _)
    · exact loop I1 x1 f1 g0 (fun k hk => absurd hk (Nat.not_lt_zero _))
    · intro I2 x2 f2 g0 gg
      refine m_image_169 ?_
      rw [if_neg (by omega)]
      exact key2 I2 x2 f2 g0 gg
    · intro j hj ih I2 x2 f2 g0 gg
      refine m_image_169 ?_
      rw [if_pos (by omega), wr_nat (by omega)]
      simp (disch := decide) only [Int.toNat_natCast, up2_ne]
      repeat' refine And.intro (by omega) ?_
      refine ih _ ?_ ?_ ?_ ?_
      · exact eqx_up (x2) rfl
      · simp (disch := decide) only [up2_ne]; exact f2
      · simp (disch := decide) only [up2_ne]; exact g0
      · intro i hi
        by_cases r : i = j
        · subst r
          simp (disch := decide) only [up2_ne, up2_same]
          exact x2 108 _ rfl
        · have q := gg i (by omega)
          simp (disch := first | exact r | decide) only [up2_ne, up2_at]
          exact q
  have key0 : ∀ I1, eqx lIm I I1 → (I1 104 52 = 1 ∧ I1 104 53 = I 104 10 ∧ I1 104 54 = I 104 0 ∧ I1 104 55 = I 104 1 ∧ I1 104 56 = I 104 2 ∧ I1 104 57 = I 104 3 ∧ I1 104 58 = I 104 41 ∧ I1 104 59 = I 104 46 ∧ I1 104 60 = I 104 47) → W2 n d 200 71 [some (vr (some 104)), some (vi 0)] [] I1 L c K := by
    intro I1 x1 f1 
    have loop := loopN (N := 6) (P := fun j => ∀ I2, eqx lIm I I2 → (I2 104 52 = 1 ∧ I2 104 53 = I 104 10 ∧ I2 104 54 = I 104 0 ∧ I2 104 55 = I 104 1 ∧ I2 104 56 = I 104 2 ∧ I2 104 57 = I 104 3 ∧ I2 104 58 = I 104 41 ∧ I2 104 59 = I 104 46 ∧ I2 104 60 = I 104 47) → (∀ k, k < j → I2 137 k = I 105 k ∧ I2 138 k = I 106 k ∧ I2 139 k = I 107 k ∧ I2 142 k = I 129 k ∧ I2 143 k = I 130 k ∧ I2 144 k = I 131 k ∧ I2 149 k = I 132 k) → W2 n d 200 71 [some (vr (some 104)), some (vi (j : Int))] [] I2 L c K) ?_ ?_ 0 (Nat.zero_le _)
    · exact loop I1 x1 f1  (fun k hk => absurd hk (Nat.not_lt_zero _))
    · intro I2 x2 f2  gg
      refine m_image_71 ?_
      rw [if_neg (by omega)]
      exact key1 I2 x2 f2  gg
    · intro j hj ih I2 x2 f2  gg
      refine m_image_71 ?_
      rw [if_pos (by omega), wr_nat (by omega)]
      simp (disch := decide) only [Int.toNat_natCast, up2_ne]
      repeat' refine And.intro (by omega) ?_
      rw [x2 132 _ rfl]
      refine b01_i (hb j hj) ?_
      refine ih _ ?_ ?_  ?_
      · exact eqx_up (eqx_up (eqx_up (eqx_up (eqx_up (eqx_up (eqx_up (x2) rfl) rfl) rfl) rfl) rfl) rfl) rfl
      · simp (disch := decide) only [up2_ne]; exact f2
      · intro i hi
        by_cases r : i = j
        · subst r
          simp (disch := decide) only [up2_ne, up2_same]
          exact ⟨x2 105 _ rfl, x2 106 _ rfl, x2 107 _ rfl, x2 129 _ rfl, x2 130 _ rfl, x2 131 _ rfl, trivial⟩
        · have q := gg i (by omega)
          simp (disch := first | exact r | decide) only [up2_ne, up2_at]
          exact q
  refine key0 _ ?_ ?_
  · exact eqx_up (eqx_up (eqx_up (eqx_up (eqx_up (eqx_up (eqx_up (eqx_up (eqx_up (eqx_rf _ _) rfl) rfl) rfl) rfl) rfl) rfl) rfl) rfl) rfl
  · refine ⟨?_, ?_, ?_, ?_, ?_, ?_, ?_, ?_, ?_⟩
    all_goals simp [up2]
abbrev lUn : List Nat := [1010, 1000, 1001, 1002, 1003, 1041, 1046, 1047, 105, 106, 107, 129, 130, 131, 132, 108, 109, 133, 134, 135, 136]
theorem c_undo {n d : Nat} {I : mI} {L : mL} {c : Nat} {K : mK2} (hb : ∀ k, k < 6 → 0 ≤ I 149 k ∧ I 149 k ≤ 1) (h52 : ¬ I 104 52 = 0) (k : ∀ I1, eqx lUn I I1 → (I1 104 10 = I 104 53 ∧ I1 104 0 = I 104 54 ∧ I1 104 1 = I 104 55 ∧ I1 104 2 = I 104 56 ∧ I1 104 3 = I 104 57 ∧ I1 104 41 = I 104 58 ∧ I1 104 46 = I 104 59 ∧ I1 104 47 = I 104 60) → (∀ k, k < 6 → I1 105 k = I 137 k ∧ I1 106 k = I 138 k ∧ I1 107 k = I 139 k ∧ I1 129 k = I 142 k ∧ I1 130 k = I 143 k ∧ I1 131 k = I 144 k ∧ I1 132 k = I 149 k) → (∀ k, k < 36 → I1 108 k = I 140 k) → (∀ k, k < 24 → I1 109 k = I 141 k) → (∀ k, k < 10 → I1 133 k = I 145 k ∧ I1 134 k = I 146 k) → (∀ k, k < 8 → I1 135 k = I 147 k ∧ I1 136 k = I 148 k) → K (some (vi (I1 104 0))) I1 L c) : C2 n d 201 [vr (some 104)] I L c K := by
  refine m_undo ?_
  rw [if_neg h52]
  simp (disch := decide) only [up2_at, up2_same]
  have key4 : ∀ I1, eqx lUn I I1 → (I1 104 10 = I 104 53 ∧ I1 104 0 = I 104 54 ∧ I1 104 1 = I 104 55 ∧ I1 104 2 = I 104 56 ∧ I1 104 3 = I 104 57 ∧ I1 104 41 = I 104 58 ∧ I1 104 46 = I 104 59 ∧ I1 104 47 = I 104 60) → (∀ k, k < 6 → I1 105 k = I 137 k ∧ I1 106 k = I 138 k ∧ I1 107 k = I 139 k ∧ I1 129 k = I 142 k ∧ I1 130 k = I 143 k ∧ I1 131 k = I 144 k ∧ I1 132 k = I 149 k) → (∀ k, k < 36 → I1 108 k = I 140 k) → (∀ k, k < 24 → I1 109 k = I 141 k) → (∀ k, k < 10 → I1 133 k = I 145 k ∧ I1 134 k = I 146 k) → W2 n d 201 264 [some (vr (some 104)), some (vi 0)] [] I1 L c K := by
    intro I1 x1 f1 g0 g1 g2 g3
    have loop := loopN (N := 8) (P := fun j => ∀ I2, eqx lUn I I2 → (I2 104 10 = I 104 53 ∧ I2 104 0 = I 104 54 ∧ I2 104 1 = I 104 55 ∧ I2 104 2 = I 104 56 ∧ I2 104 3 = I 104 57 ∧ I2 104 41 = I 104 58 ∧ I2 104 46 = I 104 59 ∧ I2 104 47 = I 104 60) → (∀ k, k < 6 → I2 105 k = I 137 k ∧ I2 106 k = I 138 k ∧ I2 107 k = I 139 k ∧ I2 129 k = I 142 k ∧ I2 130 k = I 143 k ∧ I2 131 k = I 144 k ∧ I2 132 k = I 149 k) → (∀ k, k < 36 → I2 108 k = I 140 k) → (∀ k, k < 24 → I2 109 k = I 141 k) → (∀ k, k < 10 → I2 133 k = I 145 k ∧ I2 134 k = I 146 k) → (∀ k, k < j → I2 135 k = I 147 k ∧ I2 136 k = I 148 k) → W2 n d 201 264 [some (vr (some 104)), some (vi (j : Int))] [] I2 L c K) ?_ ?_ 0 (Nat.zero_le _)
    · exact loop I1 x1 f1 g0 g1 g2 g3 (fun k hk => absurd hk (Nat.not_lt_zero _))
    · intro I2 x2 f2 g0 g1 g2 g3 gg
      refine m_undo_264 ?_
      rw [if_neg (by omega)]
      exact k I2 x2 f2 g0 g1 g2 g3 gg
    · intro j hj ih I2 x2 f2 g0 g1 g2 g3 gg
      refine m_undo_264 ?_
      rw [if_pos (by omega), wr_nat (by omega)]
      simp (disch := decide) only [Int.toNat_natCast, up2_ne]
      repeat' refine And.intro (by omega) ?_
      refine ih _ ?_ ?_ ?_ ?_ ?_ ?_ ?_
      · exact eqx_up (eqx_up (x2) rfl) rfl
      · simp (disch := decide) only [up2_ne]; exact f2
      · simp (disch := decide) only [up2_ne]; exact g0
      · simp (disch := decide) only [up2_ne]; exact g1
      · simp (disch := decide) only [up2_ne]; exact g2
      · simp (disch := decide) only [up2_ne]; exact g3
      · intro i hi
        by_cases r : i = j
        · subst r
          simp (disch := decide) only [up2_ne, up2_same]
          exact ⟨x2 147 _ rfl, x2 148 _ rfl⟩
        · have q := gg i (by omega)
          simp (disch := first | exact r | decide) only [up2_ne, up2_at]
          exact q
  have key3 : ∀ I1, eqx lUn I I1 → (I1 104 10 = I 104 53 ∧ I1 104 0 = I 104 54 ∧ I1 104 1 = I 104 55 ∧ I1 104 2 = I 104 56 ∧ I1 104 3 = I 104 57 ∧ I1 104 41 = I 104 58 ∧ I1 104 46 = I 104 59 ∧ I1 104 47 = I 104 60) → (∀ k, k < 6 → I1 105 k = I 137 k ∧ I1 106 k = I 138 k ∧ I1 107 k = I 139 k ∧ I1 129 k = I 142 k ∧ I1 130 k = I 143 k ∧ I1 131 k = I 144 k ∧ I1 132 k = I 149 k) → (∀ k, k < 36 → I1 108 k = I 140 k) → (∀ k, k < 24 → I1 109 k = I 141 k) → W2 n d 201 226 [some (vr (some 104)), some (vi 0)] [] I1 L c K := by
    intro I1 x1 f1 g0 g1 g2
    have loop := loopN (N := 10) (P := fun j => ∀ I2, eqx lUn I I2 → (I2 104 10 = I 104 53 ∧ I2 104 0 = I 104 54 ∧ I2 104 1 = I 104 55 ∧ I2 104 2 = I 104 56 ∧ I2 104 3 = I 104 57 ∧ I2 104 41 = I 104 58 ∧ I2 104 46 = I 104 59 ∧ I2 104 47 = I 104 60) → (∀ k, k < 6 → I2 105 k = I 137 k ∧ I2 106 k = I 138 k ∧ I2 107 k = I 139 k ∧ I2 129 k = I 142 k ∧ I2 130 k = I 143 k ∧ I2 131 k = I 144 k ∧ I2 132 k = I 149 k) → (∀ k, k < 36 → I2 108 k = I 140 k) → (∀ k, k < 24 → I2 109 k = I 141 k) → (∀ k, k < j → I2 133 k = I 145 k ∧ I2 134 k = I 146 k) → W2 n d 201 226 [some (vr (some 104)), some (vi (j : Int))] [] I2 L c K) ?_ ?_ 0 (Nat.zero_le _)
    · exact loop I1 x1 f1 g0 g1 g2 (fun k hk => absurd hk (Nat.not_lt_zero _))
    · intro I2 x2 f2 g0 g1 g2 gg
      refine m_undo_226 ?_
      rw [if_neg (by omega)]
      exact key4 I2 x2 f2 g0 g1 g2 gg
    · intro j hj ih I2 x2 f2 g0 g1 g2 gg
      refine m_undo_226 ?_
      rw [if_pos (by omega), wr_nat (by omega)]
      simp (disch := decide) only [Int.toNat_natCast, up2_ne]
      repeat' refine And.intro (by omega) ?_
      refine ih _ ?_ ?_ ?_ ?_ ?_ ?_
      · exact eqx_up (eqx_up (x2) rfl) rfl
      · simp (disch := decide) only [up2_ne]; exact f2
      · simp (disch := decide) only [up2_ne]; exact g0
      · simp (disch := decide) only [up2_ne]; exact g1
      · simp (disch := decide) only [up2_ne]; exact g2
      · intro i hi
        by_cases r : i = j
        · subst r
          simp (disch := decide) only [up2_ne, up2_same]
          exact ⟨x2 145 _ rfl, x2 146 _ rfl⟩
        · have q := gg i (by omega)
          simp (disch := first | exact r | decide) only [up2_ne, up2_at]
          exact q
  have key2 : ∀ I1, eqx lUn I I1 → (I1 104 10 = I 104 53 ∧ I1 104 0 = I 104 54 ∧ I1 104 1 = I 104 55 ∧ I1 104 2 = I 104 56 ∧ I1 104 3 = I 104 57 ∧ I1 104 41 = I 104 58 ∧ I1 104 46 = I 104 59 ∧ I1 104 47 = I 104 60) → (∀ k, k < 6 → I1 105 k = I 137 k ∧ I1 106 k = I 138 k ∧ I1 107 k = I 139 k ∧ I1 129 k = I 142 k ∧ I1 130 k = I 143 k ∧ I1 131 k = I 144 k ∧ I1 132 k = I 149 k) → (∀ k, k < 36 → I1 108 k = I 140 k) → W2 n d 201 200 [some (vr (some 104)), some (vi 0)] [] I1 L c K := by
    intro I1 x1 f1 g0 g1
    have loop := loopN (N := 24) (P := fun j => ∀ I2, eqx lUn I I2 → (I2 104 10 = I 104 53 ∧ I2 104 0 = I 104 54 ∧ I2 104 1 = I 104 55 ∧ I2 104 2 = I 104 56 ∧ I2 104 3 = I 104 57 ∧ I2 104 41 = I 104 58 ∧ I2 104 46 = I 104 59 ∧ I2 104 47 = I 104 60) → (∀ k, k < 6 → I2 105 k = I 137 k ∧ I2 106 k = I 138 k ∧ I2 107 k = I 139 k ∧ I2 129 k = I 142 k ∧ I2 130 k = I 143 k ∧ I2 131 k = I 144 k ∧ I2 132 k = I 149 k) → (∀ k, k < 36 → I2 108 k = I 140 k) → (∀ k, k < j → I2 109 k = I 141 k) → W2 n d 201 200 [some (vr (some 104)), some (vi (j : Int))] [] I2 L c K) ?_ ?_ 0 (Nat.zero_le _)
    · exact loop I1 x1 f1 g0 g1 (fun k hk => absurd hk (Nat.not_lt_zero _))
    · intro I2 x2 f2 g0 g1 gg
      refine m_undo_200 ?_
      rw [if_neg (by omega)]
      exact key3 I2 x2 f2 g0 g1 gg
    · intro j hj ih I2 x2 f2 g0 g1 gg
      refine m_undo_200 ?_
      rw [if_pos (by omega), wr_nat (by omega)]
      simp (disch := decide) only [Int.toNat_natCast, up2_ne]
      repeat' refine And.intro (by omega) ?_
      refine ih _ ?_ ?_ ?_ ?_ ?_
      · exact eqx_up (x2) rfl
      · simp (disch := decide) only [up2_ne]; exact f2
      · simp (disch := decide) only [up2_ne]; exact g0
      · simp (disch := decide) only [up2_ne]; exact g1
      · intro i hi
        by_cases r : i = j
        · subst r
          simp (disch := decide) only [up2_ne, up2_same]
          exact x2 141 _ rfl
        · have q := gg i (by omega)
          simp (disch := first | exact r | decide) only [up2_ne, up2_at]
          exact q
  have key1 : ∀ I1, eqx lUn I I1 → (I1 104 10 = I 104 53 ∧ I1 104 0 = I 104 54 ∧ I1 104 1 = I 104 55 ∧ I1 104 2 = I 104 56 ∧ I1 104 3 = I 104 57 ∧ I1 104 41 = I 104 58 ∧ I1 104 46 = I 104 59 ∧ I1 104 47 = I 104 60) → (∀ k, k < 6 → I1 105 k = I 137 k ∧ I1 106 k = I 138 k ∧ I1 107 k = I 139 k ∧ I1 129 k = I 142 k ∧ I1 130 k = I 143 k ∧ I1 131 k = I 144 k ∧ I1 132 k = I 149 k) → W2 n d 201 174 [some (vr (some 104)), some (vi 0)] [] I1 L c K := by
    intro I1 x1 f1 g0
    have loop := loopN (N := 36) (P := fun j => ∀ I2, eqx lUn I I2 → (I2 104 10 = I 104 53 ∧ I2 104 0 = I 104 54 ∧ I2 104 1 = I 104 55 ∧ I2 104 2 = I 104 56 ∧ I2 104 3 = I 104 57 ∧ I2 104 41 = I 104 58 ∧ I2 104 46 = I 104 59 ∧ I2 104 47 = I 104 60) → (∀ k, k < 6 → I2 105 k = I 137 k ∧ I2 106 k = I 138 k ∧ I2 107 k = I 139 k ∧ I2 129 k = I 142 k ∧ I2 130 k = I 143 k ∧ I2 131 k = I 144 k ∧ I2 132 k = I 149 k) → (∀ k, k < j → I2 108 k = I 140 k) → W2 n d 201 174 [some (vr (some 104)), some (vi (j : Int))] [] I2 L c K) ?_ ?_ 0 (Nat.zero_le _)
    · exact loop I1 x1 f1 g0 (fun k hk => absurd hk (Nat.not_lt_zero _))
    · intro I2 x2 f2 g0 gg
      refine m_undo_174 ?_
      rw [if_neg (by omega)]
      exact key2 I2 x2 f2 g0 gg
    · intro j hj ih I2 x2 f2 g0 gg
      refine m_undo_174 ?_
      rw [if_pos (by omega), wr_nat (by omega)]
      simp (disch := decide) only [Int.toNat_natCast, up2_ne]
      repeat' refine And.intro (by omega) ?_
      refine ih _ ?_ ?_ ?_ ?_
      · exact eqx_up (x2) rfl
      · simp (disch := decide) only [up2_ne]; exact f2
      · simp (disch := decide) only [up2_ne]; exact g0
      · intro i hi
        by_cases r : i = j
        · subst r
          simp (disch := decide) only [up2_ne, up2_same]
          exact x2 140 _ rfl
        · have q := gg i (by omega)
          simp (disch := first | exact r | decide) only [up2_ne, up2_at]
          exact q
  have key0 : ∀ I1, eqx lUn I I1 → (I1 104 10 = I 104 53 ∧ I1 104 0 = I 104 54 ∧ I1 104 1 = I 104 55 ∧ I1 104 2 = I 104 56 ∧ I1 104 3 = I 104 57 ∧ I1 104 41 = I 104 58 ∧ I1 104 46 = I 104 59 ∧ I1 104 47 = I 104 60) → W2 n d 201 76 [some (vr (some 104)), some (vi 0)] [] I1 L c K := by
    intro I1 x1 f1 
    have loop := loopN (N := 6) (P := fun j => ∀ I2, eqx lUn I I2 → (I2 104 10 = I 104 53 ∧ I2 104 0 = I 104 54 ∧ I2 104 1 = I 104 55 ∧ I2 104 2 = I 104 56 ∧ I2 104 3 = I 104 57 ∧ I2 104 41 = I 104 58 ∧ I2 104 46 = I 104 59 ∧ I2 104 47 = I 104 60) → (∀ k, k < j → I2 105 k = I 137 k ∧ I2 106 k = I 138 k ∧ I2 107 k = I 139 k ∧ I2 129 k = I 142 k ∧ I2 130 k = I 143 k ∧ I2 131 k = I 144 k ∧ I2 132 k = I 149 k) → W2 n d 201 76 [some (vr (some 104)), some (vi (j : Int))] [] I2 L c K) ?_ ?_ 0 (Nat.zero_le _)
    · exact loop I1 x1 f1  (fun k hk => absurd hk (Nat.not_lt_zero _))
    · intro I2 x2 f2  gg
      refine m_undo_76 ?_
      rw [if_neg (by omega)]
      exact key1 I2 x2 f2  gg
    · intro j hj ih I2 x2 f2  gg
      refine m_undo_76 ?_
      rw [if_pos (by omega), wr_nat (by omega)]
      simp (disch := decide) only [Int.toNat_natCast, up2_ne]
      repeat' refine And.intro (by omega) ?_
      rw [x2 149 _ rfl]
      refine b01_i (hb j hj) ?_
      refine ih _ ?_ ?_  ?_
      · exact eqx_up (eqx_up (eqx_up (eqx_up (eqx_up (eqx_up (eqx_up (x2) rfl) rfl) rfl) rfl) rfl) rfl) rfl
      · simp (disch := decide) only [up2_ne]; exact f2
      · intro i hi
        by_cases r : i = j
        · subst r
          simp (disch := decide) only [up2_ne, up2_same]
          exact ⟨x2 137 _ rfl, x2 138 _ rfl, x2 139 _ rfl, x2 142 _ rfl, x2 143 _ rfl, x2 144 _ rfl, trivial⟩
        · have q := gg i (by omega)
          simp (disch := first | exact r | decide) only [up2_ne, up2_at]
          exact q
  refine key0 _ ?_ ?_
  · exact eqx_up (eqx_up (eqx_up (eqx_up (eqx_up (eqx_up (eqx_up (eqx_up (eqx_rf _ _) rfl) rfl) rfl) rfl) rfl) rfl) rfl) rfl
  · refine ⟨?_, ?_, ?_, ?_, ?_, ?_, ?_, ?_⟩
    all_goals simp [up2]
