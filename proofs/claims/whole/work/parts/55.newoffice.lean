/-! ===== a new office, once the reader has gone through ===== -/
set_option maxRecDepth 100000 in
set_option maxHeartbeats 20000000 in
theorem no_1 {n d h x : Nat} {I : mI} {L : mL} {R : Nat → Nat → Option Nat} {K : mK} (t : TY h = 2) (k : Wm n d 25 25 3 120 [some (vr (some h))] [vi 10, vr (some h)] ((up2 (up2 (up2 I h 0 8) h 1 18) h 2 10), L, R, x) K) : Wm n d 25 0 3 120 [some (vr (some h))] [] (I, L, R, x) K :=
  wpU_sound mCode_ok n [] [(25, 25)] 20 [] (fun v hv => by cases hv) _ _ _ _ _ _ _ _ K K (fun _ _ q => q) (chk_i (show Nat.beq (TY h) 2 = true by rw [t]; rfl) (chk_i (show Nat.beq (TY h) 2 = true by rw [t]; rfl) (chk_i (show Nat.beq (TY h) 2 = true by rw [t]; rfl) (k))))
set_option maxRecDepth 100000 in
set_option maxHeartbeats 20000000 in
theorem no_2 {n d h x : Nat} {I : mI} {L : mL} {R : Nat → Nat → Option Nat} {K : mK} (t : TY x = 100) (l : LN n x = 10) (k : Wm n d 25 27 2 110 [some (vr (some h))] [vr (some x), vr (some h)] (I, L, R, x + 1) K) : Wm n d 25 25 3 120 [some (vr (some h))] [vi 10, vr (some h)] (I, L, R, x) K :=
  wpU_sound mCode_ok n [] [(25, 27)] 3 [] (fun v hv => by cases hv) _ _ _ _ _ _ _ _ K K (fun _ _ q => q) (chk_i (show (Nat.beq (TY x) 100 && (Nat.ble (LN n x) 120 && Nat.ble (LN n x) 100000)) = true by rw [t, l]; rfl) (And.intro (show (10 : Int) = ((LN n x : Nat) : Int) by rw [l]; rfl) (show Wm n d 25 27 2 (120 - LN n x) [some (vr (some h))] [vr (some x), vr (some h)] (I, L, R, x + 1) K from (by rw [l]; exact k))))
set_option maxRecDepth 100000 in
set_option maxHeartbeats 20000000 in
theorem no_3 {n d h x : Nat} {I : mI} {L : mL} {R : Nat → Nat → Option Nat} {K : mK} (t : TY h = 2) (k : Wm n d 25 33 2 110 [some (vr (some h))] [vi 10, vr (some h)] (I, L, (up2R R h 3 (some x)), x + 1) K) : Wm n d 25 27 2 110 [some (vr (some h))] [vr (some x), vr (some h)] (I, L, R, x + 1) K :=
  wpU_sound mCode_ok n [] [(25, 33)] 20 [] (fun v hv => by cases hv) _ _ _ _ _ _ _ _ K K (fun _ _ q => q) (chk_i (show Nat.beq (TY h) 2 = true by rw [t]; rfl) (k))
set_option maxRecDepth 100000 in
set_option maxHeartbeats 20000000 in
theorem no_4 {n d h x : Nat} {I : mI} {L : mL} {R : Nat → Nat → Option Nat} {K : mK} (t : TY x = 100) (l : LN n x = 10) (k : Wm n d 25 35 1 100 [some (vr (some h))] [vr (some x), vr (some h)] (I, L, R, x + 1) K) : Wm n d 25 33 2 110 [some (vr (some h))] [vi 10, vr (some h)] (I, L, R, x) K :=
  wpU_sound mCode_ok n [] [(25, 35)] 3 [] (fun v hv => by cases hv) _ _ _ _ _ _ _ _ K K (fun _ _ q => q) (chk_i (show (Nat.beq (TY x) 100 && (Nat.ble (LN n x) 110 && Nat.ble (LN n x) 100000)) = true by rw [t, l]; rfl) (And.intro (show (10 : Int) = ((LN n x : Nat) : Int) by rw [l]; rfl) (show Wm n d 25 35 1 (110 - LN n x) [some (vr (some h))] [vr (some x), vr (some h)] (I, L, R, x + 1) K from (by rw [l]; exact k))))
set_option maxRecDepth 100000 in
set_option maxHeartbeats 20000000 in
theorem no_5 {n d h x : Nat} {I : mI} {L : mL} {R : Nat → Nat → Option Nat} {K : mK} (t : TY h = 2) (k : Wm n d 25 46 1 100 [some (vr (some h))] [vi 100, vr (some h)] ((up2 I h 5 0), L, (up2R R h 4 (some x)), x + 1) K) : Wm n d 25 35 1 100 [some (vr (some h))] [vr (some x), vr (some h)] (I, L, R, x + 1) K :=
  wpU_sound mCode_ok n [] [(25, 46)] 20 [] (fun v hv => by cases hv) _ _ _ _ _ _ _ _ K K (fun _ _ q => q) (chk_i (show Nat.beq (TY h) 2 = true by rw [t]; rfl) (chk_i (show Nat.beq (TY h) 2 = true by rw [t]; rfl) (k)))
set_option maxRecDepth 100000 in
set_option maxHeartbeats 20000000 in
theorem no_6 {n d h x : Nat} {I : mI} {L : mL} {R : Nat → Nat → Option Nat} {K : mK} (t : TY x = 100) (l : LN n x = 100) (k : Wm n d 25 48 0 0 [some (vr (some h))] [vr (some x), vr (some h)] (I, L, R, x + 1) K) : Wm n d 25 46 1 100 [some (vr (some h))] [vi 100, vr (some h)] (I, L, R, x) K :=
  wpU_sound mCode_ok n [] [(25, 48)] 3 [] (fun v hv => by cases hv) _ _ _ _ _ _ _ _ K K (fun _ _ q => q) (chk_i (show (Nat.beq (TY x) 100 && (Nat.ble (LN n x) 100 && Nat.ble (LN n x) 100000)) = true by rw [t, l]; rfl) (And.intro (show (100 : Int) = ((LN n x : Nat) : Int) by rw [l]; rfl) (show Wm n d 25 48 0 (100 - LN n x) [some (vr (some h))] [vr (some x), vr (some h)] (I, L, R, x + 1) K from (by rw [l]; exact k))))
set_option maxRecDepth 100000 in
set_option maxHeartbeats 20000000 in
theorem no_7 {n d h x : Nat} {I : mI} {L : mL} {R : Nat → Nat → Option Nat} {K : mK} (t : TY h = 2) (k : K none ((up2 I h 7 0), L, (up2R R h 6 (some x)), x + 1)) : Wm n d 25 48 0 0 [some (vr (some h))] [vr (some x), vr (some h)] (I, L, R, x + 1) K :=
  wpU_sound mCode_ok n [] [] 20 [] (fun v hv => by cases hv) _ _ _ _ _ _ _ _ K K (fun _ _ q => q) (chk_i (show Nat.beq (TY h) 2 = true by rw [t]; rfl) (chk_i (show Nat.beq (TY h) 2 = true by rw [t]; rfl) (k)))
theorem mk_Of {n d h : Nat} {I : mI} {L : mL} {R : Nat → Nat → Option Nat} {K : mK} (t : TY h = 2) (t1 : TY (h + 1) = 100) (t2 : TY (h + 2) = 100) (t3 : TY (h + 3) = 100) (l1 : LN n (h + 1) = 10) (l2 : LN n (h + 2) = 10) (l3 : LN n (h + 3) = 100) (k : K none (up2 (up2 (up2 (up2 (up2 I h 0 8) h 1 18) h 2 10) h 5 0) h 7 0, L, up2R (up2R (up2R R h 3 (some (h + 1))) h 4 (some (h + 2))) h 6 (some (h + 3)), h + 4)) : Cm n d 25 [vr (some h)] (I, L, R, h + 1) K := by
  refine no_1 t ?_
  refine no_2 t1 l1 ?_
  refine no_3 t ?_
  refine no_4 t2 l2 ?_
  refine no_5 t ?_
  refine no_6 t3 l3 ?_
  refine no_7 t ?_
  exact k
set_option maxRecDepth 100000 in
set_option maxHeartbeats 20000000 in
theorem ho_a {n d c x : Nat} {I : mI} {L : mL} {K : mK} (t : TY x = 2) (h : Cm n d 25 [vr (some x)] (I, L, Rs c, x + 1) (fun r H => rv r (Wm n (d + 1) 44 13 0 0 [some (vr (some 74)), some (vr (some (oH c)))] [vr (some x), vr (some 74)] H K))) : Cm n (d + 1) 44 [vr (some 74)] (I, L, Rs c, x) K :=
  wpU_sound mCode_ok n [] [(44, 13)] 20 [] (fun v hv => by cases hv) _ _ _ _ _ _ _ _ K K (fun _ _ q => q) (chk_i (show (Nat.beq (TY x) 2 && Nat.ble 8 128) = true by rw [t]; rfl) (chk_i (show Nat.beq (TY x) (mClsOf 25) = true by rw [t]; rfl) h))
set_option maxRecDepth 100000 in
set_option maxHeartbeats 20000000 in
theorem ho_b {n d a x y : Nat} {I : mI} {L : mL} {R : Nat → Nat → Option Nat} {K : mK} (h : K (some (vr (some a))) (I, L, up2R R 74 4 (some x), y)) : Wm n (d + 1) 44 13 0 0 [some (vr (some 74)), some (vr (some a))] [vr (some x), vr (some 74)] (I, L, R, y) K :=
  wpU_sound mCode_ok n [] [] 20 [] (fun v hv => by cases hv) _ _ _ _ _ _ _ _ K K (fun _ _ q => q) h
theorem x_handOver {n d c : Nat} (hc : c < 6) {I : mI} {L : mL} {K : mK} (h : K (some (vr (some (oH c)))) (up2 (up2 (up2 (up2 (up2 I (155 + 4 * c) 0 8) (155 + 4 * c) 1 18) (155 + 4 * c) 2 10) (155 + 4 * c) 5 0) (155 + 4 * c) 7 0, L, up2R (up2R (up2R (up2R (Rs c) (155 + 4 * c) 3 (some ((155 + 4 * c) + 1))) (155 + 4 * c) 4 (some ((155 + 4 * c) + 2))) (155 + 4 * c) 6 (some ((155 + 4 * c) + 3))) 74 4 (some (155 + 4 * c)), 155 + 4 * (c + 1))) : Cm n (d + 1) 44 [vr (some 74)] (hs I L c) K := by
  obtain ⟨o1, o2, o3, o4, o5, o6, o7, o8, o9, o10⟩ := oOk_j (n := n) (c := c + 1) (j := c + 1) (by omega) (Nat.le_refl _)
  refine ho_a (c := c) (x := 155 + 4 * c) o1 ?_
  refine mk_Of (h := 155 + 4 * c) o1 o5 o6 o7 o8 o9 o10 ?_
  rw [rv_no]
  refine ho_b ?_
  exact h
/-- the references behind a new office -/
theorem Rs_lo {c x j : Nat} (hx : x < 155) : Rs c x j = (if x = 73 then (if j < c then some (oH j) else none) else if x = 74 ∧ j = 4 then some (oH c) else (RTl.getD x []).getD j none) := by
  unfold Rs
  rw [show Nat.blt x 155 = true from Nat.blt_eq.mpr hx]
  dsimp only
  by_cases e : x = 73
  · rw [if_pos e, show Nat.beq x 73 = true from Nat.beq_eq.mpr e]
    dsimp only
    by_cases q : j < c
    · rw [if_pos q, show Nat.blt j c = true from Nat.blt_eq.mpr q]
    · rw [if_neg q, show Nat.blt j c = false from Bool.eq_false_iff.mpr (fun w => q (Nat.blt_eq.mp w))]
  · rw [if_neg e, show Nat.beq x 73 = false from Bool.eq_false_iff.mpr (fun w => e (Nat.beq_eq.mp w))]
    dsimp only
    by_cases q : x = 74 ∧ j = 4
    · rw [if_pos q, show Nat.beq x 74 = true from Nat.beq_eq.mpr q.1, show Nat.beq j 4 = true from Nat.beq_eq.mpr q.2]
      rfl
    · rw [if_neg q, show (Nat.beq x 74 && Nat.beq j 4) = false from Bool.eq_false_iff.mpr (fun w => q (by
        rw [Bool.and_eq_true] at w
        exact ⟨Nat.beq_eq.mp w.1, Nat.beq_eq.mp w.2⟩))]
theorem Rs_hi {c x j : Nat} (hx : 155 ≤ x) : Rs c x j = (if x < 155 + 4 * c ∧ (x - 155) % 4 = 0 then (if j = 3 then some (x + 1) else if j = 4 then some (x + 2) else if j = 6 then some (x + 3) else none) else none) := by
  unfold Rs
  rw [show Nat.blt x 155 = false from Bool.eq_false_iff.mpr (fun w => by have := Nat.blt_eq.mp w; omega)]
  dsimp only
  by_cases q : x < 155 + 4 * c ∧ (x - 155) % 4 = 0
  · rw [if_pos q, show Nat.blt x (155 + 4 * c) = true from Nat.blt_eq.mpr q.1, show Nat.beq ((x - 155) % 4) 0 = true from Nat.beq_eq.mpr q.2]
    rw [show (true && true) = true from rfl]
    dsimp only
    by_cases j3 : j = 3
    · rw [if_pos j3, j3]; rfl
    · rw [if_neg j3]
      by_cases j4 : j = 4
      · rw [if_pos j4, j4]; rfl
      · rw [if_neg j4]
        by_cases j6 : j = 6
        · rw [if_pos j6, j6]; rfl
        · rw [if_neg j6]
          split <;> first | rfl | (exfalso; omega)
  · rw [if_neg q, show (Nat.blt x (155 + 4 * c) && Nat.beq ((x - 155) % 4) 0) = false from Bool.eq_false_iff.mpr (fun w => q (by
      rw [Bool.and_eq_true] at w
      exact ⟨Nat.blt_eq.mp w.1, Nat.beq_eq.mp w.2⟩))]
theorem up2R_if {f : Nat → Nat → Option Nat} {a k x j : Nat} {v : Option Nat} : up2R f a k v x j = if x = a ∧ j = k then v else f x j := rfl
theorem Rs_new (c : Nat) : up2R (up2R (up2R (up2R (up2R (Rs c) (155 + 4 * c) 3 (some ((155 + 4 * c) + 1))) (155 + 4 * c) 4 (some ((155 + 4 * c) + 2))) (155 + 4 * c) 6 (some ((155 + 4 * c) + 3))) 74 4 (some (155 + 4 * c))) 73 c (some (oH c)) = Rs (c + 1) := by
  funext x j
  rw [up2R_if, up2R_if, up2R_if, up2R_if, up2R_if]
  by_cases hx : x < 155
  · rw [Rs_lo hx, Rs_lo hx]
    by_cases e : x = 73
    · rw [if_pos e, if_pos e]
      by_cases q : j = c
      · rw [if_pos ⟨e, q⟩, if_pos (by omega), q]
      · rw [if_neg (fun w => q w.2), if_neg (by omega), if_neg (by omega), if_neg (by omega), if_neg (by omega)]
        by_cases r : j < c
        · rw [if_pos r, if_pos (by omega)]
        · rw [if_neg r, if_neg (by omega)]
    · rw [if_neg (fun w => e w.1), if_neg e, if_neg e]
      by_cases q : x = 74 ∧ j = 4
      · rw [if_pos q, if_pos q]; rfl
      · rw [if_neg q, if_neg q, if_neg (by omega), if_neg (by omega), if_neg (by omega), if_neg q]
  · rw [Rs_hi (show 155 ≤ x by omega), Rs_hi (show 155 ≤ x by omega), if_neg (by omega), if_neg (by omega)]
    by_cases e : x = 155 + 4 * c
    · rw [if_pos (show x < 155 + 4 * (c + 1) ∧ (x - 155) % 4 = 0 by omega)]
      by_cases j6 : j = 6
      · rw [if_pos ⟨e, j6⟩, if_neg (by omega), if_neg (by omega), if_pos j6, e]
      · rw [if_neg (fun w => j6 w.2)]
        by_cases j4 : j = 4
        · rw [if_pos ⟨e, j4⟩, if_neg (by omega), if_pos j4, e]
        · rw [if_neg (fun w => j4 w.2)]
          by_cases j3 : j = 3
          · rw [if_pos ⟨e, j3⟩, if_pos j3, e]
          · rw [if_neg (fun w => j3 w.2), if_neg (by omega), if_neg j3, if_neg j4, if_neg j6]
    · rw [if_neg (fun w => e w.1), if_neg (fun w => e w.1), if_neg (fun w => e w.1)]
      by_cases q : x < 155 + 4 * c ∧ (x - 155) % 4 = 0
      · rw [if_pos q, if_pos (show x < 155 + 4 * (c + 1) ∧ (x - 155) % 4 = 0 by omega)]
      · rw [if_neg q, if_neg (show ¬ (x < 155 + 4 * (c + 1) ∧ (x - 155) % 4 = 0) by omega)]
set_option maxRecDepth 20000 in
theorem of_A {n d c : Nat} {I : mI} {L : mL} {K : mK} (h : if I 16 5 < 6 then (Cm n d 45 [vr (some 74)] (hs I L c) (fun r H => ri r (fun v => Wm n (d + 1) 74 19 4 128 [some (vr (some 16)), none] [vi v] H K))) else K (some (vi (-4))) (hs I L c)) : Cm n (d + 1) 74 [vr (some 16)] (hs I L c) K :=
  wpU_sound mCode_ok n [] [(74, 19)] 12 [] (fun v hv => by cases hv) _ _ _ _ _ _ _ _ K K (fun _ _ q => q) h
set_option maxRecDepth 20000 in
theorem of_B {n d c : Nat} {v : Int} {I : mI} {L : mL} {K : mK} (h : if v = 0 then K (some (vi (wr (-10 - (up2 I 74 1 0) 74 2)))) (hs (up2 I 74 1 0) L c) else Cm n d 44 [vr (some 74)] (hs (up2 I 74 1 0) L c) (fun r H => rr r (fun o => Wm n (d + 1) 74 58 0 0 [some (vr (some 16)), some (vi v)] [vr o, vi ((up2 I 74 1 0) 16 5), vr (some 73)] H K))) : Wm n (d + 1) 74 19 4 128 [some (vr (some 16)), none] [vi v] (hs I L c) K :=
  wpU_sound mCode_ok n [] [(74, 58)] 24 [] (fun v hv => by cases hv) _ _ _ _ _ _ _ _ K K (fun _ _ q => q) h
set_option maxRecDepth 20000 in
theorem of_C {n d a x : Nat} {v i : Int} {I : mI} {L : mL} {R : Nat → Nat → Option Nat} {K : mK} (ha : TY a = 2) (hi : 0 ≤ i ∧ i < 6) (h : Wm n (d + 1) 74 59 0 0 [some (vr (some 16)), some (vi v)] [] (I, L, up2R R 73 i.toNat (some a), x) K) : Wm n (d + 1) 74 58 0 0 [some (vr (some 16)), some (vi v)] [vr (some a), vi i, vr (some 73)] (I, L, R, x) K :=
  wpU_sound mCode_ok n [] [(74, 59)] 3 [] (fun v hv => by cases hv) _ _ _ _ _ _ _ _ K K (fun _ _ q => q) (chk_i (show (Nat.beq (TY 73) (TY a + 110) && Nat.blt (TY a) 20) = true by rw [ha]; rfl) (And.intro hi h))
set_option maxRecDepth 20000 in
set_option maxHeartbeats 2000000 in
theorem of_D {n d : Nat} {l1 : Int} {I : mI} {L : mL} {c : Nat} {K : mK2} (h : K (some (vi ((up2 (up2 I 17 4 (I 16 5)) 16 5 (wr (((up2 I 17 4 (I 16 5)) 16 5) + 1))) 17 4))) (up2 (up2 I 17 4 (I 16 5)) 16 5 (wr (((up2 I 17 4 (I 16 5)) 16 5) + 1))) L c) : W2 n (d + 1) 74 59 [some (vr (some 16)), some (vi l1)] [] I L c K :=
  vc_W [31, 32, 57, 105, 106, 107, 108, 109, 110] [] 16 (by decide +kernel) h
