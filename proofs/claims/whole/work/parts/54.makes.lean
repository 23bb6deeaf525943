/-! ===== the constructors ===== -/
theorem rw_6 (I : mI) (h : Nat) : wr ((up2 I h 0 6) h 0 * 4) = 24 := by rw [up2_same]; exact wri (by decide)
theorem rw_10 (I : mI) (h : Nat) : wr ((up2 I h 0 10) h 0 * 4) = 40 := by rw [up2_same]; exact wri (by decide)
theorem rw_8 (I : mI) (h : Nat) : wr ((up2 I h 0 8) h 0 * 4) = 32 := by rw [up2_same]; exact wri (by decide)
set_option maxRecDepth 100000 in
set_option maxHeartbeats 20000000 in
theorem mk_W19_1 {n d : Nat} {I : mI} {L : mL} {R : Nat → Nat → Option Nat} {K : mK} (h : K none ((up2 (up2 I 19 2 0) 19 0 6), L, (up2R R 19 1 (some 20)), 21)) : Wm n d 56 0 1 40 [some (vr (some 19)), some (vi 6)] [] (I, L, R, 20) K :=
  wpU_sound mCode_ok n [] [] 23 [] (fun v hv => by cases hv) _ _ _ _ _ _ _ _ K K (fun _ _ q => q) (And.intro (rw_6 (up2 I 19 2 0) 19) (h))
theorem mk_W19 {n d : Nat} {I : mI} {L : mL} {R : Nat → Nat → Option Nat} {K : mK} (h : K none ((up2 (up2 I 19 2 0) 19 0 6), L, (up2R R 19 1 (some 20)), 21)) : Cm n d 56 [vr (some 19), vi 6] (I, L, R, 20) K := by
  refine mk_W19_1 ?_
  exact h
set_option maxRecDepth 100000 in
set_option maxHeartbeats 20000000 in
theorem mk_W21_1 {n d : Nat} {I : mI} {L : mL} {R : Nat → Nat → Option Nat} {K : mK} (h : K none ((up2 (up2 I 21 2 0) 21 0 10), L, (up2R R 21 1 (some 22)), 23)) : Wm n d 56 0 1 40 [some (vr (some 21)), some (vi 10)] [] (I, L, R, 22) K :=
  wpU_sound mCode_ok n [] [] 23 [] (fun v hv => by cases hv) _ _ _ _ _ _ _ _ K K (fun _ _ q => q) (And.intro (rw_10 (up2 I 21 2 0) 21) (h))
theorem mk_W21 {n d : Nat} {I : mI} {L : mL} {R : Nat → Nat → Option Nat} {K : mK} (h : K none ((up2 (up2 I 21 2 0) 21 0 10), L, (up2R R 21 1 (some 22)), 23)) : Cm n d 56 [vr (some 21), vi 10] (I, L, R, 22) K := by
  refine mk_W21_1 ?_
  exact h
set_option maxRecDepth 100000 in
set_option maxHeartbeats 20000000 in
theorem mk_W23_1 {n d : Nat} {I : mI} {L : mL} {R : Nat → Nat → Option Nat} {K : mK} (h : K none ((up2 (up2 I 23 2 0) 23 0 8), L, (up2R R 23 1 (some 24)), 25)) : Wm n d 56 0 1 40 [some (vr (some 23)), some (vi 8)] [] (I, L, R, 24) K :=
  wpU_sound mCode_ok n [] [] 23 [] (fun v hv => by cases hv) _ _ _ _ _ _ _ _ K K (fun _ _ q => q) (And.intro (rw_8 (up2 I 23 2 0) 23) (h))
theorem mk_W23 {n d : Nat} {I : mI} {L : mL} {R : Nat → Nat → Option Nat} {K : mK} (h : K none ((up2 (up2 I 23 2 0) 23 0 8), L, (up2R R 23 1 (some 24)), 25)) : Cm n d 56 [vr (some 23), vi 8] (I, L, R, 24) K := by
  refine mk_W23_1 ?_
  exact h
set_option maxRecDepth 100000 in
set_option maxHeartbeats 20000000 in
theorem mk_P25_1 {n d : Nat} {I : mI} {L : mL} {R : Nat → Nat → Option Nat} {K : mK} (h : Wm n d 39 16 0 0 [some (vr (some 25))] [vr (some 27), vr (some 25)] (I, L, (up2R R 25 5 (some 26)), 28) K) : Wm n d 39 0 2 10 [some (vr (some 25))] [] (I, L, R, 26) K :=
  wpU_sound mCode_ok n [] [(39, 16)] 14 [] (fun v hv => by cases hv) _ _ _ _ _ _ _ _ K K (fun _ _ q => q) (And.intro rfl (And.intro rfl (h)))
set_option maxRecDepth 100000 in
set_option maxHeartbeats 20000000 in
theorem mk_P25_2 {n d : Nat} {I : mI} {L : mL} {R : Nat → Nat → Option Nat} {K : mK} (h : K none (I, L, (up2R R 25 6 (some 27)), 28)) : Wm n d 39 16 0 0 [some (vr (some 25))] [vr (some 27), vr (some 25)] (I, L, R, 28) K :=
  wpU_sound mCode_ok n [] [] 7 [] (fun v hv => by cases hv) _ _ _ _ _ _ _ _ K K (fun _ _ q => q) (h)
theorem mk_P25 {n d : Nat} {I : mI} {L : mL} {R : Nat → Nat → Option Nat} {K : mK} (h : K none (I, L, (up2R (up2R R 25 5 (some 26)) 25 6 (some 27)), 28)) : Cm n d 39 [vr (some 25)] (I, L, R, 26) K := by
  refine mk_P25_1 ?_
  refine mk_P25_2 ?_
  exact h
set_option maxRecDepth 100000 in
set_option maxHeartbeats 20000000 in
theorem mk_P28_1 {n d : Nat} {I : mI} {L : mL} {R : Nat → Nat → Option Nat} {K : mK} (h : Wm n d 39 16 0 0 [some (vr (some 28))] [vr (some 30), vr (some 28)] (I, L, (up2R R 28 5 (some 29)), 31) K) : Wm n d 39 0 2 10 [some (vr (some 28))] [] (I, L, R, 29) K :=
  wpU_sound mCode_ok n [] [(39, 16)] 14 [] (fun v hv => by cases hv) _ _ _ _ _ _ _ _ K K (fun _ _ q => q) (And.intro rfl (And.intro rfl (h)))
set_option maxRecDepth 100000 in
set_option maxHeartbeats 20000000 in
theorem mk_P28_2 {n d : Nat} {I : mI} {L : mL} {R : Nat → Nat → Option Nat} {K : mK} (h : K none (I, L, (up2R R 28 6 (some 30)), 31)) : Wm n d 39 16 0 0 [some (vr (some 28))] [vr (some 30), vr (some 28)] (I, L, R, 31) K :=
  wpU_sound mCode_ok n [] [] 7 [] (fun v hv => by cases hv) _ _ _ _ _ _ _ _ K K (fun _ _ q => q) (h)
theorem mk_P28 {n d : Nat} {I : mI} {L : mL} {R : Nat → Nat → Option Nat} {K : mK} (h : K none (I, L, (up2R (up2R R 28 5 (some 29)) 28 6 (some 30)), 31)) : Cm n d 39 [vr (some 28)] (I, L, R, 29) K := by
  refine mk_P28_1 ?_
  refine mk_P28_2 ?_
  exact h
set_option maxRecDepth 100000 in
set_option maxHeartbeats 20000000 in
theorem mk_P31_1 {n d : Nat} {I : mI} {L : mL} {R : Nat → Nat → Option Nat} {K : mK} (h : Wm n d 39 16 0 0 [some (vr (some 31))] [vr (some 33), vr (some 31)] (I, L, (up2R R 31 5 (some 32)), 34) K) : Wm n d 39 0 2 10 [some (vr (some 31))] [] (I, L, R, 32) K :=
  wpU_sound mCode_ok n [] [(39, 16)] 14 [] (fun v hv => by cases hv) _ _ _ _ _ _ _ _ K K (fun _ _ q => q) (And.intro rfl (And.intro rfl (h)))
set_option maxRecDepth 100000 in
set_option maxHeartbeats 20000000 in
theorem mk_P31_2 {n d : Nat} {I : mI} {L : mL} {R : Nat → Nat → Option Nat} {K : mK} (h : K none (I, L, (up2R R 31 6 (some 33)), 34)) : Wm n d 39 16 0 0 [some (vr (some 31))] [vr (some 33), vr (some 31)] (I, L, R, 34) K :=
  wpU_sound mCode_ok n [] [] 7 [] (fun v hv => by cases hv) _ _ _ _ _ _ _ _ K K (fun _ _ q => q) (h)
theorem mk_P31 {n d : Nat} {I : mI} {L : mL} {R : Nat → Nat → Option Nat} {K : mK} (h : K none (I, L, (up2R (up2R R 31 5 (some 32)) 31 6 (some 33)), 34)) : Cm n d 39 [vr (some 31)] (I, L, R, 32) K := by
  refine mk_P31_1 ?_
  refine mk_P31_2 ?_
  exact h
set_option maxRecDepth 100000 in
set_option maxHeartbeats 20000000 in
theorem mk_P34_1 {n d : Nat} {I : mI} {L : mL} {R : Nat → Nat → Option Nat} {K : mK} (h : Wm n d 39 16 0 0 [some (vr (some 34))] [vr (some 36), vr (some 34)] (I, L, (up2R R 34 5 (some 35)), 37) K) : Wm n d 39 0 2 10 [some (vr (some 34))] [] (I, L, R, 35) K :=
  wpU_sound mCode_ok n [] [(39, 16)] 14 [] (fun v hv => by cases hv) _ _ _ _ _ _ _ _ K K (fun _ _ q => q) (And.intro rfl (And.intro rfl (h)))
set_option maxRecDepth 100000 in
set_option maxHeartbeats 20000000 in
theorem mk_P34_2 {n d : Nat} {I : mI} {L : mL} {R : Nat → Nat → Option Nat} {K : mK} (h : K none (I, L, (up2R R 34 6 (some 36)), 37)) : Wm n d 39 16 0 0 [some (vr (some 34))] [vr (some 36), vr (some 34)] (I, L, R, 37) K :=
  wpU_sound mCode_ok n [] [] 7 [] (fun v hv => by cases hv) _ _ _ _ _ _ _ _ K K (fun _ _ q => q) (h)
theorem mk_P34 {n d : Nat} {I : mI} {L : mL} {R : Nat → Nat → Option Nat} {K : mK} (h : K none (I, L, (up2R (up2R R 34 5 (some 35)) 34 6 (some 36)), 37)) : Cm n d 39 [vr (some 34)] (I, L, R, 35) K := by
  refine mk_P34_1 ?_
  refine mk_P34_2 ?_
  exact h
set_option maxRecDepth 100000 in
set_option maxHeartbeats 20000000 in
theorem mk_P37_1 {n d : Nat} {I : mI} {L : mL} {R : Nat → Nat → Option Nat} {K : mK} (h : Wm n d 39 16 0 0 [some (vr (some 37))] [vr (some 39), vr (some 37)] (I, L, (up2R R 37 5 (some 38)), 40) K) : Wm n d 39 0 2 10 [some (vr (some 37))] [] (I, L, R, 38) K :=
  wpU_sound mCode_ok n [] [(39, 16)] 14 [] (fun v hv => by cases hv) _ _ _ _ _ _ _ _ K K (fun _ _ q => q) (And.intro rfl (And.intro rfl (h)))
set_option maxRecDepth 100000 in
set_option maxHeartbeats 20000000 in
theorem mk_P37_2 {n d : Nat} {I : mI} {L : mL} {R : Nat → Nat → Option Nat} {K : mK} (h : K none (I, L, (up2R R 37 6 (some 39)), 40)) : Wm n d 39 16 0 0 [some (vr (some 37))] [vr (some 39), vr (some 37)] (I, L, R, 40) K :=
  wpU_sound mCode_ok n [] [] 7 [] (fun v hv => by cases hv) _ _ _ _ _ _ _ _ K K (fun _ _ q => q) (h)
theorem mk_P37 {n d : Nat} {I : mI} {L : mL} {R : Nat → Nat → Option Nat} {K : mK} (h : K none (I, L, (up2R (up2R R 37 5 (some 38)) 37 6 (some 39)), 40)) : Cm n d 39 [vr (some 37)] (I, L, R, 38) K := by
  refine mk_P37_1 ?_
  refine mk_P37_2 ?_
  exact h
set_option maxRecDepth 100000 in
set_option maxHeartbeats 20000000 in
theorem mk_P40_1 {n d : Nat} {I : mI} {L : mL} {R : Nat → Nat → Option Nat} {K : mK} (h : Wm n d 39 16 0 0 [some (vr (some 40))] [vr (some 42), vr (some 40)] (I, L, (up2R R 40 5 (some 41)), 43) K) : Wm n d 39 0 2 10 [some (vr (some 40))] [] (I, L, R, 41) K :=
  wpU_sound mCode_ok n [] [(39, 16)] 14 [] (fun v hv => by cases hv) _ _ _ _ _ _ _ _ K K (fun _ _ q => q) (And.intro rfl (And.intro rfl (h)))
set_option maxRecDepth 100000 in
set_option maxHeartbeats 20000000 in
theorem mk_P40_2 {n d : Nat} {I : mI} {L : mL} {R : Nat → Nat → Option Nat} {K : mK} (h : K none (I, L, (up2R R 40 6 (some 42)), 43)) : Wm n d 39 16 0 0 [some (vr (some 40))] [vr (some 42), vr (some 40)] (I, L, R, 43) K :=
  wpU_sound mCode_ok n [] [] 7 [] (fun v hv => by cases hv) _ _ _ _ _ _ _ _ K K (fun _ _ q => q) (h)
theorem mk_P40 {n d : Nat} {I : mI} {L : mL} {R : Nat → Nat → Option Nat} {K : mK} (h : K none (I, L, (up2R (up2R R 40 5 (some 41)) 40 6 (some 42)), 43)) : Cm n d 39 [vr (some 40)] (I, L, R, 41) K := by
  refine mk_P40_1 ?_
  refine mk_P40_2 ?_
  exact h
set_option maxRecDepth 100000 in
set_option maxHeartbeats 20000000 in
theorem mk_T17_1 {n d : Nat} {I : mI} {L : mL} {R : Nat → Nat → Option Nat} {K : mK} (h : Wm n (d + 1) 64 24 24 231 [some (vr (some 17)), none] [] ((up2 (up2 I 17 1 0) 17 2 12), L, (up2R R 17 0 (some 18)), 19) K) : Wm n (d + 1) 64 0 25 237 [some (vr (some 17)), none] [] (I, L, R, 18) K :=
  wpU_sound mCode_ok n [] [(64, 24)] 17 [] (fun v hv => by cases hv) _ _ _ _ _ _ _ _ K K (fun _ _ q => q) (And.intro rfl (h))
set_option maxRecDepth 100000 in
set_option maxHeartbeats 20000000 in
theorem mk_T17_2 {n d : Nat} {I : mI} {L : mL} {R : Nat → Nat → Option Nat} {K : mK} (h : Wm n (d + 1) 64 41 23 228 [some (vr (some 17)), none] [vi 6, vr (some 19), vr (some 19), vr (some 17)] ((up2 (up2 I 17 3 0) 17 4 (-1)), L, R, 20) K) : Wm n (d + 1) 64 24 24 231 [some (vr (some 17)), none] [] (I, L, R, 19) K :=
  wpU_sound mCode_ok n [] [(64, 41)] 15 [] (fun v hv => by cases hv) _ _ _ _ _ _ _ _ K K (fun _ _ q => q) (h)
set_option maxRecDepth 100000 in
set_option maxHeartbeats 20000000 in
theorem mk_T17_3 {n d : Nat} {I : mI} {L : mL} {R : Nat → Nat → Option Nat} {K : mK} (h : Cm n d 56 [vr (some 19), vi 6] (I, L, R, 20) (fun r H => rv r (Wm n (d + 1) 64 44 22 188 [some (vr (some 17)), none] [vr (some 19), vr (some 17)] H K))) : Wm n (d + 1) 64 41 23 228 [some (vr (some 17)), none] [vi 6, vr (some 19), vr (some 19), vr (some 17)] (I, L, R, 20) K :=
  wpU_sound mCode_ok n [] [(64, 44)] 3 [] (fun v hv => by cases hv) _ _ _ _ _ _ _ _ K K (fun _ _ q => q) h
set_option maxRecDepth 100000 in
set_option maxHeartbeats 20000000 in
theorem mk_T17_4 {n d : Nat} {I : mI} {L : mL} {R : Nat → Nat → Option Nat} {K : mK} (h : Wm n (d + 1) 64 54 21 185 [some (vr (some 17)), none] [vi 10, vr (some 21), vr (some 21), vr (some 17)] (I, L, (up2R R 17 5 (some 19)), 22) K) : Wm n (d + 1) 64 44 22 188 [some (vr (some 17)), none] [vr (some 19), vr (some 17)] (I, L, R, 21) K :=
  wpU_sound mCode_ok n [] [(64, 54)] 10 [] (fun v hv => by cases hv) _ _ _ _ _ _ _ _ K K (fun _ _ q => q) (h)
set_option maxRecDepth 100000 in
set_option maxHeartbeats 20000000 in
theorem mk_T17_5 {n d : Nat} {I : mI} {L : mL} {R : Nat → Nat → Option Nat} {K : mK} (h : Cm n d 56 [vr (some 21), vi 10] (I, L, R, 22) (fun r H => rv r (Wm n (d + 1) 64 57 20 145 [some (vr (some 17)), none] [vr (some 21), vr (some 17)] H K))) : Wm n (d + 1) 64 54 21 185 [some (vr (some 17)), none] [vi 10, vr (some 21), vr (some 21), vr (some 17)] (I, L, R, 22) K :=
  wpU_sound mCode_ok n [] [(64, 57)] 3 [] (fun v hv => by cases hv) _ _ _ _ _ _ _ _ K K (fun _ _ q => q) h
set_option maxRecDepth 100000 in
set_option maxHeartbeats 20000000 in
theorem mk_T17_6 {n d : Nat} {I : mI} {L : mL} {R : Nat → Nat → Option Nat} {K : mK} (h : Wm n (d + 1) 64 67 19 142 [some (vr (some 17)), none] [vi 8, vr (some 23), vr (some 23), vr (some 17)] (I, L, (up2R R 17 6 (some 21)), 24) K) : Wm n (d + 1) 64 57 20 145 [some (vr (some 17)), none] [vr (some 21), vr (some 17)] (I, L, R, 23) K :=
  wpU_sound mCode_ok n [] [(64, 67)] 10 [] (fun v hv => by cases hv) _ _ _ _ _ _ _ _ K K (fun _ _ q => q) (h)
set_option maxRecDepth 100000 in
set_option maxHeartbeats 20000000 in
theorem mk_T17_7 {n d : Nat} {I : mI} {L : mL} {R : Nat → Nat → Option Nat} {K : mK} (h : Cm n d 56 [vr (some 23), vi 8] (I, L, R, 24) (fun r H => rv r (Wm n (d + 1) 64 70 18 102 [some (vr (some 17)), none] [vr (some 23), vr (some 17)] H K))) : Wm n (d + 1) 64 67 19 142 [some (vr (some 17)), none] [vi 8, vr (some 23), vr (some 23), vr (some 17)] (I, L, R, 24) K :=
  wpU_sound mCode_ok n [] [(64, 70)] 3 [] (fun v hv => by cases hv) _ _ _ _ _ _ _ _ K K (fun _ _ q => q) h
set_option maxRecDepth 100000 in
set_option maxHeartbeats 20000000 in
theorem mk_T17_8 {n d : Nat} {I : mI} {L : mL} {R : Nat → Nat → Option Nat} {K : mK} (h : Wm n (d + 1) 64 75 18 102 [some (vr (some 17)), some (vi 0)] [] (I, L, (up2R R 17 7 (some 23)), 25) K) : Wm n (d + 1) 64 70 18 102 [some (vr (some 17)), none] [vr (some 23), vr (some 17)] (I, L, R, 25) K :=
  wpU_sound mCode_ok n [] [(64, 75)] 8 [] (fun v hv => by cases hv) _ _ _ _ _ _ _ _ K K (fun _ _ q => q) (h)
set_option maxRecDepth 100000 in
set_option maxHeartbeats 20000000 in
theorem mk_T17_9 {n d : Nat} {I : mI} {L : mL} {R : Nat → Nat → Option Nat} {K : mK} (e0 : R 17 0 = some 18) (h : Wm n (d + 1) 64 90 17 95 [some (vr (some 17)), some (vi 0)] [vr (some 25), vr (some 25), vi 0, vr (some 18)] (I, L, R, 26) K) : Wm n (d + 1) 64 75 18 102 [some (vr (some 17)), some (vi 0)] [] (I, L, R, 25) K :=
  wpU_sound mCode_ok n [] [(64, 90)] 13 [] (fun v hv => by cases hv) _ _ _ _ _ _ _ _ K K (fun _ _ q => q) (show Wm n (d + 1) 64 90 17 95 [some (vr (some 17)), some (vi 0)] [vr (some 25), vr (some 25), vi 0, vr (R 17 0)] (I, L, R, 26) K from (by rw [e0]; exact h))
set_option maxRecDepth 100000 in
set_option maxHeartbeats 20000000 in
theorem mk_T17_10 {n d : Nat} {I : mI} {L : mL} {R : Nat → Nat → Option Nat} {K : mK} (h : Cm n d 39 [vr (some 25)] (I, L, R, 26) (fun r H => rv r (Wm n (d + 1) 64 93 15 85 [some (vr (some 17)), some (vi 0)] [vr (some 25), vi 0, vr (some 18)] H K))) : Wm n (d + 1) 64 90 17 95 [some (vr (some 17)), some (vi 0)] [vr (some 25), vr (some 25), vi 0, vr (some 18)] (I, L, R, 26) K :=
  wpU_sound mCode_ok n [] [(64, 93)] 3 [] (fun v hv => by cases hv) _ _ _ _ _ _ _ _ K K (fun _ _ q => q) h
set_option maxRecDepth 100000 in
set_option maxHeartbeats 20000000 in
theorem mk_T17_11 {n d : Nat} {I : mI} {L : mL} {R : Nat → Nat → Option Nat} {K : mK} (h : Wm n (d + 1) 64 97 15 85 [some (vr (some 17)), some (vi (wr (0 + 1)))] [] (I, L, (up2R R 18 0 (some 25)), 28) K) : Wm n (d + 1) 64 93 15 85 [some (vr (some 17)), some (vi 0)] [vr (some 25), vi 0, vr (some 18)] (I, L, R, 28) K :=
  wpU_sound mCode_ok n [] [(64, 97)] 7 [] (fun v hv => by cases hv) _ _ _ _ _ _ _ _ K K (fun _ _ q => q) (And.intro (show (0 : Int) ≤ 0 ∧ (0 : Int) < 6 from ⟨by decide, by decide⟩) (h))
set_option maxRecDepth 100000 in
set_option maxHeartbeats 20000000 in
theorem mk_T17_12 {n d : Nat} {I : mI} {L : mL} {R : Nat → Nat → Option Nat} {K : mK} (h : Wm n (d + 1) 64 75 15 85 [some (vr (some 17)), some (vi 1)] [] (I, L, R, 28) K) : Wm n (d + 1) 64 97 15 85 [some (vr (some 17)), some (vi 1)] [] (I, L, R, 28) K :=
  wpU_sound mCode_ok n [] [(64, 75)] 6 [] (fun v hv => by cases hv) _ _ _ _ _ _ _ _ K K (fun _ _ q => q) (h)
set_option maxRecDepth 100000 in
set_option maxHeartbeats 20000000 in
theorem mk_T17_13 {n d : Nat} {I : mI} {L : mL} {R : Nat → Nat → Option Nat} {K : mK} (e0 : R 17 0 = some 18) (h : Wm n (d + 1) 64 90 14 78 [some (vr (some 17)), some (vi 1)] [vr (some 28), vr (some 28), vi 1, vr (some 18)] (I, L, R, 29) K) : Wm n (d + 1) 64 75 15 85 [some (vr (some 17)), some (vi 1)] [] (I, L, R, 28) K :=
  wpU_sound mCode_ok n [] [(64, 90)] 13 [] (fun v hv => by cases hv) _ _ _ _ _ _ _ _ K K (fun _ _ q => q) (show Wm n (d + 1) 64 90 14 78 [some (vr (some 17)), some (vi 1)] [vr (some 28), vr (some 28), vi 1, vr (R 17 0)] (I, L, R, 29) K from (by rw [e0]; exact h))
set_option maxRecDepth 100000 in
set_option maxHeartbeats 20000000 in
theorem mk_T17_14 {n d : Nat} {I : mI} {L : mL} {R : Nat → Nat → Option Nat} {K : mK} (h : Cm n d 39 [vr (some 28)] (I, L, R, 29) (fun r H => rv r (Wm n (d + 1) 64 93 12 68 [some (vr (some 17)), some (vi 1)] [vr (some 28), vi 1, vr (some 18)] H K))) : Wm n (d + 1) 64 90 14 78 [some (vr (some 17)), some (vi 1)] [vr (some 28), vr (some 28), vi 1, vr (some 18)] (I, L, R, 29) K :=
  wpU_sound mCode_ok n [] [(64, 93)] 3 [] (fun v hv => by cases hv) _ _ _ _ _ _ _ _ K K (fun _ _ q => q) h
set_option maxRecDepth 100000 in
set_option maxHeartbeats 20000000 in
theorem mk_T17_15 {n d : Nat} {I : mI} {L : mL} {R : Nat → Nat → Option Nat} {K : mK} (h : Wm n (d + 1) 64 97 12 68 [some (vr (some 17)), some (vi (wr (1 + 1)))] [] (I, L, (up2R R 18 1 (some 28)), 31) K) : Wm n (d + 1) 64 93 12 68 [some (vr (some 17)), some (vi 1)] [vr (some 28), vi 1, vr (some 18)] (I, L, R, 31) K :=
  wpU_sound mCode_ok n [] [(64, 97)] 7 [] (fun v hv => by cases hv) _ _ _ _ _ _ _ _ K K (fun _ _ q => q) (And.intro (show (0 : Int) ≤ 1 ∧ (1 : Int) < 6 from ⟨by decide, by decide⟩) (h))
set_option maxRecDepth 100000 in
set_option maxHeartbeats 20000000 in
theorem mk_T17_16 {n d : Nat} {I : mI} {L : mL} {R : Nat → Nat → Option Nat} {K : mK} (h : Wm n (d + 1) 64 75 12 68 [some (vr (some 17)), some (vi 2)] [] (I, L, R, 31) K) : Wm n (d + 1) 64 97 12 68 [some (vr (some 17)), some (vi 2)] [] (I, L, R, 31) K :=
  wpU_sound mCode_ok n [] [(64, 75)] 6 [] (fun v hv => by cases hv) _ _ _ _ _ _ _ _ K K (fun _ _ q => q) (h)
set_option maxRecDepth 100000 in
set_option maxHeartbeats 20000000 in
theorem mk_T17_17 {n d : Nat} {I : mI} {L : mL} {R : Nat → Nat → Option Nat} {K : mK} (e0 : R 17 0 = some 18) (h : Wm n (d + 1) 64 90 11 61 [some (vr (some 17)), some (vi 2)] [vr (some 31), vr (some 31), vi 2, vr (some 18)] (I, L, R, 32) K) : Wm n (d + 1) 64 75 12 68 [some (vr (some 17)), some (vi 2)] [] (I, L, R, 31) K :=
  wpU_sound mCode_ok n [] [(64, 90)] 13 [] (fun v hv => by cases hv) _ _ _ _ _ _ _ _ K K (fun _ _ q => q) (show Wm n (d + 1) 64 90 11 61 [some (vr (some 17)), some (vi 2)] [vr (some 31), vr (some 31), vi 2, vr (R 17 0)] (I, L, R, 32) K from (by rw [e0]; exact h))
set_option maxRecDepth 100000 in
set_option maxHeartbeats 20000000 in
theorem mk_T17_18 {n d : Nat} {I : mI} {L : mL} {R : Nat → Nat → Option Nat} {K : mK} (h : Cm n d 39 [vr (some 31)] (I, L, R, 32) (fun r H => rv r (Wm n (d + 1) 64 93 9 51 [some (vr (some 17)), some (vi 2)] [vr (some 31), vi 2, vr (some 18)] H K))) : Wm n (d + 1) 64 90 11 61 [some (vr (some 17)), some (vi 2)] [vr (some 31), vr (some 31), vi 2, vr (some 18)] (I, L, R, 32) K :=
  wpU_sound mCode_ok n [] [(64, 93)] 3 [] (fun v hv => by cases hv) _ _ _ _ _ _ _ _ K K (fun _ _ q => q) h
set_option maxRecDepth 100000 in
set_option maxHeartbeats 20000000 in
theorem mk_T17_19 {n d : Nat} {I : mI} {L : mL} {R : Nat → Nat → Option Nat} {K : mK} (h : Wm n (d + 1) 64 97 9 51 [some (vr (some 17)), some (vi (wr (2 + 1)))] [] (I, L, (up2R R 18 2 (some 31)), 34) K) : Wm n (d + 1) 64 93 9 51 [some (vr (some 17)), some (vi 2)] [vr (some 31), vi 2, vr (some 18)] (I, L, R, 34) K :=
  wpU_sound mCode_ok n [] [(64, 97)] 7 [] (fun v hv => by cases hv) _ _ _ _ _ _ _ _ K K (fun _ _ q => q) (And.intro (show (0 : Int) ≤ 2 ∧ (2 : Int) < 6 from ⟨by decide, by decide⟩) (h))
set_option maxRecDepth 100000 in
set_option maxHeartbeats 20000000 in
theorem mk_T17_20 {n d : Nat} {I : mI} {L : mL} {R : Nat → Nat → Option Nat} {K : mK} (h : Wm n (d + 1) 64 75 9 51 [some (vr (some 17)), some (vi 3)] [] (I, L, R, 34) K) : Wm n (d + 1) 64 97 9 51 [some (vr (some 17)), some (vi 3)] [] (I, L, R, 34) K :=
  wpU_sound mCode_ok n [] [(64, 75)] 6 [] (fun v hv => by cases hv) _ _ _ _ _ _ _ _ K K (fun _ _ q => q) (h)
set_option maxRecDepth 100000 in
set_option maxHeartbeats 20000000 in
theorem mk_T17_21 {n d : Nat} {I : mI} {L : mL} {R : Nat → Nat → Option Nat} {K : mK} (e0 : R 17 0 = some 18) (h : Wm n (d + 1) 64 90 8 44 [some (vr (some 17)), some (vi 3)] [vr (some 34), vr (some 34), vi 3, vr (some 18)] (I, L, R, 35) K) : Wm n (d + 1) 64 75 9 51 [some (vr (some 17)), some (vi 3)] [] (I, L, R, 34) K :=
  wpU_sound mCode_ok n [] [(64, 90)] 13 [] (fun v hv => by cases hv) _ _ _ _ _ _ _ _ K K (fun _ _ q => q) (show Wm n (d + 1) 64 90 8 44 [some (vr (some 17)), some (vi 3)] [vr (some 34), vr (some 34), vi 3, vr (R 17 0)] (I, L, R, 35) K from (by rw [e0]; exact h))
set_option maxRecDepth 100000 in
set_option maxHeartbeats 20000000 in
theorem mk_T17_22 {n d : Nat} {I : mI} {L : mL} {R : Nat → Nat → Option Nat} {K : mK} (h : Cm n d 39 [vr (some 34)] (I, L, R, 35) (fun r H => rv r (Wm n (d + 1) 64 93 6 34 [some (vr (some 17)), some (vi 3)] [vr (some 34), vi 3, vr (some 18)] H K))) : Wm n (d + 1) 64 90 8 44 [some (vr (some 17)), some (vi 3)] [vr (some 34), vr (some 34), vi 3, vr (some 18)] (I, L, R, 35) K :=
  wpU_sound mCode_ok n [] [(64, 93)] 3 [] (fun v hv => by cases hv) _ _ _ _ _ _ _ _ K K (fun _ _ q => q) h
set_option maxRecDepth 100000 in
set_option maxHeartbeats 20000000 in
theorem mk_T17_23 {n d : Nat} {I : mI} {L : mL} {R : Nat → Nat → Option Nat} {K : mK} (h : Wm n (d + 1) 64 97 6 34 [some (vr (some 17)), some (vi (wr (3 + 1)))] [] (I, L, (up2R R 18 3 (some 34)), 37) K) : Wm n (d + 1) 64 93 6 34 [some (vr (some 17)), some (vi 3)] [vr (some 34), vi 3, vr (some 18)] (I, L, R, 37) K :=
  wpU_sound mCode_ok n [] [(64, 97)] 7 [] (fun v hv => by cases hv) _ _ _ _ _ _ _ _ K K (fun _ _ q => q) (And.intro (show (0 : Int) ≤ 3 ∧ (3 : Int) < 6 from ⟨by decide, by decide⟩) (h))
set_option maxRecDepth 100000 in
set_option maxHeartbeats 20000000 in
theorem mk_T17_24 {n d : Nat} {I : mI} {L : mL} {R : Nat → Nat → Option Nat} {K : mK} (h : Wm n (d + 1) 64 75 6 34 [some (vr (some 17)), some (vi 4)] [] (I, L, R, 37) K) : Wm n (d + 1) 64 97 6 34 [some (vr (some 17)), some (vi 4)] [] (I, L, R, 37) K :=
  wpU_sound mCode_ok n [] [(64, 75)] 6 [] (fun v hv => by cases hv) _ _ _ _ _ _ _ _ K K (fun _ _ q => q) (h)
set_option maxRecDepth 100000 in
set_option maxHeartbeats 20000000 in
theorem mk_T17_25 {n d : Nat} {I : mI} {L : mL} {R : Nat → Nat → Option Nat} {K : mK} (e0 : R 17 0 = some 18) (h : Wm n (d + 1) 64 90 5 27 [some (vr (some 17)), some (vi 4)] [vr (some 37), vr (some 37), vi 4, vr (some 18)] (I, L, R, 38) K) : Wm n (d + 1) 64 75 6 34 [some (vr (some 17)), some (vi 4)] [] (I, L, R, 37) K :=
  wpU_sound mCode_ok n [] [(64, 90)] 13 [] (fun v hv => by cases hv) _ _ _ _ _ _ _ _ K K (fun _ _ q => q) (show Wm n (d + 1) 64 90 5 27 [some (vr (some 17)), some (vi 4)] [vr (some 37), vr (some 37), vi 4, vr (R 17 0)] (I, L, R, 38) K from (by rw [e0]; exact h))
set_option maxRecDepth 100000 in
set_option maxHeartbeats 20000000 in
theorem mk_T17_26 {n d : Nat} {I : mI} {L : mL} {R : Nat → Nat → Option Nat} {K : mK} (h : Cm n d 39 [vr (some 37)] (I, L, R, 38) (fun r H => rv r (Wm n (d + 1) 64 93 3 17 [some (vr (some 17)), some (vi 4)] [vr (some 37), vi 4, vr (some 18)] H K))) : Wm n (d + 1) 64 90 5 27 [some (vr (some 17)), some (vi 4)] [vr (some 37), vr (some 37), vi 4, vr (some 18)] (I, L, R, 38) K :=
  wpU_sound mCode_ok n [] [(64, 93)] 3 [] (fun v hv => by cases hv) _ _ _ _ _ _ _ _ K K (fun _ _ q => q) h
set_option maxRecDepth 100000 in
set_option maxHeartbeats 20000000 in
theorem mk_T17_27 {n d : Nat} {I : mI} {L : mL} {R : Nat → Nat → Option Nat} {K : mK} (h : Wm n (d + 1) 64 97 3 17 [some (vr (some 17)), some (vi (wr (4 + 1)))] [] (I, L, (up2R R 18 4 (some 37)), 40) K) : Wm n (d + 1) 64 93 3 17 [some (vr (some 17)), some (vi 4)] [vr (some 37), vi 4, vr (some 18)] (I, L, R, 40) K :=
  wpU_sound mCode_ok n [] [(64, 97)] 7 [] (fun v hv => by cases hv) _ _ _ _ _ _ _ _ K K (fun _ _ q => q) (And.intro (show (0 : Int) ≤ 4 ∧ (4 : Int) < 6 from ⟨by decide, by decide⟩) (h))
set_option maxRecDepth 100000 in
set_option maxHeartbeats 20000000 in
theorem mk_T17_28 {n d : Nat} {I : mI} {L : mL} {R : Nat → Nat → Option Nat} {K : mK} (h : Wm n (d + 1) 64 75 3 17 [some (vr (some 17)), some (vi 5)] [] (I, L, R, 40) K) : Wm n (d + 1) 64 97 3 17 [some (vr (some 17)), some (vi 5)] [] (I, L, R, 40) K :=
  wpU_sound mCode_ok n [] [(64, 75)] 6 [] (fun v hv => by cases hv) _ _ _ _ _ _ _ _ K K (fun _ _ q => q) (h)
set_option maxRecDepth 100000 in
set_option maxHeartbeats 20000000 in
theorem mk_T17_29 {n d : Nat} {I : mI} {L : mL} {R : Nat → Nat → Option Nat} {K : mK} (e0 : R 17 0 = some 18) (h : Wm n (d + 1) 64 90 2 10 [some (vr (some 17)), some (vi 5)] [vr (some 40), vr (some 40), vi 5, vr (some 18)] (I, L, R, 41) K) : Wm n (d + 1) 64 75 3 17 [some (vr (some 17)), some (vi 5)] [] (I, L, R, 40) K :=
  wpU_sound mCode_ok n [] [(64, 90)] 13 [] (fun v hv => by cases hv) _ _ _ _ _ _ _ _ K K (fun _ _ q => q) (show Wm n (d + 1) 64 90 2 10 [some (vr (some 17)), some (vi 5)] [vr (some 40), vr (some 40), vi 5, vr (R 17 0)] (I, L, R, 41) K from (by rw [e0]; exact h))
set_option maxRecDepth 100000 in
set_option maxHeartbeats 20000000 in
theorem mk_T17_30 {n d : Nat} {I : mI} {L : mL} {R : Nat → Nat → Option Nat} {K : mK} (h : Cm n d 39 [vr (some 40)] (I, L, R, 41) (fun r H => rv r (Wm n (d + 1) 64 93 0 0 [some (vr (some 17)), some (vi 5)] [vr (some 40), vi 5, vr (some 18)] H K))) : Wm n (d + 1) 64 90 2 10 [some (vr (some 17)), some (vi 5)] [vr (some 40), vr (some 40), vi 5, vr (some 18)] (I, L, R, 41) K :=
  wpU_sound mCode_ok n [] [(64, 93)] 3 [] (fun v hv => by cases hv) _ _ _ _ _ _ _ _ K K (fun _ _ q => q) h
set_option maxRecDepth 100000 in
set_option maxHeartbeats 20000000 in
theorem mk_T17_31 {n d : Nat} {I : mI} {L : mL} {R : Nat → Nat → Option Nat} {K : mK} (h : Wm n (d + 1) 64 97 0 0 [some (vr (some 17)), some (vi (wr (5 + 1)))] [] (I, L, (up2R R 18 5 (some 40)), 43) K) : Wm n (d + 1) 64 93 0 0 [some (vr (some 17)), some (vi 5)] [vr (some 40), vi 5, vr (some 18)] (I, L, R, 43) K :=
  wpU_sound mCode_ok n [] [(64, 97)] 7 [] (fun v hv => by cases hv) _ _ _ _ _ _ _ _ K K (fun _ _ q => q) (And.intro (show (0 : Int) ≤ 5 ∧ (5 : Int) < 6 from ⟨by decide, by decide⟩) (h))
set_option maxRecDepth 100000 in
set_option maxHeartbeats 20000000 in
theorem mk_T17_32 {n d : Nat} {I : mI} {L : mL} {R : Nat → Nat → Option Nat} {K : mK} (h : Wm n (d + 1) 64 75 0 0 [some (vr (some 17)), some (vi 6)] [] (I, L, R, 43) K) : Wm n (d + 1) 64 97 0 0 [some (vr (some 17)), some (vi 6)] [] (I, L, R, 43) K :=
  wpU_sound mCode_ok n [] [(64, 75)] 6 [] (fun v hv => by cases hv) _ _ _ _ _ _ _ _ K K (fun _ _ q => q) (h)
set_option maxRecDepth 100000 in
set_option maxHeartbeats 20000000 in
theorem mk_T17_33 {n d : Nat} {I : mI} {L : mL} {R : Nat → Nat → Option Nat} {K : mK} (h : K none (I, L, R, 43)) : Wm n (d + 1) 64 75 0 0 [some (vr (some 17)), some (vi 6)] [] (I, L, R, 43) K :=
  wpU_sound mCode_ok n [] [] 9 [] (fun v hv => by cases hv) _ _ _ _ _ _ _ _ K K (fun _ _ q => q) (h)
theorem mk_T17 {n d : Nat} {I : mI} {L : mL} {R : Nat → Nat → Option Nat} {K : mK} (h : K none ((up2 (up2 (up2 (up2 (up2 (up2 (up2 (up2 (up2 (up2 I 17 1 0) 17 2 12) 17 3 0) 17 4 (-1)) 19 2 0) 19 0 6) 21 2 0) 21 0 10) 23 2 0) 23 0 8), L, (up2R (up2R (up2R (up2R (up2R (up2R (up2R (up2R (up2R (up2R (up2R (up2R (up2R (up2R (up2R (up2R (up2R (up2R (up2R (up2R (up2R (up2R (up2R (up2R (up2R R 17 0 (some 18)) 19 1 (some 20)) 17 5 (some 19)) 21 1 (some 22)) 17 6 (some 21)) 23 1 (some 24)) 17 7 (some 23)) 25 5 (some 26)) 25 6 (some 27)) 18 0 (some 25)) 28 5 (some 29)) 28 6 (some 30)) 18 1 (some 28)) 31 5 (some 32)) 31 6 (some 33)) 18 2 (some 31)) 34 5 (some 35)) 34 6 (some 36)) 18 3 (some 34)) 37 5 (some 38)) 37 6 (some 39)) 18 4 (some 37)) 40 5 (some 41)) 40 6 (some 42)) 18 5 (some 40)), 43)) : Cm n (d + 1) 64 [vr (some 17)] (I, L, R, 18) K := by
  refine mk_T17_1 ?_
  refine mk_T17_2 ?_
  refine mk_T17_3 ?_
  refine mk_W19 ?_
  rw [rv_no]
  refine mk_T17_4 ?_
  refine mk_T17_5 ?_
  refine mk_W21 ?_
  rw [rv_no]
  refine mk_T17_6 ?_
  refine mk_T17_7 ?_
  refine mk_W23 ?_
  rw [rv_no]
  refine mk_T17_8 ?_
  refine mk_T17_9 rfl ?_
  refine mk_T17_10 ?_
  refine mk_P25 ?_
  rw [rv_no]
  refine mk_T17_11 ?_
  rw [show wr (0 + 1) = 1 from wri (by decide)]
  refine mk_T17_12 ?_
  refine mk_T17_13 rfl ?_
  refine mk_T17_14 ?_
  refine mk_P28 ?_
  rw [rv_no]
  refine mk_T17_15 ?_
  rw [show wr (1 + 1) = 2 from wri (by decide)]
  refine mk_T17_16 ?_
  refine mk_T17_17 rfl ?_
  refine mk_T17_18 ?_
  refine mk_P31 ?_
  rw [rv_no]
  refine mk_T17_19 ?_
  rw [show wr (2 + 1) = 3 from wri (by decide)]
  refine mk_T17_20 ?_
  refine mk_T17_21 rfl ?_
  refine mk_T17_22 ?_
  refine mk_P34 ?_
  rw [rv_no]
  refine mk_T17_23 ?_
  rw [show wr (3 + 1) = 4 from wri (by decide)]
  refine mk_T17_24 ?_
  refine mk_T17_25 rfl ?_
  refine mk_T17_26 ?_
  refine mk_P37 ?_
  rw [rv_no]
  refine mk_T17_27 ?_
  rw [show wr (4 + 1) = 5 from wri (by decide)]
  refine mk_T17_28 ?_
  refine mk_T17_29 rfl ?_
  refine mk_T17_30 ?_
  refine mk_P40 ?_
  rw [rv_no]
  refine mk_T17_31 ?_
  rw [show wr (5 + 1) = 6 from wri (by decide)]
  refine mk_T17_32 ?_
  refine mk_T17_33 ?_
  exact h
set_option maxRecDepth 100000 in
set_option maxHeartbeats 20000000 in
theorem mk_W45_1 {n d : Nat} {I : mI} {L : mL} {R : Nat → Nat → Option Nat} {K : mK} (h : K none ((up2 (up2 I 45 2 0) 45 0 6), L, (up2R R 45 1 (some 46)), 47)) : Wm n d 56 0 1 40 [some (vr (some 45)), some (vi 6)] [] (I, L, R, 46) K :=
  wpU_sound mCode_ok n [] [] 23 [] (fun v hv => by cases hv) _ _ _ _ _ _ _ _ K K (fun _ _ q => q) (And.intro (rw_6 (up2 I 45 2 0) 45) (h))
theorem mk_W45 {n d : Nat} {I : mI} {L : mL} {R : Nat → Nat → Option Nat} {K : mK} (h : K none ((up2 (up2 I 45 2 0) 45 0 6), L, (up2R R 45 1 (some 46)), 47)) : Cm n d 56 [vr (some 45), vi 6] (I, L, R, 46) K := by
  refine mk_W45_1 ?_
  exact h
set_option maxRecDepth 100000 in
set_option maxHeartbeats 20000000 in
theorem mk_W47_1 {n d : Nat} {I : mI} {L : mL} {R : Nat → Nat → Option Nat} {K : mK} (h : K none ((up2 (up2 I 47 2 0) 47 0 10), L, (up2R R 47 1 (some 48)), 49)) : Wm n d 56 0 1 40 [some (vr (some 47)), some (vi 10)] [] (I, L, R, 48) K :=
  wpU_sound mCode_ok n [] [] 23 [] (fun v hv => by cases hv) _ _ _ _ _ _ _ _ K K (fun _ _ q => q) (And.intro (rw_10 (up2 I 47 2 0) 47) (h))
theorem mk_W47 {n d : Nat} {I : mI} {L : mL} {R : Nat → Nat → Option Nat} {K : mK} (h : K none ((up2 (up2 I 47 2 0) 47 0 10), L, (up2R R 47 1 (some 48)), 49)) : Cm n d 56 [vr (some 47), vi 10] (I, L, R, 48) K := by
  refine mk_W47_1 ?_
  exact h
set_option maxRecDepth 100000 in
set_option maxHeartbeats 20000000 in
theorem mk_W49_1 {n d : Nat} {I : mI} {L : mL} {R : Nat → Nat → Option Nat} {K : mK} (h : K none ((up2 (up2 I 49 2 0) 49 0 8), L, (up2R R 49 1 (some 50)), 51)) : Wm n d 56 0 1 40 [some (vr (some 49)), some (vi 8)] [] (I, L, R, 50) K :=
  wpU_sound mCode_ok n [] [] 23 [] (fun v hv => by cases hv) _ _ _ _ _ _ _ _ K K (fun _ _ q => q) (And.intro (rw_8 (up2 I 49 2 0) 49) (h))
theorem mk_W49 {n d : Nat} {I : mI} {L : mL} {R : Nat → Nat → Option Nat} {K : mK} (h : K none ((up2 (up2 I 49 2 0) 49 0 8), L, (up2R R 49 1 (some 50)), 51)) : Cm n d 56 [vr (some 49), vi 8] (I, L, R, 50) K := by
  refine mk_W49_1 ?_
  exact h
set_option maxRecDepth 100000 in
set_option maxHeartbeats 20000000 in
theorem mk_P51_1 {n d : Nat} {I : mI} {L : mL} {R : Nat → Nat → Option Nat} {K : mK} (h : Wm n d 39 16 0 0 [some (vr (some 51))] [vr (some 53), vr (some 51)] (I, L, (up2R R 51 5 (some 52)), 54) K) : Wm n d 39 0 2 10 [some (vr (some 51))] [] (I, L, R, 52) K :=
  wpU_sound mCode_ok n [] [(39, 16)] 14 [] (fun v hv => by cases hv) _ _ _ _ _ _ _ _ K K (fun _ _ q => q) (And.intro rfl (And.intro rfl (h)))
set_option maxRecDepth 100000 in
set_option maxHeartbeats 20000000 in
theorem mk_P51_2 {n d : Nat} {I : mI} {L : mL} {R : Nat → Nat → Option Nat} {K : mK} (h : K none (I, L, (up2R R 51 6 (some 53)), 54)) : Wm n d 39 16 0 0 [some (vr (some 51))] [vr (some 53), vr (some 51)] (I, L, R, 54) K :=
  wpU_sound mCode_ok n [] [] 7 [] (fun v hv => by cases hv) _ _ _ _ _ _ _ _ K K (fun _ _ q => q) (h)
theorem mk_P51 {n d : Nat} {I : mI} {L : mL} {R : Nat → Nat → Option Nat} {K : mK} (h : K none (I, L, (up2R (up2R R 51 5 (some 52)) 51 6 (some 53)), 54)) : Cm n d 39 [vr (some 51)] (I, L, R, 52) K := by
  refine mk_P51_1 ?_
  refine mk_P51_2 ?_
  exact h
set_option maxRecDepth 100000 in
set_option maxHeartbeats 20000000 in
theorem mk_P54_1 {n d : Nat} {I : mI} {L : mL} {R : Nat → Nat → Option Nat} {K : mK} (h : Wm n d 39 16 0 0 [some (vr (some 54))] [vr (some 56), vr (some 54)] (I, L, (up2R R 54 5 (some 55)), 57) K) : Wm n d 39 0 2 10 [some (vr (some 54))] [] (I, L, R, 55) K :=
  wpU_sound mCode_ok n [] [(39, 16)] 14 [] (fun v hv => by cases hv) _ _ _ _ _ _ _ _ K K (fun _ _ q => q) (And.intro rfl (And.intro rfl (h)))
set_option maxRecDepth 100000 in
set_option maxHeartbeats 20000000 in
theorem mk_P54_2 {n d : Nat} {I : mI} {L : mL} {R : Nat → Nat → Option Nat} {K : mK} (h : K none (I, L, (up2R R 54 6 (some 56)), 57)) : Wm n d 39 16 0 0 [some (vr (some 54))] [vr (some 56), vr (some 54)] (I, L, R, 57) K :=
  wpU_sound mCode_ok n [] [] 7 [] (fun v hv => by cases hv) _ _ _ _ _ _ _ _ K K (fun _ _ q => q) (h)
theorem mk_P54 {n d : Nat} {I : mI} {L : mL} {R : Nat → Nat → Option Nat} {K : mK} (h : K none (I, L, (up2R (up2R R 54 5 (some 55)) 54 6 (some 56)), 57)) : Cm n d 39 [vr (some 54)] (I, L, R, 55) K := by
  refine mk_P54_1 ?_
  refine mk_P54_2 ?_
  exact h
set_option maxRecDepth 100000 in
set_option maxHeartbeats 20000000 in
theorem mk_P57_1 {n d : Nat} {I : mI} {L : mL} {R : Nat → Nat → Option Nat} {K : mK} (h : Wm n d 39 16 0 0 [some (vr (some 57))] [vr (some 59), vr (some 57)] (I, L, (up2R R 57 5 (some 58)), 60) K) : Wm n d 39 0 2 10 [some (vr (some 57))] [] (I, L, R, 58) K :=
  wpU_sound mCode_ok n [] [(39, 16)] 14 [] (fun v hv => by cases hv) _ _ _ _ _ _ _ _ K K (fun _ _ q => q) (And.intro rfl (And.intro rfl (h)))
set_option maxRecDepth 100000 in
set_option maxHeartbeats 20000000 in
theorem mk_P57_2 {n d : Nat} {I : mI} {L : mL} {R : Nat → Nat → Option Nat} {K : mK} (h : K none (I, L, (up2R R 57 6 (some 59)), 60)) : Wm n d 39 16 0 0 [some (vr (some 57))] [vr (some 59), vr (some 57)] (I, L, R, 60) K :=
  wpU_sound mCode_ok n [] [] 7 [] (fun v hv => by cases hv) _ _ _ _ _ _ _ _ K K (fun _ _ q => q) (h)
theorem mk_P57 {n d : Nat} {I : mI} {L : mL} {R : Nat → Nat → Option Nat} {K : mK} (h : K none (I, L, (up2R (up2R R 57 5 (some 58)) 57 6 (some 59)), 60)) : Cm n d 39 [vr (some 57)] (I, L, R, 58) K := by
  refine mk_P57_1 ?_
  refine mk_P57_2 ?_
  exact h
set_option maxRecDepth 100000 in
set_option maxHeartbeats 20000000 in
theorem mk_P60_1 {n d : Nat} {I : mI} {L : mL} {R : Nat → Nat → Option Nat} {K : mK} (h : Wm n d 39 16 0 0 [some (vr (some 60))] [vr (some 62), vr (some 60)] (I, L, (up2R R 60 5 (some 61)), 63) K) : Wm n d 39 0 2 10 [some (vr (some 60))] [] (I, L, R, 61) K :=
  wpU_sound mCode_ok n [] [(39, 16)] 14 [] (fun v hv => by cases hv) _ _ _ _ _ _ _ _ K K (fun _ _ q => q) (And.intro rfl (And.intro rfl (h)))
set_option maxRecDepth 100000 in
set_option maxHeartbeats 20000000 in
theorem mk_P60_2 {n d : Nat} {I : mI} {L : mL} {R : Nat → Nat → Option Nat} {K : mK} (h : K none (I, L, (up2R R 60 6 (some 62)), 63)) : Wm n d 39 16 0 0 [some (vr (some 60))] [vr (some 62), vr (some 60)] (I, L, R, 63) K :=
  wpU_sound mCode_ok n [] [] 7 [] (fun v hv => by cases hv) _ _ _ _ _ _ _ _ K K (fun _ _ q => q) (h)
theorem mk_P60 {n d : Nat} {I : mI} {L : mL} {R : Nat → Nat → Option Nat} {K : mK} (h : K none (I, L, (up2R (up2R R 60 5 (some 61)) 60 6 (some 62)), 63)) : Cm n d 39 [vr (some 60)] (I, L, R, 61) K := by
  refine mk_P60_1 ?_
  refine mk_P60_2 ?_
  exact h
set_option maxRecDepth 100000 in
set_option maxHeartbeats 20000000 in
theorem mk_P63_1 {n d : Nat} {I : mI} {L : mL} {R : Nat → Nat → Option Nat} {K : mK} (h : Wm n d 39 16 0 0 [some (vr (some 63))] [vr (some 65), vr (some 63)] (I, L, (up2R R 63 5 (some 64)), 66) K) : Wm n d 39 0 2 10 [some (vr (some 63))] [] (I, L, R, 64) K :=
  wpU_sound mCode_ok n [] [(39, 16)] 14 [] (fun v hv => by cases hv) _ _ _ _ _ _ _ _ K K (fun _ _ q => q) (And.intro rfl (And.intro rfl (h)))
set_option maxRecDepth 100000 in
set_option maxHeartbeats 20000000 in
theorem mk_P63_2 {n d : Nat} {I : mI} {L : mL} {R : Nat → Nat → Option Nat} {K : mK} (h : K none (I, L, (up2R R 63 6 (some 65)), 66)) : Wm n d 39 16 0 0 [some (vr (some 63))] [vr (some 65), vr (some 63)] (I, L, R, 66) K :=
  wpU_sound mCode_ok n [] [] 7 [] (fun v hv => by cases hv) _ _ _ _ _ _ _ _ K K (fun _ _ q => q) (h)
theorem mk_P63 {n d : Nat} {I : mI} {L : mL} {R : Nat → Nat → Option Nat} {K : mK} (h : K none (I, L, (up2R (up2R R 63 5 (some 64)) 63 6 (some 65)), 66)) : Cm n d 39 [vr (some 63)] (I, L, R, 64) K := by
  refine mk_P63_1 ?_
  refine mk_P63_2 ?_
  exact h
set_option maxRecDepth 100000 in
set_option maxHeartbeats 20000000 in
theorem mk_P66_1 {n d : Nat} {I : mI} {L : mL} {R : Nat → Nat → Option Nat} {K : mK} (h : Wm n d 39 16 0 0 [some (vr (some 66))] [vr (some 68), vr (some 66)] (I, L, (up2R R 66 5 (some 67)), 69) K) : Wm n d 39 0 2 10 [some (vr (some 66))] [] (I, L, R, 67) K :=
  wpU_sound mCode_ok n [] [(39, 16)] 14 [] (fun v hv => by cases hv) _ _ _ _ _ _ _ _ K K (fun _ _ q => q) (And.intro rfl (And.intro rfl (h)))
set_option maxRecDepth 100000 in
set_option maxHeartbeats 20000000 in
theorem mk_P66_2 {n d : Nat} {I : mI} {L : mL} {R : Nat → Nat → Option Nat} {K : mK} (h : K none (I, L, (up2R R 66 6 (some 68)), 69)) : Wm n d 39 16 0 0 [some (vr (some 66))] [vr (some 68), vr (some 66)] (I, L, R, 69) K :=
  wpU_sound mCode_ok n [] [] 7 [] (fun v hv => by cases hv) _ _ _ _ _ _ _ _ K K (fun _ _ q => q) (h)
theorem mk_P66 {n d : Nat} {I : mI} {L : mL} {R : Nat → Nat → Option Nat} {K : mK} (h : K none (I, L, (up2R (up2R R 66 5 (some 67)) 66 6 (some 68)), 69)) : Cm n d 39 [vr (some 66)] (I, L, R, 67) K := by
  refine mk_P66_1 ?_
  refine mk_P66_2 ?_
  exact h
set_option maxRecDepth 100000 in
set_option maxHeartbeats 20000000 in
theorem mk_T43_1 {n d : Nat} {I : mI} {L : mL} {R : Nat → Nat → Option Nat} {K : mK} (h : Wm n (d + 1) 64 24 24 231 [some (vr (some 43)), none] [] ((up2 (up2 I 43 1 0) 43 2 12), L, (up2R R 43 0 (some 44)), 45) K) : Wm n (d + 1) 64 0 25 237 [some (vr (some 43)), none] [] (I, L, R, 44) K :=
  wpU_sound mCode_ok n [] [(64, 24)] 17 [] (fun v hv => by cases hv) _ _ _ _ _ _ _ _ K K (fun _ _ q => q) (And.intro rfl (h))
set_option maxRecDepth 100000 in
set_option maxHeartbeats 20000000 in
theorem mk_T43_2 {n d : Nat} {I : mI} {L : mL} {R : Nat → Nat → Option Nat} {K : mK} (h : Wm n (d + 1) 64 41 23 228 [some (vr (some 43)), none] [vi 6, vr (some 45), vr (some 45), vr (some 43)] ((up2 (up2 I 43 3 0) 43 4 (-1)), L, R, 46) K) : Wm n (d + 1) 64 24 24 231 [some (vr (some 43)), none] [] (I, L, R, 45) K :=
  wpU_sound mCode_ok n [] [(64, 41)] 15 [] (fun v hv => by cases hv) _ _ _ _ _ _ _ _ K K (fun _ _ q => q) (h)
set_option maxRecDepth 100000 in
set_option maxHeartbeats 20000000 in
theorem mk_T43_3 {n d : Nat} {I : mI} {L : mL} {R : Nat → Nat → Option Nat} {K : mK} (h : Cm n d 56 [vr (some 45), vi 6] (I, L, R, 46) (fun r H => rv r (Wm n (d + 1) 64 44 22 188 [some (vr (some 43)), none] [vr (some 45), vr (some 43)] H K))) : Wm n (d + 1) 64 41 23 228 [some (vr (some 43)), none] [vi 6, vr (some 45), vr (some 45), vr (some 43)] (I, L, R, 46) K :=
  wpU_sound mCode_ok n [] [(64, 44)] 3 [] (fun v hv => by cases hv) _ _ _ _ _ _ _ _ K K (fun _ _ q => q) h
set_option maxRecDepth 100000 in
set_option maxHeartbeats 20000000 in
theorem mk_T43_4 {n d : Nat} {I : mI} {L : mL} {R : Nat → Nat → Option Nat} {K : mK} (h : Wm n (d + 1) 64 54 21 185 [some (vr (some 43)), none] [vi 10, vr (some 47), vr (some 47), vr (some 43)] (I, L, (up2R R 43 5 (some 45)), 48) K) : Wm n (d + 1) 64 44 22 188 [some (vr (some 43)), none] [vr (some 45), vr (some 43)] (I, L, R, 47) K :=
  wpU_sound mCode_ok n [] [(64, 54)] 10 [] (fun v hv => by cases hv) _ _ _ _ _ _ _ _ K K (fun _ _ q => q) (h)
set_option maxRecDepth 100000 in
set_option maxHeartbeats 20000000 in
theorem mk_T43_5 {n d : Nat} {I : mI} {L : mL} {R : Nat → Nat → Option Nat} {K : mK} (h : Cm n d 56 [vr (some 47), vi 10] (I, L, R, 48) (fun r H => rv r (Wm n (d + 1) 64 57 20 145 [some (vr (some 43)), none] [vr (some 47), vr (some 43)] H K))) : Wm n (d + 1) 64 54 21 185 [some (vr (some 43)), none] [vi 10, vr (some 47), vr (some 47), vr (some 43)] (I, L, R, 48) K :=
  wpU_sound mCode_ok n [] [(64, 57)] 3 [] (fun v hv => by cases hv) _ _ _ _ _ _ _ _ K K (fun _ _ q => q) h
set_option maxRecDepth 100000 in
set_option maxHeartbeats 20000000 in
theorem mk_T43_6 {n d : Nat} {I : mI} {L : mL} {R : Nat → Nat → Option Nat} {K : mK} (h : Wm n (d + 1) 64 67 19 142 [some (vr (some 43)), none] [vi 8, vr (some 49), vr (some 49), vr (some 43)] (I, L, (up2R R 43 6 (some 47)), 50) K) : Wm n (d + 1) 64 57 20 145 [some (vr (some 43)), none] [vr (some 47), vr (some 43)] (I, L, R, 49) K :=
  wpU_sound mCode_ok n [] [(64, 67)] 10 [] (fun v hv => by cases hv) _ _ _ _ _ _ _ _ K K (fun _ _ q => q) (h)
set_option maxRecDepth 100000 in
set_option maxHeartbeats 20000000 in
theorem mk_T43_7 {n d : Nat} {I : mI} {L : mL} {R : Nat → Nat → Option Nat} {K : mK} (h : Cm n d 56 [vr (some 49), vi 8] (I, L, R, 50) (fun r H => rv r (Wm n (d + 1) 64 70 18 102 [some (vr (some 43)), none] [vr (some 49), vr (some 43)] H K))) : Wm n (d + 1) 64 67 19 142 [some (vr (some 43)), none] [vi 8, vr (some 49), vr (some 49), vr (some 43)] (I, L, R, 50) K :=
  wpU_sound mCode_ok n [] [(64, 70)] 3 [] (fun v hv => by cases hv) _ _ _ _ _ _ _ _ K K (fun _ _ q => q) h
set_option maxRecDepth 100000 in
set_option maxHeartbeats 20000000 in
theorem mk_T43_8 {n d : Nat} {I : mI} {L : mL} {R : Nat → Nat → Option Nat} {K : mK} (h : Wm n (d + 1) 64 75 18 102 [some (vr (some 43)), some (vi 0)] [] (I, L, (up2R R 43 7 (some 49)), 51) K) : Wm n (d + 1) 64 70 18 102 [some (vr (some 43)), none] [vr (some 49), vr (some 43)] (I, L, R, 51) K :=
  wpU_sound mCode_ok n [] [(64, 75)] 8 [] (fun v hv => by cases hv) _ _ _ _ _ _ _ _ K K (fun _ _ q => q) (h)
set_option maxRecDepth 100000 in
set_option maxHeartbeats 20000000 in
theorem mk_T43_9 {n d : Nat} {I : mI} {L : mL} {R : Nat → Nat → Option Nat} {K : mK} (e0 : R 43 0 = some 44) (h : Wm n (d + 1) 64 90 17 95 [some (vr (some 43)), some (vi 0)] [vr (some 51), vr (some 51), vi 0, vr (some 44)] (I, L, R, 52) K) : Wm n (d + 1) 64 75 18 102 [some (vr (some 43)), some (vi 0)] [] (I, L, R, 51) K :=
  wpU_sound mCode_ok n [] [(64, 90)] 13 [] (fun v hv => by cases hv) _ _ _ _ _ _ _ _ K K (fun _ _ q => q) (show Wm n (d + 1) 64 90 17 95 [some (vr (some 43)), some (vi 0)] [vr (some 51), vr (some 51), vi 0, vr (R 43 0)] (I, L, R, 52) K from (by rw [e0]; exact h))
set_option maxRecDepth 100000 in
set_option maxHeartbeats 20000000 in
theorem mk_T43_10 {n d : Nat} {I : mI} {L : mL} {R : Nat → Nat → Option Nat} {K : mK} (h : Cm n d 39 [vr (some 51)] (I, L, R, 52) (fun r H => rv r (Wm n (d + 1) 64 93 15 85 [some (vr (some 43)), some (vi 0)] [vr (some 51), vi 0, vr (some 44)] H K))) : Wm n (d + 1) 64 90 17 95 [some (vr (some 43)), some (vi 0)] [vr (some 51), vr (some 51), vi 0, vr (some 44)] (I, L, R, 52) K :=
  wpU_sound mCode_ok n [] [(64, 93)] 3 [] (fun v hv => by cases hv) _ _ _ _ _ _ _ _ K K (fun _ _ q => q) h
set_option maxRecDepth 100000 in
set_option maxHeartbeats 20000000 in
theorem mk_T43_11 {n d : Nat} {I : mI} {L : mL} {R : Nat → Nat → Option Nat} {K : mK} (h : Wm n (d + 1) 64 97 15 85 [some (vr (some 43)), some (vi (wr (0 + 1)))] [] (I, L, (up2R R 44 0 (some 51)), 54) K) : Wm n (d + 1) 64 93 15 85 [some (vr (some 43)), some (vi 0)] [vr (some 51), vi 0, vr (some 44)] (I, L, R, 54) K :=
  wpU_sound mCode_ok n [] [(64, 97)] 7 [] (fun v hv => by cases hv) _ _ _ _ _ _ _ _ K K (fun _ _ q => q) (And.intro (show (0 : Int) ≤ 0 ∧ (0 : Int) < 6 from ⟨by decide, by decide⟩) (h))
set_option maxRecDepth 100000 in
set_option maxHeartbeats 20000000 in
theorem mk_T43_12 {n d : Nat} {I : mI} {L : mL} {R : Nat → Nat → Option Nat} {K : mK} (h : Wm n (d + 1) 64 75 15 85 [some (vr (some 43)), some (vi 1)] [] (I, L, R, 54) K) : Wm n (d + 1) 64 97 15 85 [some (vr (some 43)), some (vi 1)] [] (I, L, R, 54) K :=
  wpU_sound mCode_ok n [] [(64, 75)] 6 [] (fun v hv => by cases hv) _ _ _ _ _ _ _ _ K K (fun _ _ q => q) (h)
set_option maxRecDepth 100000 in
set_option maxHeartbeats 20000000 in
theorem mk_T43_13 {n d : Nat} {I : mI} {L : mL} {R : Nat → Nat → Option Nat} {K : mK} (e0 : R 43 0 = some 44) (h : Wm n (d + 1) 64 90 14 78 [some (vr (some 43)), some (vi 1)] [vr (some 54), vr (some 54), vi 1, vr (some 44)] (I, L, R, 55) K) : Wm n (d + 1) 64 75 15 85 [some (vr (some 43)), some (vi 1)] [] (I, L, R, 54) K :=
  wpU_sound mCode_ok n [] [(64, 90)] 13 [] (fun v hv => by cases hv) _ _ _ _ _ _ _ _ K K (fun _ _ q => q) (show Wm n (d + 1) 64 90 14 78 [some (vr (some 43)), some (vi 1)] [vr (some 54), vr (some 54), vi 1, vr (R 43 0)] (I, L, R, 55) K from (by rw [e0]; exact h))
set_option maxRecDepth 100000 in
set_option maxHeartbeats 20000000 in
theorem mk_T43_14 {n d : Nat} {I : mI} {L : mL} {R : Nat → Nat → Option Nat} {K : mK} (h : Cm n d 39 [vr (some 54)] (I, L, R, 55) (fun r H => rv r (Wm n (d + 1) 64 93 12 68 [some (vr (some 43)), some (vi 1)] [vr (some 54), vi 1, vr (some 44)] H K))) : Wm n (d + 1) 64 90 14 78 [some (vr (some 43)), some (vi 1)] [vr (some 54), vr (some 54), vi 1, vr (some 44)] (I, L, R, 55) K :=
  wpU_sound mCode_ok n [] [(64, 93)] 3 [] (fun v hv => by cases hv) _ _ _ _ _ _ _ _ K K (fun _ _ q => q) h
set_option maxRecDepth 100000 in
set_option maxHeartbeats 20000000 in
theorem mk_T43_15 {n d : Nat} {I : mI} {L : mL} {R : Nat → Nat → Option Nat} {K : mK} (h : Wm n (d + 1) 64 97 12 68 [some (vr (some 43)), some (vi (wr (1 + 1)))] [] (I, L, (up2R R 44 1 (some 54)), 57) K) : Wm n (d + 1) 64 93 12 68 [some (vr (some 43)), some (vi 1)] [vr (some 54), vi 1, vr (some 44)] (I, L, R, 57) K :=
  wpU_sound mCode_ok n [] [(64, 97)] 7 [] (fun v hv => by cases hv) _ _ _ _ _ _ _ _ K K (fun _ _ q => q) (And.intro (show (0 : Int) ≤ 1 ∧ (1 : Int) < 6 from ⟨by decide, by decide⟩) (h))
set_option maxRecDepth 100000 in
set_option maxHeartbeats 20000000 in
theorem mk_T43_16 {n d : Nat} {I : mI} {L : mL} {R : Nat → Nat → Option Nat} {K : mK} (h : Wm n (d + 1) 64 75 12 68 [some (vr (some 43)), some (vi 2)] [] (I, L, R, 57) K) : Wm n (d + 1) 64 97 12 68 [some (vr (some 43)), some (vi 2)] [] (I, L, R, 57) K :=
  wpU_sound mCode_ok n [] [(64, 75)] 6 [] (fun v hv => by cases hv) _ _ _ _ _ _ _ _ K K (fun _ _ q => q) (h)
set_option maxRecDepth 100000 in
set_option maxHeartbeats 20000000 in
theorem mk_T43_17 {n d : Nat} {I : mI} {L : mL} {R : Nat → Nat → Option Nat} {K : mK} (e0 : R 43 0 = some 44) (h : Wm n (d + 1) 64 90 11 61 [some (vr (some 43)), some (vi 2)] [vr (some 57), vr (some 57), vi 2, vr (some 44)] (I, L, R, 58) K) : Wm n (d + 1) 64 75 12 68 [some (vr (some 43)), some (vi 2)] [] (I, L, R, 57) K :=
  wpU_sound mCode_ok n [] [(64, 90)] 13 [] (fun v hv => by cases hv) _ _ _ _ _ _ _ _ K K (fun _ _ q => q) (show Wm n (d + 1) 64 90 11 61 [some (vr (some 43)), some (vi 2)] [vr (some 57), vr (some 57), vi 2, vr (R 43 0)] (I, L, R, 58) K from (by rw [e0]; exact h))
set_option maxRecDepth 100000 in
set_option maxHeartbeats 20000000 in
theorem mk_T43_18 {n d : Nat} {I : mI} {L : mL} {R : Nat → Nat → Option Nat} {K : mK} (h : Cm n d 39 [vr (some 57)] (I, L, R, 58) (fun r H => rv r (Wm n (d + 1) 64 93 9 51 [some (vr (some 43)), some (vi 2)] [vr (some 57), vi 2, vr (some 44)] H K))) : Wm n (d + 1) 64 90 11 61 [some (vr (some 43)), some (vi 2)] [vr (some 57), vr (some 57), vi 2, vr (some 44)] (I, L, R, 58) K :=
  wpU_sound mCode_ok n [] [(64, 93)] 3 [] (fun v hv => by cases hv) _ _ _ _ _ _ _ _ K K (fun _ _ q => q) h
set_option maxRecDepth 100000 in
set_option maxHeartbeats 20000000 in
theorem mk_T43_19 {n d : Nat} {I : mI} {L : mL} {R : Nat → Nat → Option Nat} {K : mK} (h : Wm n (d + 1) 64 97 9 51 [some (vr (some 43)), some (vi (wr (2 + 1)))] [] (I, L, (up2R R 44 2 (some 57)), 60) K) : Wm n (d + 1) 64 93 9 51 [some (vr (some 43)), some (vi 2)] [vr (some 57), vi 2, vr (some 44)] (I, L, R, 60) K :=
  wpU_sound mCode_ok n [] [(64, 97)] 7 [] (fun v hv => by cases hv) _ _ _ _ _ _ _ _ K K (fun _ _ q => q) (And.intro (show (0 : Int) ≤ 2 ∧ (2 : Int) < 6 from ⟨by decide, by decide⟩) (h))
set_option maxRecDepth 100000 in
set_option maxHeartbeats 20000000 in
theorem mk_T43_20 {n d : Nat} {I : mI} {L : mL} {R : Nat → Nat → Option Nat} {K : mK} (h : Wm n (d + 1) 64 75 9 51 [some (vr (some 43)), some (vi 3)] [] (I, L, R, 60) K) : Wm n (d + 1) 64 97 9 51 [some (vr (some 43)), some (vi 3)] [] (I, L, R, 60) K :=
  wpU_sound mCode_ok n [] [(64, 75)] 6 [] (fun v hv => by cases hv) _ _ _ _ _ _ _ _ K K (fun _ _ q => q) (h)
set_option maxRecDepth 100000 in
set_option maxHeartbeats 20000000 in
theorem mk_T43_21 {n d : Nat} {I : mI} {L : mL} {R : Nat → Nat → Option Nat} {K : mK} (e0 : R 43 0 = some 44) (h : Wm n (d + 1) 64 90 8 44 [some (vr (some 43)), some (vi 3)] [vr (some 60), vr (some 60), vi 3, vr (some 44)] (I, L, R, 61) K) : Wm n (d + 1) 64 75 9 51 [some (vr (some 43)), some (vi 3)] [] (I, L, R, 60) K :=
  wpU_sound mCode_ok n [] [(64, 90)] 13 [] (fun v hv => by cases hv) _ _ _ _ _ _ _ _ K K (fun _ _ q => q) (show Wm n (d + 1) 64 90 8 44 [some (vr (some 43)), some (vi 3)] [vr (some 60), vr (some 60), vi 3, vr (R 43 0)] (I, L, R, 61) K from (by rw [e0]; exact h))
set_option maxRecDepth 100000 in
set_option maxHeartbeats 20000000 in
theorem mk_T43_22 {n d : Nat} {I : mI} {L : mL} {R : Nat → Nat → Option Nat} {K : mK} (h : Cm n d 39 [vr (some 60)] (I, L, R, 61) (fun r H => rv r (Wm n (d + 1) 64 93 6 34 [some (vr (some 43)), some (vi 3)] [vr (some 60), vi 3, vr (some 44)] H K))) : Wm n (d + 1) 64 90 8 44 [some (vr (some 43)), some (vi 3)] [vr (some 60), vr (some 60), vi 3, vr (some 44)] (I, L, R, 61) K :=
  wpU_sound mCode_ok n [] [(64, 93)] 3 [] (fun v hv => by cases hv) _ _ _ _ _ _ _ _ K K (fun _ _ q => q) h
set_option maxRecDepth 100000 in
set_option maxHeartbeats 20000000 in
theorem mk_T43_23 {n d : Nat} {I : mI} {L : mL} {R : Nat → Nat → Option Nat} {K : mK} (h : Wm n (d + 1) 64 97 6 34 [some (vr (some 43)), some (vi (wr (3 + 1)))] [] (I, L, (up2R R 44 3 (some 60)), 63) K) : Wm n (d + 1) 64 93 6 34 [some (vr (some 43)), some (vi 3)] [vr (some 60), vi 3, vr (some 44)] (I, L, R, 63) K :=
  wpU_sound mCode_ok n [] [(64, 97)] 7 [] (fun v hv => by cases hv) _ _ _ _ _ _ _ _ K K (fun _ _ q => q) (And.intro (show (0 : Int) ≤ 3 ∧ (3 : Int) < 6 from ⟨by decide, by decide⟩) (h))
set_option maxRecDepth 100000 in
set_option maxHeartbeats 20000000 in
theorem mk_T43_24 {n d : Nat} {I : mI} {L : mL} {R : Nat → Nat → Option Nat} {K : mK} (h : Wm n (d + 1) 64 75 6 34 [some (vr (some 43)), some (vi 4)] [] (I, L, R, 63) K) : Wm n (d + 1) 64 97 6 34 [some (vr (some 43)), some (vi 4)] [] (I, L, R, 63) K :=
  wpU_sound mCode_ok n [] [(64, 75)] 6 [] (fun v hv => by cases hv) _ _ _ _ _ _ _ _ K K (fun _ _ q => q) (h)
set_option maxRecDepth 100000 in
set_option maxHeartbeats 20000000 in
theorem mk_T43_25 {n d : Nat} {I : mI} {L : mL} {R : Nat → Nat → Option Nat} {K : mK} (e0 : R 43 0 = some 44) (h : Wm n (d + 1) 64 90 5 27 [some (vr (some 43)), some (vi 4)] [vr (some 63), vr (some 63), vi 4, vr (some 44)] (I, L, R, 64) K) : Wm n (d + 1) 64 75 6 34 [some (vr (some 43)), some (vi 4)] [] (I, L, R, 63) K :=
  wpU_sound mCode_ok n [] [(64, 90)] 13 [] (fun v hv => by cases hv) _ _ _ _ _ _ _ _ K K (fun _ _ q => q) (show Wm n (d + 1) 64 90 5 27 [some (vr (some 43)), some (vi 4)] [vr (some 63), vr (some 63), vi 4, vr (R 43 0)] (I, L, R, 64) K from (by rw [e0]; exact h))
set_option maxRecDepth 100000 in
set_option maxHeartbeats 20000000 in
theorem mk_T43_26 {n d : Nat} {I : mI} {L : mL} {R : Nat → Nat → Option Nat} {K : mK} (h : Cm n d 39 [vr (some 63)] (I, L, R, 64) (fun r H => rv r (Wm n (d + 1) 64 93 3 17 [some (vr (some 43)), some (vi 4)] [vr (some 63), vi 4, vr (some 44)] H K))) : Wm n (d + 1) 64 90 5 27 [some (vr (some 43)), some (vi 4)] [vr (some 63), vr (some 63), vi 4, vr (some 44)] (I, L, R, 64) K :=
  wpU_sound mCode_ok n [] [(64, 93)] 3 [] (fun v hv => by cases hv) _ _ _ _ _ _ _ _ K K (fun _ _ q => q) h
set_option maxRecDepth 100000 in
set_option maxHeartbeats 20000000 in
theorem mk_T43_27 {n d : Nat} {I : mI} {L : mL} {R : Nat → Nat → Option Nat} {K : mK} (h : Wm n (d + 1) 64 97 3 17 [some (vr (some 43)), some (vi (wr (4 + 1)))] [] (I, L, (up2R R 44 4 (some 63)), 66) K) : Wm n (d + 1) 64 93 3 17 [some (vr (some 43)), some (vi 4)] [vr (some 63), vi 4, vr (some 44)] (I, L, R, 66) K :=
  wpU_sound mCode_ok n [] [(64, 97)] 7 [] (fun v hv => by cases hv) _ _ _ _ _ _ _ _ K K (fun _ _ q => q) (And.intro (show (0 : Int) ≤ 4 ∧ (4 : Int) < 6 from ⟨by decide, by decide⟩) (h))
set_option maxRecDepth 100000 in
set_option maxHeartbeats 20000000 in
theorem mk_T43_28 {n d : Nat} {I : mI} {L : mL} {R : Nat → Nat → Option Nat} {K : mK} (h : Wm n (d + 1) 64 75 3 17 [some (vr (some 43)), some (vi 5)] [] (I, L, R, 66) K) : Wm n (d + 1) 64 97 3 17 [some (vr (some 43)), some (vi 5)] [] (I, L, R, 66) K :=
  wpU_sound mCode_ok n [] [(64, 75)] 6 [] (fun v hv => by cases hv) _ _ _ _ _ _ _ _ K K (fun _ _ q => q) (h)
set_option maxRecDepth 100000 in
set_option maxHeartbeats 20000000 in
theorem mk_T43_29 {n d : Nat} {I : mI} {L : mL} {R : Nat → Nat → Option Nat} {K : mK} (e0 : R 43 0 = some 44) (h : Wm n (d + 1) 64 90 2 10 [some (vr (some 43)), some (vi 5)] [vr (some 66), vr (some 66), vi 5, vr (some 44)] (I, L, R, 67) K) : Wm n (d + 1) 64 75 3 17 [some (vr (some 43)), some (vi 5)] [] (I, L, R, 66) K :=
  wpU_sound mCode_ok n [] [(64, 90)] 13 [] (fun v hv => by cases hv) _ _ _ _ _ _ _ _ K K (fun _ _ q => q) (show Wm n (d + 1) 64 90 2 10 [some (vr (some 43)), some (vi 5)] [vr (some 66), vr (some 66), vi 5, vr (R 43 0)] (I, L, R, 67) K from (by rw [e0]; exact h))
set_option maxRecDepth 100000 in
set_option maxHeartbeats 20000000 in
theorem mk_T43_30 {n d : Nat} {I : mI} {L : mL} {R : Nat → Nat → Option Nat} {K : mK} (h : Cm n d 39 [vr (some 66)] (I, L, R, 67) (fun r H => rv r (Wm n (d + 1) 64 93 0 0 [some (vr (some 43)), some (vi 5)] [vr (some 66), vi 5, vr (some 44)] H K))) : Wm n (d + 1) 64 90 2 10 [some (vr (some 43)), some (vi 5)] [vr (some 66), vr (some 66), vi 5, vr (some 44)] (I, L, R, 67) K :=
  wpU_sound mCode_ok n [] [(64, 93)] 3 [] (fun v hv => by cases hv) _ _ _ _ _ _ _ _ K K (fun _ _ q => q) h
set_option maxRecDepth 100000 in
set_option maxHeartbeats 20000000 in
theorem mk_T43_31 {n d : Nat} {I : mI} {L : mL} {R : Nat → Nat → Option Nat} {K : mK} (h : Wm n (d + 1) 64 97 0 0 [some (vr (some 43)), some (vi (wr (5 + 1)))] [] (I, L, (up2R R 44 5 (some 66)), 69) K) : Wm n (d + 1) 64 93 0 0 [some (vr (some 43)), some (vi 5)] [vr (some 66), vi 5, vr (some 44)] (I, L, R, 69) K :=
  wpU_sound mCode_ok n [] [(64, 97)] 7 [] (fun v hv => by cases hv) _ _ _ _ _ _ _ _ K K (fun _ _ q => q) (And.intro (show (0 : Int) ≤ 5 ∧ (5 : Int) < 6 from ⟨by decide, by decide⟩) (h))
set_option maxRecDepth 100000 in
set_option maxHeartbeats 20000000 in
theorem mk_T43_32 {n d : Nat} {I : mI} {L : mL} {R : Nat → Nat → Option Nat} {K : mK} (h : Wm n (d + 1) 64 75 0 0 [some (vr (some 43)), some (vi 6)] [] (I, L, R, 69) K) : Wm n (d + 1) 64 97 0 0 [some (vr (some 43)), some (vi 6)] [] (I, L, R, 69) K :=
  wpU_sound mCode_ok n [] [(64, 75)] 6 [] (fun v hv => by cases hv) _ _ _ _ _ _ _ _ K K (fun _ _ q => q) (h)
set_option maxRecDepth 100000 in
set_option maxHeartbeats 20000000 in
theorem mk_T43_33 {n d : Nat} {I : mI} {L : mL} {R : Nat → Nat → Option Nat} {K : mK} (h : K none (I, L, R, 69)) : Wm n (d + 1) 64 75 0 0 [some (vr (some 43)), some (vi 6)] [] (I, L, R, 69) K :=
  wpU_sound mCode_ok n [] [] 9 [] (fun v hv => by cases hv) _ _ _ _ _ _ _ _ K K (fun _ _ q => q) (h)
theorem mk_T43 {n d : Nat} {I : mI} {L : mL} {R : Nat → Nat → Option Nat} {K : mK} (h : K none ((up2 (up2 (up2 (up2 (up2 (up2 (up2 (up2 (up2 (up2 I 43 1 0) 43 2 12) 43 3 0) 43 4 (-1)) 45 2 0) 45 0 6) 47 2 0) 47 0 10) 49 2 0) 49 0 8), L, (up2R (up2R (up2R (up2R (up2R (up2R (up2R (up2R (up2R (up2R (up2R (up2R (up2R (up2R (up2R (up2R (up2R (up2R (up2R (up2R (up2R (up2R (up2R (up2R (up2R R 43 0 (some 44)) 45 1 (some 46)) 43 5 (some 45)) 47 1 (some 48)) 43 6 (some 47)) 49 1 (some 50)) 43 7 (some 49)) 51 5 (some 52)) 51 6 (some 53)) 44 0 (some 51)) 54 5 (some 55)) 54 6 (some 56)) 44 1 (some 54)) 57 5 (some 58)) 57 6 (some 59)) 44 2 (some 57)) 60 5 (some 61)) 60 6 (some 62)) 44 3 (some 60)) 63 5 (some 64)) 63 6 (some 65)) 44 4 (some 63)) 66 5 (some 67)) 66 6 (some 68)) 44 5 (some 66)), 69)) : Cm n (d + 1) 64 [vr (some 43)] (I, L, R, 44) K := by
  refine mk_T43_1 ?_
  refine mk_T43_2 ?_
  refine mk_T43_3 ?_
  refine mk_W45 ?_
  rw [rv_no]
  refine mk_T43_4 ?_
  refine mk_T43_5 ?_
  refine mk_W47 ?_
  rw [rv_no]
  refine mk_T43_6 ?_
  refine mk_T43_7 ?_
  refine mk_W49 ?_
  rw [rv_no]
  refine mk_T43_8 ?_
  refine mk_T43_9 rfl ?_
  refine mk_T43_10 ?_
  refine mk_P51 ?_
  rw [rv_no]
  refine mk_T43_11 ?_
  rw [show wr (0 + 1) = 1 from wri (by decide)]
  refine mk_T43_12 ?_
  refine mk_T43_13 rfl ?_
  refine mk_T43_14 ?_
  refine mk_P54 ?_
  rw [rv_no]
  refine mk_T43_15 ?_
  rw [show wr (1 + 1) = 2 from wri (by decide)]
  refine mk_T43_16 ?_
  refine mk_T43_17 rfl ?_
  refine mk_T43_18 ?_
  refine mk_P57 ?_
  rw [rv_no]
  refine mk_T43_19 ?_
  rw [show wr (2 + 1) = 3 from wri (by decide)]
  refine mk_T43_20 ?_
  refine mk_T43_21 rfl ?_
  refine mk_T43_22 ?_
  refine mk_P60 ?_
  rw [rv_no]
  refine mk_T43_23 ?_
  rw [show wr (3 + 1) = 4 from wri (by decide)]
  refine mk_T43_24 ?_
  refine mk_T43_25 rfl ?_
  refine mk_T43_26 ?_
  refine mk_P63 ?_
  rw [rv_no]
  refine mk_T43_27 ?_
  rw [show wr (4 + 1) = 5 from wri (by decide)]
  refine mk_T43_28 ?_
  refine mk_T43_29 rfl ?_
  refine mk_T43_30 ?_
  refine mk_P66 ?_
  rw [rv_no]
  refine mk_T43_31 ?_
  rw [show wr (5 + 1) = 6 from wri (by decide)]
  refine mk_T43_32 ?_
  refine mk_T43_33 ?_
  exact h
set_option maxRecDepth 100000 in
set_option maxHeartbeats 20000000 in
theorem mk_P81_1 {n d : Nat} {I : mI} {L : mL} {R : Nat → Nat → Option Nat} {K : mK} (h : Wm n d 39 16 0 0 [some (vr (some 81))] [vr (some 83), vr (some 81)] (I, L, (up2R R 81 5 (some 82)), 84) K) : Wm n d 39 0 2 10 [some (vr (some 81))] [] (I, L, R, 82) K :=
  wpU_sound mCode_ok n [] [(39, 16)] 14 [] (fun v hv => by cases hv) _ _ _ _ _ _ _ _ K K (fun _ _ q => q) (And.intro rfl (And.intro rfl (h)))
set_option maxRecDepth 100000 in
set_option maxHeartbeats 20000000 in
theorem mk_P81_2 {n d : Nat} {I : mI} {L : mL} {R : Nat → Nat → Option Nat} {K : mK} (h : K none (I, L, (up2R R 81 6 (some 83)), 84)) : Wm n d 39 16 0 0 [some (vr (some 81))] [vr (some 83), vr (some 81)] (I, L, R, 84) K :=
  wpU_sound mCode_ok n [] [] 7 [] (fun v hv => by cases hv) _ _ _ _ _ _ _ _ K K (fun _ _ q => q) (h)
theorem mk_P81 {n d : Nat} {I : mI} {L : mL} {R : Nat → Nat → Option Nat} {K : mK} (h : K none (I, L, (up2R (up2R R 81 5 (some 82)) 81 6 (some 83)), 84)) : Cm n d 39 [vr (some 81)] (I, L, R, 82) K := by
  refine mk_P81_1 ?_
  refine mk_P81_2 ?_
  exact h
set_option maxRecDepth 100000 in
set_option maxHeartbeats 20000000 in
theorem mk_O69_1 {n d : Nat} {I : mI} {L : mL} {R : Nat → Nat → Option Nat} {K : mK} (h : Wm n d 25 23 3 120 [some (vr (some 69))] [vr (some 69)] ((up2 (up2 (up2 I 69 0 8) 69 1 18) 69 2 10), L, R, 70) K) : Wm n d 25 0 3 120 [some (vr (some 69))] [] (I, L, R, 70) K :=
  wpU_sound mCode_ok n [] [(25, 23)] 17 [] (fun v hv => by cases hv) _ _ _ _ _ _ _ _ K K (fun _ _ q => q) (h)
set_option maxRecDepth 100000 in
set_option maxHeartbeats 20000000 in
theorem mk_O69_2 {n d : Nat} {I : mI} {L : mL} {R : Nat → Nat → Option Nat} {K : mK} (h : Wm n d 25 35 1 100 [some (vr (some 69))] [vr (some 71), vr (some 69)] (I, L, (up2R R 69 3 (some 70)), 72) K) : Wm n d 25 23 3 120 [some (vr (some 69))] [vr (some 69)] (I, L, R, 70) K :=
  wpU_sound mCode_ok n [] [(25, 35)] 11 [] (fun v hv => by cases hv) _ _ _ _ _ _ _ _ K K (fun _ _ q => q) (And.intro rfl (And.intro rfl (h)))
set_option maxRecDepth 100000 in
set_option maxHeartbeats 20000000 in
theorem mk_O69_3 {n d : Nat} {I : mI} {L : mL} {R : Nat → Nat → Option Nat} {K : mK} (h : K none ((up2 (up2 I 69 5 0) 69 7 0), L, (up2R (up2R R 69 4 (some 71)) 69 6 (some 72)), 73)) : Wm n d 25 35 1 100 [some (vr (some 69))] [vr (some 71), vr (some 69)] (I, L, R, 72) K :=
  wpU_sound mCode_ok n [] [] 17 [] (fun v hv => by cases hv) _ _ _ _ _ _ _ _ K K (fun _ _ q => q) (And.intro rfl (h))
theorem mk_O69 {n d : Nat} {I : mI} {L : mL} {R : Nat → Nat → Option Nat} {K : mK} (h : K none ((up2 (up2 (up2 (up2 (up2 I 69 0 8) 69 1 18) 69 2 10) 69 5 0) 69 7 0), L, (up2R (up2R (up2R R 69 3 (some 70)) 69 4 (some 71)) 69 6 (some 72)), 73)) : Cm n d 25 [vr (some 69)] (I, L, R, 70) K := by
  refine mk_O69_1 ?_
  refine mk_O69_2 ?_
  refine mk_O69_3 ?_
  exact h
set_option maxRecDepth 100000 in
set_option maxHeartbeats 20000000 in
theorem mk_O76_1 {n d : Nat} {I : mI} {L : mL} {R : Nat → Nat → Option Nat} {K : mK} (h : Wm n d 25 23 3 120 [some (vr (some 76))] [vr (some 76)] ((up2 (up2 (up2 I 76 0 8) 76 1 18) 76 2 10), L, R, 77) K) : Wm n d 25 0 3 120 [some (vr (some 76))] [] (I, L, R, 77) K :=
  wpU_sound mCode_ok n [] [(25, 23)] 17 [] (fun v hv => by cases hv) _ _ _ _ _ _ _ _ K K (fun _ _ q => q) (h)
set_option maxRecDepth 100000 in
set_option maxHeartbeats 20000000 in
theorem mk_O76_2 {n d : Nat} {I : mI} {L : mL} {R : Nat → Nat → Option Nat} {K : mK} (h : Wm n d 25 35 1 100 [some (vr (some 76))] [vr (some 78), vr (some 76)] (I, L, (up2R R 76 3 (some 77)), 79) K) : Wm n d 25 23 3 120 [some (vr (some 76))] [vr (some 76)] (I, L, R, 77) K :=
  wpU_sound mCode_ok n [] [(25, 35)] 11 [] (fun v hv => by cases hv) _ _ _ _ _ _ _ _ K K (fun _ _ q => q) (And.intro rfl (And.intro rfl (h)))
set_option maxRecDepth 100000 in
set_option maxHeartbeats 20000000 in
theorem mk_O76_3 {n d : Nat} {I : mI} {L : mL} {R : Nat → Nat → Option Nat} {K : mK} (h : K none ((up2 (up2 I 76 5 0) 76 7 0), L, (up2R (up2R R 76 4 (some 78)) 76 6 (some 79)), 80)) : Wm n d 25 35 1 100 [some (vr (some 76))] [vr (some 78), vr (some 76)] (I, L, R, 79) K :=
  wpU_sound mCode_ok n [] [] 17 [] (fun v hv => by cases hv) _ _ _ _ _ _ _ _ K K (fun _ _ q => q) (And.intro rfl (h))
theorem mk_O76 {n d : Nat} {I : mI} {L : mL} {R : Nat → Nat → Option Nat} {K : mK} (h : K none ((up2 (up2 (up2 (up2 (up2 I 76 0 8) 76 1 18) 76 2 10) 76 5 0) 76 7 0), L, (up2R (up2R (up2R R 76 3 (some 77)) 76 4 (some 78)) 76 6 (some 79)), 80)) : Cm n d 25 [vr (some 76)] (I, L, R, 77) K := by
  refine mk_O76_1 ?_
  refine mk_O76_2 ?_
  refine mk_O76_3 ?_
  exact h
set_option maxRecDepth 100000 in
set_option maxHeartbeats 20000000 in
theorem mk_R_1 {n d : Nat} {I : mI} {L : mL} {R : Nat → Nat → Option Nat} {K : mK} (h : Wm n (d + 1) 43 22 4 128 [some (vr (some 74))] [] ((up2 (up2 I 74 1 0) 74 2 0), L, (up2R R 74 0 (some 75)), 76) K) : Wm n (d + 1) 43 0 5 228 [some (vr (some 74))] [] (I, L, R, 75) K :=
  wpU_sound mCode_ok n [] [(43, 22)] 17 [] (fun v hv => by cases hv) _ _ _ _ _ _ _ _ K K (fun _ _ q => q) (And.intro rfl (h))
set_option maxRecDepth 100000 in
set_option maxHeartbeats 20000000 in
theorem mk_R_2 {n d : Nat} {I : mI} {L : mL} {R : Nat → Nat → Option Nat} {K : mK} (h : Wm n (d + 1) 43 32 3 120 [some (vr (some 74))] [vr (some 76), vr (some 76), vr (some 74)] ((up2 I 74 3 (-1)), L, R, 77) K) : Wm n (d + 1) 43 22 4 128 [some (vr (some 74))] [] (I, L, R, 76) K :=
  wpU_sound mCode_ok n [] [(43, 32)] 11 [] (fun v hv => by cases hv) _ _ _ _ _ _ _ _ K K (fun _ _ q => q) (h)
set_option maxRecDepth 100000 in
set_option maxHeartbeats 20000000 in
theorem mk_R_3 {n d : Nat} {I : mI} {L : mL} {R : Nat → Nat → Option Nat} {K : mK} (h : Cm n d 25 [vr (some 76)] (I, L, R, 77) (fun r H => rv r (Wm n (d + 1) 43 35 0 0 [some (vr (some 74))] [vr (some 76), vr (some 74)] H K))) : Wm n (d + 1) 43 32 3 120 [some (vr (some 74))] [vr (some 76), vr (some 76), vr (some 74)] (I, L, R, 77) K :=
  wpU_sound mCode_ok n [] [(43, 35)] 3 [] (fun v hv => by cases hv) _ _ _ _ _ _ _ _ K K (fun _ _ q => q) h
set_option maxRecDepth 100000 in
set_option maxHeartbeats 20000000 in
theorem mk_R_4 {n d : Nat} {I : mI} {L : mL} {R : Nat → Nat → Option Nat} {K : mK} (h : K none (I, L, (up2R R 74 4 (some 76)), 80)) : Wm n (d + 1) 43 35 0 0 [some (vr (some 74))] [vr (some 76), vr (some 74)] (I, L, R, 80) K :=
  wpU_sound mCode_ok n [] [] 7 [] (fun v hv => by cases hv) _ _ _ _ _ _ _ _ K K (fun _ _ q => q) (h)
theorem mk_R {n d : Nat} {I : mI} {L : mL} {R : Nat → Nat → Option Nat} {K : mK} (h : K none ((up2 (up2 (up2 (up2 (up2 (up2 (up2 (up2 I 74 1 0) 74 2 0) 74 3 (-1)) 76 0 8) 76 1 18) 76 2 10) 76 5 0) 76 7 0), L, (up2R (up2R (up2R (up2R (up2R R 74 0 (some 75)) 76 3 (some 77)) 76 4 (some 78)) 76 6 (some 79)) 74 4 (some 76)), 80)) : Cm n (d + 1) 43 [vr (some 74)] (I, L, R, 75) K := by
  refine mk_R_1 ?_
  refine mk_R_2 ?_
  refine mk_R_3 ?_
  refine mk_O76 ?_
  rw [rv_no]
  refine mk_R_4 ?_
  exact h
set_option maxRecDepth 100000 in
set_option maxHeartbeats 20000000 in
theorem mk_A_1 {n d : Nat} {I : mI} {L : mL} {R : Nat → Nat → Option Nat} {K : mK} (h : Wm n (d + 1) 5 9 7 158 [some (vr (some 80))] [vr (some 81), vr (some 81), vr (some 80)] (I, L, R, 82) K) : Wm n (d + 1) 5 0 8 165 [some (vr (some 80))] [] (I, L, R, 81) K :=
  wpU_sound mCode_ok n [] [(5, 9)] 10 [] (fun v hv => by cases hv) _ _ _ _ _ _ _ _ K K (fun _ _ q => q) (h)
set_option maxRecDepth 100000 in
set_option maxHeartbeats 20000000 in
theorem mk_A_2 {n d : Nat} {I : mI} {L : mL} {R : Nat → Nat → Option Nat} {K : mK} (h : Cm n d 39 [vr (some 81)] (I, L, R, 82) (fun r H => rv r (Wm n (d + 1) 5 12 5 148 [some (vr (some 80))] [vr (some 81), vr (some 80)] H K))) : Wm n (d + 1) 5 9 7 158 [some (vr (some 80))] [vr (some 81), vr (some 81), vr (some 80)] (I, L, R, 82) K :=
  wpU_sound mCode_ok n [] [(5, 12)] 3 [] (fun v hv => by cases hv) _ _ _ _ _ _ _ _ K K (fun _ _ q => q) h
set_option maxRecDepth 100000 in
set_option maxHeartbeats 20000000 in
theorem mk_A_3 {n d : Nat} {I : mI} {L : mL} {R : Nat → Nat → Option Nat} {K : mK} (h : Wm n (d + 1) 5 28 3 78 [some (vr (some 80))] [vr (some 85), vr (some 80)] (I, L, (up2R (up2R R 80 0 (some 81)) 80 1 (some 84)), 86) K) : Wm n (d + 1) 5 12 5 148 [some (vr (some 80))] [vr (some 81), vr (some 80)] (I, L, R, 84) K :=
  wpU_sound mCode_ok n [] [(5, 28)] 13 [] (fun v hv => by cases hv) _ _ _ _ _ _ _ _ K K (fun _ _ q => q) (And.intro rfl (And.intro rfl (h)))
set_option maxRecDepth 100000 in
set_option maxHeartbeats 20000000 in
theorem mk_A_4 {n d : Nat} {I : mI} {L : mL} {R : Nat → Nat → Option Nat} {K : mK} (h : Wm n (d + 1) 5 44 1 6 [some (vr (some 80))] [vr (some 87), vr (some 80)] (I, L, (up2R (up2R R 80 2 (some 85)) 80 3 (some 86)), 88) K) : Wm n (d + 1) 5 28 3 78 [some (vr (some 80))] [vr (some 85), vr (some 80)] (I, L, R, 86) K :=
  wpU_sound mCode_ok n [] [(5, 44)] 13 [] (fun v hv => by cases hv) _ _ _ _ _ _ _ _ K K (fun _ _ q => q) (And.intro rfl (And.intro rfl (h)))
set_option maxRecDepth 100000 in
set_option maxHeartbeats 20000000 in
theorem mk_A_5 {n d : Nat} {I : mI} {L : mL} {R : Nat → Nat → Option Nat} {K : mK} (h : K none (I, L, (up2R (up2R R 80 4 (some 87)) 80 5 (some 88)), 89)) : Wm n (d + 1) 5 44 1 6 [some (vr (some 80))] [vr (some 87), vr (some 80)] (I, L, R, 88) K :=
  wpU_sound mCode_ok n [] [] 11 [] (fun v hv => by cases hv) _ _ _ _ _ _ _ _ K K (fun _ _ q => q) (And.intro rfl (h))
theorem mk_A {n d : Nat} {I : mI} {L : mL} {R : Nat → Nat → Option Nat} {K : mK} (h : K none (I, L, (up2R (up2R (up2R (up2R (up2R (up2R (up2R (up2R R 81 5 (some 82)) 81 6 (some 83)) 80 0 (some 81)) 80 1 (some 84)) 80 2 (some 85)) 80 3 (some 86)) 80 4 (some 87)) 80 5 (some 88)), 89)) : Cm n (d + 1) 5 [vr (some 80)] (I, L, R, 81) K := by
  refine mk_A_1 ?_
  refine mk_A_2 ?_
  refine mk_P81 ?_
  rw [rv_no]
  refine mk_A_3 ?_
  refine mk_A_4 ?_
  refine mk_A_5 ?_
  exact h
set_option maxRecDepth 100000 in
set_option maxHeartbeats 20000000 in
theorem mk_X_1 {n d : Nat} {I : mI} {L : mL} {R : Nat → Nat → Option Nat} {K : mK} (h : K none ((up2 I 89 1 0), L, (up2R R 89 0 (some 90)), 91)) : Wm n d 0 0 1 20 [some (vr (some 89))] [] (I, L, R, 90) K :=
  wpU_sound mCode_ok n [] [] 15 [] (fun v hv => by cases hv) _ _ _ _ _ _ _ _ K K (fun _ _ q => q) (And.intro rfl (h))
theorem mk_X {n d : Nat} {I : mI} {L : mL} {R : Nat → Nat → Option Nat} {K : mK} (h : K none ((up2 I 89 1 0), L, (up2R R 89 0 (some 90)), 91)) : Cm n d 0 [vr (some 89)] (I, L, R, 90) K := by
  refine mk_X_1 ?_
  exact h
set_option maxRecDepth 100000 in
set_option maxHeartbeats 20000000 in
theorem mk_Q92_1 {n d : Nat} {I : mI} {L : mL} {R : Nat → Nat → Option Nat} {K : mK} (h : Wm n d 61 22 0 0 [some (vr (some 92))] [] ((up2 (up2 I 92 0 (-1)) 92 1 0), L, (up2R R 92 2 (some 93)), 94) K) : Wm n d 61 0 1 60 [some (vr (some 92))] [] (I, L, R, 93) K :=
  wpU_sound mCode_ok n [] [(61, 22)] 17 [] (fun v hv => by cases hv) _ _ _ _ _ _ _ _ K K (fun _ _ q => q) (And.intro rfl (h))
set_option maxRecDepth 100000 in
set_option maxHeartbeats 20000000 in
theorem mk_Q92_2 {n d : Nat} {I : mI} {L : mL} {R : Nat → Nat → Option Nat} {K : mK} (h : K none (I, L, R, 94)) : Wm n d 61 22 0 0 [some (vr (some 92))] [] (I, L, R, 94) K :=
  wpU_sound mCode_ok n [] [] 6 [] (fun v hv => by cases hv) _ _ _ _ _ _ _ _ K K (fun _ _ q => q) (h)
theorem mk_Q92 {n d : Nat} {I : mI} {L : mL} {R : Nat → Nat → Option Nat} {K : mK} (h : K none ((up2 (up2 I 92 0 (-1)) 92 1 0), L, (up2R R 92 2 (some 93)), 94)) : Cm n d 61 [vr (some 92)] (I, L, R, 93) K := by
  refine mk_Q92_1 ?_
  refine mk_Q92_2 ?_
  exact h
set_option maxRecDepth 100000 in
set_option maxHeartbeats 20000000 in
theorem mk_Q94_1 {n d : Nat} {I : mI} {L : mL} {R : Nat → Nat → Option Nat} {K : mK} (h : Wm n d 61 22 0 0 [some (vr (some 94))] [] ((up2 (up2 I 94 0 (-1)) 94 1 0), L, (up2R R 94 2 (some 95)), 96) K) : Wm n d 61 0 1 60 [some (vr (some 94))] [] (I, L, R, 95) K :=
  wpU_sound mCode_ok n [] [(61, 22)] 17 [] (fun v hv => by cases hv) _ _ _ _ _ _ _ _ K K (fun _ _ q => q) (And.intro rfl (h))
set_option maxRecDepth 100000 in
set_option maxHeartbeats 20000000 in
theorem mk_Q94_2 {n d : Nat} {I : mI} {L : mL} {R : Nat → Nat → Option Nat} {K : mK} (h : K none (I, L, R, 96)) : Wm n d 61 22 0 0 [some (vr (some 94))] [] (I, L, R, 96) K :=
  wpU_sound mCode_ok n [] [] 6 [] (fun v hv => by cases hv) _ _ _ _ _ _ _ _ K K (fun _ _ q => q) (h)
theorem mk_Q94 {n d : Nat} {I : mI} {L : mL} {R : Nat → Nat → Option Nat} {K : mK} (h : K none ((up2 (up2 I 94 0 (-1)) 94 1 0), L, (up2R R 94 2 (some 95)), 96)) : Cm n d 61 [vr (some 94)] (I, L, R, 95) K := by
  refine mk_Q94_1 ?_
  refine mk_Q94_2 ?_
  exact h
set_option maxRecDepth 100000 in
set_option maxHeartbeats 20000000 in
theorem mk_Q96_1 {n d : Nat} {I : mI} {L : mL} {R : Nat → Nat → Option Nat} {K : mK} (h : Wm n d 61 22 0 0 [some (vr (some 96))] [] ((up2 (up2 I 96 0 (-1)) 96 1 0), L, (up2R R 96 2 (some 97)), 98) K) : Wm n d 61 0 1 60 [some (vr (some 96))] [] (I, L, R, 97) K :=
  wpU_sound mCode_ok n [] [(61, 22)] 17 [] (fun v hv => by cases hv) _ _ _ _ _ _ _ _ K K (fun _ _ q => q) (And.intro rfl (h))
set_option maxRecDepth 100000 in
set_option maxHeartbeats 20000000 in
theorem mk_Q96_2 {n d : Nat} {I : mI} {L : mL} {R : Nat → Nat → Option Nat} {K : mK} (h : K none (I, L, R, 98)) : Wm n d 61 22 0 0 [some (vr (some 96))] [] (I, L, R, 98) K :=
  wpU_sound mCode_ok n [] [] 6 [] (fun v hv => by cases hv) _ _ _ _ _ _ _ _ K K (fun _ _ q => q) (h)
theorem mk_Q96 {n d : Nat} {I : mI} {L : mL} {R : Nat → Nat → Option Nat} {K : mK} (h : K none ((up2 (up2 I 96 0 (-1)) 96 1 0), L, (up2R R 96 2 (some 97)), 98)) : Cm n d 61 [vr (some 96)] (I, L, R, 97) K := by
  refine mk_Q96_1 ?_
  refine mk_Q96_2 ?_
  exact h
set_option maxRecDepth 100000 in
set_option maxHeartbeats 20000000 in
theorem mk_Q98_1 {n d : Nat} {I : mI} {L : mL} {R : Nat → Nat → Option Nat} {K : mK} (h : Wm n d 61 22 0 0 [some (vr (some 98))] [] ((up2 (up2 I 98 0 (-1)) 98 1 0), L, (up2R R 98 2 (some 99)), 100) K) : Wm n d 61 0 1 60 [some (vr (some 98))] [] (I, L, R, 99) K :=
  wpU_sound mCode_ok n [] [(61, 22)] 17 [] (fun v hv => by cases hv) _ _ _ _ _ _ _ _ K K (fun _ _ q => q) (And.intro rfl (h))
set_option maxRecDepth 100000 in
set_option maxHeartbeats 20000000 in
theorem mk_Q98_2 {n d : Nat} {I : mI} {L : mL} {R : Nat → Nat → Option Nat} {K : mK} (h : K none (I, L, R, 100)) : Wm n d 61 22 0 0 [some (vr (some 98))] [] (I, L, R, 100) K :=
  wpU_sound mCode_ok n [] [] 6 [] (fun v hv => by cases hv) _ _ _ _ _ _ _ _ K K (fun _ _ q => q) (h)
theorem mk_Q98 {n d : Nat} {I : mI} {L : mL} {R : Nat → Nat → Option Nat} {K : mK} (h : K none ((up2 (up2 I 98 0 (-1)) 98 1 0), L, (up2R R 98 2 (some 99)), 100)) : Cm n d 61 [vr (some 98)] (I, L, R, 99) K := by
  refine mk_Q98_1 ?_
  refine mk_Q98_2 ?_
  exact h
set_option maxRecDepth 100000 in
set_option maxHeartbeats 20000000 in
theorem mk_Q100_1 {n d : Nat} {I : mI} {L : mL} {R : Nat → Nat → Option Nat} {K : mK} (h : Wm n d 61 22 0 0 [some (vr (some 100))] [] ((up2 (up2 I 100 0 (-1)) 100 1 0), L, (up2R R 100 2 (some 101)), 102) K) : Wm n d 61 0 1 60 [some (vr (some 100))] [] (I, L, R, 101) K :=
  wpU_sound mCode_ok n [] [(61, 22)] 17 [] (fun v hv => by cases hv) _ _ _ _ _ _ _ _ K K (fun _ _ q => q) (And.intro rfl (h))
set_option maxRecDepth 100000 in
set_option maxHeartbeats 20000000 in
theorem mk_Q100_2 {n d : Nat} {I : mI} {L : mL} {R : Nat → Nat → Option Nat} {K : mK} (h : K none (I, L, R, 102)) : Wm n d 61 22 0 0 [some (vr (some 100))] [] (I, L, R, 102) K :=
  wpU_sound mCode_ok n [] [] 6 [] (fun v hv => by cases hv) _ _ _ _ _ _ _ _ K K (fun _ _ q => q) (h)
theorem mk_Q100 {n d : Nat} {I : mI} {L : mL} {R : Nat → Nat → Option Nat} {K : mK} (h : K none ((up2 (up2 I 100 0 (-1)) 100 1 0), L, (up2R R 100 2 (some 101)), 102)) : Cm n d 61 [vr (some 100)] (I, L, R, 101) K := by
  refine mk_Q100_1 ?_
  refine mk_Q100_2 ?_
  exact h
set_option maxRecDepth 100000 in
set_option maxHeartbeats 20000000 in
theorem mk_Q102_1 {n d : Nat} {I : mI} {L : mL} {R : Nat → Nat → Option Nat} {K : mK} (h : Wm n d 61 22 0 0 [some (vr (some 102))] [] ((up2 (up2 I 102 0 (-1)) 102 1 0), L, (up2R R 102 2 (some 103)), 104) K) : Wm n d 61 0 1 60 [some (vr (some 102))] [] (I, L, R, 103) K :=
  wpU_sound mCode_ok n [] [(61, 22)] 17 [] (fun v hv => by cases hv) _ _ _ _ _ _ _ _ K K (fun _ _ q => q) (And.intro rfl (h))
set_option maxRecDepth 100000 in
set_option maxHeartbeats 20000000 in
theorem mk_Q102_2 {n d : Nat} {I : mI} {L : mL} {R : Nat → Nat → Option Nat} {K : mK} (h : K none (I, L, R, 104)) : Wm n d 61 22 0 0 [some (vr (some 102))] [] (I, L, R, 104) K :=
  wpU_sound mCode_ok n [] [] 6 [] (fun v hv => by cases hv) _ _ _ _ _ _ _ _ K K (fun _ _ q => q) (h)
theorem mk_Q102 {n d : Nat} {I : mI} {L : mL} {R : Nat → Nat → Option Nat} {K : mK} (h : K none ((up2 (up2 I 102 0 (-1)) 102 1 0), L, (up2R R 102 2 (some 103)), 104)) : Cm n d 61 [vr (some 102)] (I, L, R, 103) K := by
  refine mk_Q102_1 ?_
  refine mk_Q102_2 ?_
  exact h
set_option maxRecDepth 100000 in
set_option maxHeartbeats 20000000 in
theorem mk_C_1 {n d : Nat} {I : mI} {L : mL} {R : Nat → Nat → Option Nat} {K : mK} (h : Wm n (d + 6) 66 9 86 1426 [some (vr (some 16)), none] [vr (some 17), vr (some 17), vr (some 16)] (I, L, R, 18) K) : Wm n (d + 6) 66 0 87 1434 [some (vr (some 16)), none] [] (I, L, R, 17) K :=
  wpU_sound mCode_ok n [] [(66, 9)] 10 [] (fun v hv => by cases hv) _ _ _ _ _ _ _ _ K K (fun _ _ q => q) (h)
set_option maxRecDepth 100000 in
set_option maxHeartbeats 20000000 in
theorem mk_C_2 {n d : Nat} {I : mI} {L : mL} {R : Nat → Nat → Option Nat} {K : mK} (h : Cm n (d + 5) 64 [vr (some 17)] (I, L, R, 18) (fun r H => rv r (Wm n (d + 6) 66 12 61 1189 [some (vr (some 16)), none] [vr (some 17), vr (some 16)] H K))) : Wm n (d + 6) 66 9 86 1426 [some (vr (some 16)), none] [vr (some 17), vr (some 17), vr (some 16)] (I, L, R, 18) K :=
  wpU_sound mCode_ok n [] [(66, 12)] 3 [] (fun v hv => by cases hv) _ _ _ _ _ _ _ _ K K (fun _ _ q => q) h
set_option maxRecDepth 100000 in
set_option maxHeartbeats 20000000 in
theorem mk_C_3 {n d : Nat} {I : mI} {L : mL} {R : Nat → Nat → Option Nat} {K : mK} (h : Wm n (d + 6) 66 20 60 1181 [some (vr (some 16)), none] [vr (some 43), vr (some 43), vr (some 16)] (I, L, (up2R R 16 0 (some 17)), 44) K) : Wm n (d + 6) 66 12 61 1189 [some (vr (some 16)), none] [vr (some 17), vr (some 16)] (I, L, R, 43) K :=
  wpU_sound mCode_ok n [] [(66, 20)] 9 [] (fun v hv => by cases hv) _ _ _ _ _ _ _ _ K K (fun _ _ q => q) (h)
set_option maxRecDepth 100000 in
set_option maxHeartbeats 20000000 in
theorem mk_C_4 {n d : Nat} {I : mI} {L : mL} {R : Nat → Nat → Option Nat} {K : mK} (h : Cm n (d + 5) 64 [vr (some 43)] (I, L, R, 44) (fun r H => rv r (Wm n (d + 6) 66 23 35 944 [some (vr (some 16)), none] [vr (some 43), vr (some 16)] H K))) : Wm n (d + 6) 66 20 60 1181 [some (vr (some 16)), none] [vr (some 43), vr (some 43), vr (some 16)] (I, L, R, 44) K :=
  wpU_sound mCode_ok n [] [(66, 23)] 3 [] (fun v hv => by cases hv) _ _ _ _ _ _ _ _ K K (fun _ _ q => q) h
set_option maxRecDepth 100000 in
set_option maxHeartbeats 20000000 in
theorem mk_C_5 {n d : Nat} {I : mI} {L : mL} {R : Nat → Nat → Option Nat} {K : mK} (h : Wm n (d + 6) 66 36 34 936 [some (vr (some 16)), none] [vr (some 69), vr (some 69), vr (some 16)] ((up2 I 16 2 0), L, (up2R R 16 1 (some 43)), 70) K) : Wm n (d + 6) 66 23 35 944 [some (vr (some 16)), none] [vr (some 43), vr (some 16)] (I, L, R, 69) K :=
  wpU_sound mCode_ok n [] [(66, 36)] 12 [] (fun v hv => by cases hv) _ _ _ _ _ _ _ _ K K (fun _ _ q => q) (h)
set_option maxRecDepth 100000 in
set_option maxHeartbeats 20000000 in
theorem mk_C_6 {n d : Nat} {I : mI} {L : mL} {R : Nat → Nat → Option Nat} {K : mK} (h : Cm n (d + 5) 25 [vr (some 69)] (I, L, R, 70) (fun r H => rv r (Wm n (d + 6) 66 39 31 816 [some (vr (some 16)), none] [vr (some 69), vr (some 16)] H K))) : Wm n (d + 6) 66 36 34 936 [some (vr (some 16)), none] [vr (some 69), vr (some 69), vr (some 16)] (I, L, R, 70) K :=
  wpU_sound mCode_ok n [] [(66, 39)] 3 [] (fun v hv => by cases hv) _ _ _ _ _ _ _ _ K K (fun _ _ q => q) h
set_option maxRecDepth 100000 in
set_option maxHeartbeats 20000000 in
theorem mk_C_7 {n d : Nat} {I : mI} {L : mL} {R : Nat → Nat → Option Nat} {K : mK} (h : Wm n (d + 6) 66 61 29 805 [some (vr (some 16)), none] [vr (some 74), vr (some 74), vr (some 16)] ((up2 I 16 5 0), L, (up2R (up2R R 16 3 (some 69)) 16 4 (some 73)), 75) K) : Wm n (d + 6) 66 39 31 816 [some (vr (some 16)), none] [vr (some 69), vr (some 16)] (I, L, R, 73) K :=
  wpU_sound mCode_ok n [] [(66, 61)] 16 [] (fun v hv => by cases hv) _ _ _ _ _ _ _ _ K K (fun _ _ q => q) (And.intro rfl (h))
set_option maxRecDepth 100000 in
set_option maxHeartbeats 20000000 in
theorem mk_C_8 {n d : Nat} {I : mI} {L : mL} {R : Nat → Nat → Option Nat} {K : mK} (h : Cm n (d + 5) 43 [vr (some 74)] (I, L, R, 75) (fun r H => rv r (Wm n (d + 6) 66 64 24 577 [some (vr (some 16)), none] [vr (some 74), vr (some 16)] H K))) : Wm n (d + 6) 66 61 29 805 [some (vr (some 16)), none] [vr (some 74), vr (some 74), vr (some 16)] (I, L, R, 75) K :=
  wpU_sound mCode_ok n [] [(66, 64)] 3 [] (fun v hv => by cases hv) _ _ _ _ _ _ _ _ K K (fun _ _ q => q) h
set_option maxRecDepth 100000 in
set_option maxHeartbeats 20000000 in
theorem mk_C_9 {n d : Nat} {I : mI} {L : mL} {R : Nat → Nat → Option Nat} {K : mK} (h : Wm n (d + 6) 66 72 23 571 [some (vr (some 16)), none] [vr (some 80), vr (some 80), vr (some 16)] (I, L, (up2R R 16 6 (some 74)), 81) K) : Wm n (d + 6) 66 64 24 577 [some (vr (some 16)), none] [vr (some 74), vr (some 16)] (I, L, R, 80) K :=
  wpU_sound mCode_ok n [] [(66, 72)] 9 [] (fun v hv => by cases hv) _ _ _ _ _ _ _ _ K K (fun _ _ q => q) (h)
set_option maxRecDepth 100000 in
set_option maxHeartbeats 20000000 in
theorem mk_C_10 {n d : Nat} {I : mI} {L : mL} {R : Nat → Nat → Option Nat} {K : mK} (h : Cm n (d + 5) 5 [vr (some 80)] (I, L, R, 81) (fun r H => rv r (Wm n (d + 6) 66 75 15 406 [some (vr (some 16)), none] [vr (some 80), vr (some 16)] H K))) : Wm n (d + 6) 66 72 23 571 [some (vr (some 16)), none] [vr (some 80), vr (some 80), vr (some 16)] (I, L, R, 81) K :=
  wpU_sound mCode_ok n [] [(66, 75)] 3 [] (fun v hv => by cases hv) _ _ _ _ _ _ _ _ K K (fun _ _ q => q) h
set_option maxRecDepth 100000 in
set_option maxHeartbeats 20000000 in
theorem mk_C_11 {n d : Nat} {I : mI} {L : mL} {R : Nat → Nat → Option Nat} {K : mK} (h : Wm n (d + 6) 66 83 14 404 [some (vr (some 16)), none] [vr (some 89), vr (some 89), vr (some 16)] (I, L, (up2R R 16 7 (some 80)), 90) K) : Wm n (d + 6) 66 75 15 406 [some (vr (some 16)), none] [vr (some 80), vr (some 16)] (I, L, R, 89) K :=
  wpU_sound mCode_ok n [] [(66, 83)] 9 [] (fun v hv => by cases hv) _ _ _ _ _ _ _ _ K K (fun _ _ q => q) (h)
set_option maxRecDepth 100000 in
set_option maxHeartbeats 20000000 in
theorem mk_C_12 {n d : Nat} {I : mI} {L : mL} {R : Nat → Nat → Option Nat} {K : mK} (h : Cm n (d + 5) 0 [vr (some 89)] (I, L, R, 90) (fun r H => rv r (Wm n (d + 6) 66 86 13 384 [some (vr (some 16)), none] [vr (some 89), vr (some 16)] H K))) : Wm n (d + 6) 66 83 14 404 [some (vr (some 16)), none] [vr (some 89), vr (some 89), vr (some 16)] (I, L, R, 90) K :=
  wpU_sound mCode_ok n [] [(66, 86)] 3 [] (fun v hv => by cases hv) _ _ _ _ _ _ _ _ K K (fun _ _ q => q) h
set_option maxRecDepth 100000 in
set_option maxHeartbeats 20000000 in
theorem mk_C_13 {n d : Nat} {I : mI} {L : mL} {R : Nat → Nat → Option Nat} {K : mK} (h : Wm n (d + 6) 66 100 12 378 [some (vr (some 16)), some (vi 0)] [] (I, L, (up2R (up2R R 16 8 (some 89)) 16 9 (some 91)), 92) K) : Wm n (d + 6) 66 86 13 384 [some (vr (some 16)), none] [vr (some 89), vr (some 16)] (I, L, R, 91) K :=
  wpU_sound mCode_ok n [] [(66, 100)] 12 [] (fun v hv => by cases hv) _ _ _ _ _ _ _ _ K K (fun _ _ q => q) (And.intro rfl (h))
set_option maxRecDepth 100000 in
set_option maxHeartbeats 20000000 in
theorem mk_C_14 {n d : Nat} {I : mI} {L : mL} {R : Nat → Nat → Option Nat} {K : mK} (e0 : R 16 9 = some 91) (h : Wm n (d + 6) 66 115 11 375 [some (vr (some 16)), some (vi 0)] [vr (some 92), vr (some 92), vi 0, vr (some 91)] (I, L, R, 93) K) : Wm n (d + 6) 66 100 12 378 [some (vr (some 16)), some (vi 0)] [] (I, L, R, 92) K :=
  wpU_sound mCode_ok n [] [(66, 115)] 13 [] (fun v hv => by cases hv) _ _ _ _ _ _ _ _ K K (fun _ _ q => q) (show Wm n (d + 6) 66 115 11 375 [some (vr (some 16)), some (vi 0)] [vr (some 92), vr (some 92), vi 0, vr (R 16 9)] (I, L, R, 93) K from (by rw [e0]; exact h))
set_option maxRecDepth 100000 in
set_option maxHeartbeats 20000000 in
theorem mk_C_15 {n d : Nat} {I : mI} {L : mL} {R : Nat → Nat → Option Nat} {K : mK} (h : Cm n (d + 5) 61 [vr (some 92)] (I, L, R, 93) (fun r H => rv r (Wm n (d + 6) 66 118 10 315 [some (vr (some 16)), some (vi 0)] [vr (some 92), vi 0, vr (some 91)] H K))) : Wm n (d + 6) 66 115 11 375 [some (vr (some 16)), some (vi 0)] [vr (some 92), vr (some 92), vi 0, vr (some 91)] (I, L, R, 93) K :=
  wpU_sound mCode_ok n [] [(66, 118)] 3 [] (fun v hv => by cases hv) _ _ _ _ _ _ _ _ K K (fun _ _ q => q) h
set_option maxRecDepth 100000 in
set_option maxHeartbeats 20000000 in
theorem mk_C_16 {n d : Nat} {I : mI} {L : mL} {R : Nat → Nat → Option Nat} {K : mK} (h : Wm n (d + 6) 66 122 10 315 [some (vr (some 16)), some (vi (wr (0 + 1)))] [] (I, L, (up2R R 91 0 (some 92)), 94) K) : Wm n (d + 6) 66 118 10 315 [some (vr (some 16)), some (vi 0)] [vr (some 92), vi 0, vr (some 91)] (I, L, R, 94) K :=
  wpU_sound mCode_ok n [] [(66, 122)] 7 [] (fun v hv => by cases hv) _ _ _ _ _ _ _ _ K K (fun _ _ q => q) (And.intro (show (0 : Int) ≤ 0 ∧ (0 : Int) < 6 from ⟨by decide, by decide⟩) (h))
set_option maxRecDepth 100000 in
set_option maxHeartbeats 20000000 in
theorem mk_C_17 {n d : Nat} {I : mI} {L : mL} {R : Nat → Nat → Option Nat} {K : mK} (h : Wm n (d + 6) 66 100 10 315 [some (vr (some 16)), some (vi 1)] [] (I, L, R, 94) K) : Wm n (d + 6) 66 122 10 315 [some (vr (some 16)), some (vi 1)] [] (I, L, R, 94) K :=
  wpU_sound mCode_ok n [] [(66, 100)] 6 [] (fun v hv => by cases hv) _ _ _ _ _ _ _ _ K K (fun _ _ q => q) (h)
set_option maxRecDepth 100000 in
set_option maxHeartbeats 20000000 in
theorem mk_C_18 {n d : Nat} {I : mI} {L : mL} {R : Nat → Nat → Option Nat} {K : mK} (e0 : R 16 9 = some 91) (h : Wm n (d + 6) 66 115 9 312 [some (vr (some 16)), some (vi 1)] [vr (some 94), vr (some 94), vi 1, vr (some 91)] (I, L, R, 95) K) : Wm n (d + 6) 66 100 10 315 [some (vr (some 16)), some (vi 1)] [] (I, L, R, 94) K :=
  wpU_sound mCode_ok n [] [(66, 115)] 13 [] (fun v hv => by cases hv) _ _ _ _ _ _ _ _ K K (fun _ _ q => q) (show Wm n (d + 6) 66 115 9 312 [some (vr (some 16)), some (vi 1)] [vr (some 94), vr (some 94), vi 1, vr (R 16 9)] (I, L, R, 95) K from (by rw [e0]; exact h))
set_option maxRecDepth 100000 in
set_option maxHeartbeats 20000000 in
theorem mk_C_19 {n d : Nat} {I : mI} {L : mL} {R : Nat → Nat → Option Nat} {K : mK} (h : Cm n (d + 5) 61 [vr (some 94)] (I, L, R, 95) (fun r H => rv r (Wm n (d + 6) 66 118 8 252 [some (vr (some 16)), some (vi 1)] [vr (some 94), vi 1, vr (some 91)] H K))) : Wm n (d + 6) 66 115 9 312 [some (vr (some 16)), some (vi 1)] [vr (some 94), vr (some 94), vi 1, vr (some 91)] (I, L, R, 95) K :=
  wpU_sound mCode_ok n [] [(66, 118)] 3 [] (fun v hv => by cases hv) _ _ _ _ _ _ _ _ K K (fun _ _ q => q) h
set_option maxRecDepth 100000 in
set_option maxHeartbeats 20000000 in
theorem mk_C_20 {n d : Nat} {I : mI} {L : mL} {R : Nat → Nat → Option Nat} {K : mK} (h : Wm n (d + 6) 66 122 8 252 [some (vr (some 16)), some (vi (wr (1 + 1)))] [] (I, L, (up2R R 91 1 (some 94)), 96) K) : Wm n (d + 6) 66 118 8 252 [some (vr (some 16)), some (vi 1)] [vr (some 94), vi 1, vr (some 91)] (I, L, R, 96) K :=
  wpU_sound mCode_ok n [] [(66, 122)] 7 [] (fun v hv => by cases hv) _ _ _ _ _ _ _ _ K K (fun _ _ q => q) (And.intro (show (0 : Int) ≤ 1 ∧ (1 : Int) < 6 from ⟨by decide, by decide⟩) (h))
set_option maxRecDepth 100000 in
set_option maxHeartbeats 20000000 in
theorem mk_C_21 {n d : Nat} {I : mI} {L : mL} {R : Nat → Nat → Option Nat} {K : mK} (h : Wm n (d + 6) 66 100 8 252 [some (vr (some 16)), some (vi 2)] [] (I, L, R, 96) K) : Wm n (d + 6) 66 122 8 252 [some (vr (some 16)), some (vi 2)] [] (I, L, R, 96) K :=
  wpU_sound mCode_ok n [] [(66, 100)] 6 [] (fun v hv => by cases hv) _ _ _ _ _ _ _ _ K K (fun _ _ q => q) (h)
set_option maxRecDepth 100000 in
set_option maxHeartbeats 20000000 in
theorem mk_C_22 {n d : Nat} {I : mI} {L : mL} {R : Nat → Nat → Option Nat} {K : mK} (e0 : R 16 9 = some 91) (h : Wm n (d + 6) 66 115 7 249 [some (vr (some 16)), some (vi 2)] [vr (some 96), vr (some 96), vi 2, vr (some 91)] (I, L, R, 97) K) : Wm n (d + 6) 66 100 8 252 [some (vr (some 16)), some (vi 2)] [] (I, L, R, 96) K :=
  wpU_sound mCode_ok n [] [(66, 115)] 13 [] (fun v hv => by cases hv) _ _ _ _ _ _ _ _ K K (fun _ _ q => q) (show Wm n (d + 6) 66 115 7 249 [some (vr (some 16)), some (vi 2)] [vr (some 96), vr (some 96), vi 2, vr (R 16 9)] (I, L, R, 97) K from (by rw [e0]; exact h))
set_option maxRecDepth 100000 in
set_option maxHeartbeats 20000000 in
theorem mk_C_23 {n d : Nat} {I : mI} {L : mL} {R : Nat → Nat → Option Nat} {K : mK} (h : Cm n (d + 5) 61 [vr (some 96)] (I, L, R, 97) (fun r H => rv r (Wm n (d + 6) 66 118 6 189 [some (vr (some 16)), some (vi 2)] [vr (some 96), vi 2, vr (some 91)] H K))) : Wm n (d + 6) 66 115 7 249 [some (vr (some 16)), some (vi 2)] [vr (some 96), vr (some 96), vi 2, vr (some 91)] (I, L, R, 97) K :=
  wpU_sound mCode_ok n [] [(66, 118)] 3 [] (fun v hv => by cases hv) _ _ _ _ _ _ _ _ K K (fun _ _ q => q) h
set_option maxRecDepth 100000 in
set_option maxHeartbeats 20000000 in
theorem mk_C_24 {n d : Nat} {I : mI} {L : mL} {R : Nat → Nat → Option Nat} {K : mK} (h : Wm n (d + 6) 66 122 6 189 [some (vr (some 16)), some (vi (wr (2 + 1)))] [] (I, L, (up2R R 91 2 (some 96)), 98) K) : Wm n (d + 6) 66 118 6 189 [some (vr (some 16)), some (vi 2)] [vr (some 96), vi 2, vr (some 91)] (I, L, R, 98) K :=
  wpU_sound mCode_ok n [] [(66, 122)] 7 [] (fun v hv => by cases hv) _ _ _ _ _ _ _ _ K K (fun _ _ q => q) (And.intro (show (0 : Int) ≤ 2 ∧ (2 : Int) < 6 from ⟨by decide, by decide⟩) (h))
set_option maxRecDepth 100000 in
set_option maxHeartbeats 20000000 in
theorem mk_C_25 {n d : Nat} {I : mI} {L : mL} {R : Nat → Nat → Option Nat} {K : mK} (h : Wm n (d + 6) 66 100 6 189 [some (vr (some 16)), some (vi 3)] [] (I, L, R, 98) K) : Wm n (d + 6) 66 122 6 189 [some (vr (some 16)), some (vi 3)] [] (I, L, R, 98) K :=
  wpU_sound mCode_ok n [] [(66, 100)] 6 [] (fun v hv => by cases hv) _ _ _ _ _ _ _ _ K K (fun _ _ q => q) (h)
set_option maxRecDepth 100000 in
set_option maxHeartbeats 20000000 in
theorem mk_C_26 {n d : Nat} {I : mI} {L : mL} {R : Nat → Nat → Option Nat} {K : mK} (e0 : R 16 9 = some 91) (h : Wm n (d + 6) 66 115 5 186 [some (vr (some 16)), some (vi 3)] [vr (some 98), vr (some 98), vi 3, vr (some 91)] (I, L, R, 99) K) : Wm n (d + 6) 66 100 6 189 [some (vr (some 16)), some (vi 3)] [] (I, L, R, 98) K :=
  wpU_sound mCode_ok n [] [(66, 115)] 13 [] (fun v hv => by cases hv) _ _ _ _ _ _ _ _ K K (fun _ _ q => q) (show Wm n (d + 6) 66 115 5 186 [some (vr (some 16)), some (vi 3)] [vr (some 98), vr (some 98), vi 3, vr (R 16 9)] (I, L, R, 99) K from (by rw [e0]; exact h))
set_option maxRecDepth 100000 in
set_option maxHeartbeats 20000000 in
theorem mk_C_27 {n d : Nat} {I : mI} {L : mL} {R : Nat → Nat → Option Nat} {K : mK} (h : Cm n (d + 5) 61 [vr (some 98)] (I, L, R, 99) (fun r H => rv r (Wm n (d + 6) 66 118 4 126 [some (vr (some 16)), some (vi 3)] [vr (some 98), vi 3, vr (some 91)] H K))) : Wm n (d + 6) 66 115 5 186 [some (vr (some 16)), some (vi 3)] [vr (some 98), vr (some 98), vi 3, vr (some 91)] (I, L, R, 99) K :=
  wpU_sound mCode_ok n [] [(66, 118)] 3 [] (fun v hv => by cases hv) _ _ _ _ _ _ _ _ K K (fun _ _ q => q) h
set_option maxRecDepth 100000 in
set_option maxHeartbeats 20000000 in
theorem mk_C_28 {n d : Nat} {I : mI} {L : mL} {R : Nat → Nat → Option Nat} {K : mK} (h : Wm n (d + 6) 66 122 4 126 [some (vr (some 16)), some (vi (wr (3 + 1)))] [] (I, L, (up2R R 91 3 (some 98)), 100) K) : Wm n (d + 6) 66 118 4 126 [some (vr (some 16)), some (vi 3)] [vr (some 98), vi 3, vr (some 91)] (I, L, R, 100) K :=
  wpU_sound mCode_ok n [] [(66, 122)] 7 [] (fun v hv => by cases hv) _ _ _ _ _ _ _ _ K K (fun _ _ q => q) (And.intro (show (0 : Int) ≤ 3 ∧ (3 : Int) < 6 from ⟨by decide, by decide⟩) (h))
set_option maxRecDepth 100000 in
set_option maxHeartbeats 20000000 in
theorem mk_C_29 {n d : Nat} {I : mI} {L : mL} {R : Nat → Nat → Option Nat} {K : mK} (h : Wm n (d + 6) 66 100 4 126 [some (vr (some 16)), some (vi 4)] [] (I, L, R, 100) K) : Wm n (d + 6) 66 122 4 126 [some (vr (some 16)), some (vi 4)] [] (I, L, R, 100) K :=
  wpU_sound mCode_ok n [] [(66, 100)] 6 [] (fun v hv => by cases hv) _ _ _ _ _ _ _ _ K K (fun _ _ q => q) (h)
set_option maxRecDepth 100000 in
set_option maxHeartbeats 20000000 in
theorem mk_C_30 {n d : Nat} {I : mI} {L : mL} {R : Nat → Nat → Option Nat} {K : mK} (e0 : R 16 9 = some 91) (h : Wm n (d + 6) 66 115 3 123 [some (vr (some 16)), some (vi 4)] [vr (some 100), vr (some 100), vi 4, vr (some 91)] (I, L, R, 101) K) : Wm n (d + 6) 66 100 4 126 [some (vr (some 16)), some (vi 4)] [] (I, L, R, 100) K :=
  wpU_sound mCode_ok n [] [(66, 115)] 13 [] (fun v hv => by cases hv) _ _ _ _ _ _ _ _ K K (fun _ _ q => q) (show Wm n (d + 6) 66 115 3 123 [some (vr (some 16)), some (vi 4)] [vr (some 100), vr (some 100), vi 4, vr (R 16 9)] (I, L, R, 101) K from (by rw [e0]; exact h))
set_option maxRecDepth 100000 in
set_option maxHeartbeats 20000000 in
theorem mk_C_31 {n d : Nat} {I : mI} {L : mL} {R : Nat → Nat → Option Nat} {K : mK} (h : Cm n (d + 5) 61 [vr (some 100)] (I, L, R, 101) (fun r H => rv r (Wm n (d + 6) 66 118 2 63 [some (vr (some 16)), some (vi 4)] [vr (some 100), vi 4, vr (some 91)] H K))) : Wm n (d + 6) 66 115 3 123 [some (vr (some 16)), some (vi 4)] [vr (some 100), vr (some 100), vi 4, vr (some 91)] (I, L, R, 101) K :=
  wpU_sound mCode_ok n [] [(66, 118)] 3 [] (fun v hv => by cases hv) _ _ _ _ _ _ _ _ K K (fun _ _ q => q) h
set_option maxRecDepth 100000 in
set_option maxHeartbeats 20000000 in
theorem mk_C_32 {n d : Nat} {I : mI} {L : mL} {R : Nat → Nat → Option Nat} {K : mK} (h : Wm n (d + 6) 66 122 2 63 [some (vr (some 16)), some (vi (wr (4 + 1)))] [] (I, L, (up2R R 91 4 (some 100)), 102) K) : Wm n (d + 6) 66 118 2 63 [some (vr (some 16)), some (vi 4)] [vr (some 100), vi 4, vr (some 91)] (I, L, R, 102) K :=
  wpU_sound mCode_ok n [] [(66, 122)] 7 [] (fun v hv => by cases hv) _ _ _ _ _ _ _ _ K K (fun _ _ q => q) (And.intro (show (0 : Int) ≤ 4 ∧ (4 : Int) < 6 from ⟨by decide, by decide⟩) (h))
set_option maxRecDepth 100000 in
set_option maxHeartbeats 20000000 in
theorem mk_C_33 {n d : Nat} {I : mI} {L : mL} {R : Nat → Nat → Option Nat} {K : mK} (h : Wm n (d + 6) 66 100 2 63 [some (vr (some 16)), some (vi 5)] [] (I, L, R, 102) K) : Wm n (d + 6) 66 122 2 63 [some (vr (some 16)), some (vi 5)] [] (I, L, R, 102) K :=
  wpU_sound mCode_ok n [] [(66, 100)] 6 [] (fun v hv => by cases hv) _ _ _ _ _ _ _ _ K K (fun _ _ q => q) (h)
set_option maxRecDepth 100000 in
set_option maxHeartbeats 20000000 in
theorem mk_C_34 {n d : Nat} {I : mI} {L : mL} {R : Nat → Nat → Option Nat} {K : mK} (e0 : R 16 9 = some 91) (h : Wm n (d + 6) 66 115 1 60 [some (vr (some 16)), some (vi 5)] [vr (some 102), vr (some 102), vi 5, vr (some 91)] (I, L, R, 103) K) : Wm n (d + 6) 66 100 2 63 [some (vr (some 16)), some (vi 5)] [] (I, L, R, 102) K :=
  wpU_sound mCode_ok n [] [(66, 115)] 13 [] (fun v hv => by cases hv) _ _ _ _ _ _ _ _ K K (fun _ _ q => q) (show Wm n (d + 6) 66 115 1 60 [some (vr (some 16)), some (vi 5)] [vr (some 102), vr (some 102), vi 5, vr (R 16 9)] (I, L, R, 103) K from (by rw [e0]; exact h))
set_option maxRecDepth 100000 in
set_option maxHeartbeats 20000000 in
theorem mk_C_35 {n d : Nat} {I : mI} {L : mL} {R : Nat → Nat → Option Nat} {K : mK} (h : Cm n (d + 5) 61 [vr (some 102)] (I, L, R, 103) (fun r H => rv r (Wm n (d + 6) 66 118 0 0 [some (vr (some 16)), some (vi 5)] [vr (some 102), vi 5, vr (some 91)] H K))) : Wm n (d + 6) 66 115 1 60 [some (vr (some 16)), some (vi 5)] [vr (some 102), vr (some 102), vi 5, vr (some 91)] (I, L, R, 103) K :=
  wpU_sound mCode_ok n [] [(66, 118)] 3 [] (fun v hv => by cases hv) _ _ _ _ _ _ _ _ K K (fun _ _ q => q) h
set_option maxRecDepth 100000 in
set_option maxHeartbeats 20000000 in
theorem mk_C_36 {n d : Nat} {I : mI} {L : mL} {R : Nat → Nat → Option Nat} {K : mK} (h : Wm n (d + 6) 66 122 0 0 [some (vr (some 16)), some (vi (wr (5 + 1)))] [] (I, L, (up2R R 91 5 (some 102)), 104) K) : Wm n (d + 6) 66 118 0 0 [some (vr (some 16)), some (vi 5)] [vr (some 102), vi 5, vr (some 91)] (I, L, R, 104) K :=
  wpU_sound mCode_ok n [] [(66, 122)] 7 [] (fun v hv => by cases hv) _ _ _ _ _ _ _ _ K K (fun _ _ q => q) (And.intro (show (0 : Int) ≤ 5 ∧ (5 : Int) < 6 from ⟨by decide, by decide⟩) (h))
set_option maxRecDepth 100000 in
set_option maxHeartbeats 20000000 in
theorem mk_C_37 {n d : Nat} {I : mI} {L : mL} {R : Nat → Nat → Option Nat} {K : mK} (h : Wm n (d + 6) 66 100 0 0 [some (vr (some 16)), some (vi 6)] [] (I, L, R, 104) K) : Wm n (d + 6) 66 122 0 0 [some (vr (some 16)), some (vi 6)] [] (I, L, R, 104) K :=
  wpU_sound mCode_ok n [] [(66, 100)] 6 [] (fun v hv => by cases hv) _ _ _ _ _ _ _ _ K K (fun _ _ q => q) (h)
set_option maxRecDepth 100000 in
set_option maxHeartbeats 20000000 in
theorem mk_C_38 {n d : Nat} {I : mI} {L : mL} {R : Nat → Nat → Option Nat} {K : mK} (h : K none (I, L, R, 104)) : Wm n (d + 6) 66 100 0 0 [some (vr (some 16)), some (vi 6)] [] (I, L, R, 104) K :=
  wpU_sound mCode_ok n [] [] 9 [] (fun v hv => by cases hv) _ _ _ _ _ _ _ _ K K (fun _ _ q => q) (h)
theorem mk_C {n d : Nat} {I : mI} {L : mL} {R : Nat → Nat → Option Nat} {K : mK} (h : K none ((up2 (up2 (up2 (up2 (up2 (up2 (up2 (up2 (up2 (up2 (up2 (up2 (up2 (up2 (up2 (up2 (up2 (up2 (up2 (up2 (up2 (up2 (up2 (up2 (up2 (up2 (up2 (up2 (up2 (up2 (up2 (up2 (up2 (up2 (up2 (up2 (up2 (up2 (up2 (up2 (up2 (up2 (up2 (up2 (up2 (up2 (up2 (up2 I 17 1 0) 17 2 12) 17 3 0) 17 4 (-1)) 19 2 0) 19 0 6) 21 2 0) 21 0 10) 23 2 0) 23 0 8) 43 1 0) 43 2 12) 43 3 0) 43 4 (-1)) 45 2 0) 45 0 6) 47 2 0) 47 0 10) 49 2 0) 49 0 8) 16 2 0) 69 0 8) 69 1 18) 69 2 10) 69 5 0) 69 7 0) 16 5 0) 74 1 0) 74 2 0) 74 3 (-1)) 76 0 8) 76 1 18) 76 2 10) 76 5 0) 76 7 0) 89 1 0) 92 0 (-1)) 92 1 0) 94 0 (-1)) 94 1 0) 96 0 (-1)) 96 1 0) 98 0 (-1)) 98 1 0) 100 0 (-1)) 100 1 0) 102 0 (-1)) 102 1 0), L, (up2R (up2R (up2R (up2R (up2R (up2R (up2R (up2R (up2R (up2R (up2R (up2R (up2R (up2R (up2R (up2R (up2R (up2R (up2R (up2R (up2R (up2R (up2R (up2R (up2R (up2R (up2R (up2R (up2R (up2R (up2R (up2R (up2R (up2R (up2R (up2R (up2R (up2R (up2R (up2R (up2R (up2R (up2R (up2R (up2R (up2R (up2R (up2R (up2R (up2R (up2R (up2R (up2R (up2R (up2R (up2R (up2R (up2R (up2R (up2R (up2R (up2R (up2R (up2R (up2R (up2R (up2R (up2R (up2R (up2R (up2R (up2R (up2R (up2R (up2R (up2R (up2R (up2R (up2R (up2R (up2R (up2R (up2R (up2R (up2R (up2R (up2R R 17 0 (some 18)) 19 1 (some 20)) 17 5 (some 19)) 21 1 (some 22)) 17 6 (some 21)) 23 1 (some 24)) 17 7 (some 23)) 25 5 (some 26)) 25 6 (some 27)) 18 0 (some 25)) 28 5 (some 29)) 28 6 (some 30)) 18 1 (some 28)) 31 5 (some 32)) 31 6 (some 33)) 18 2 (some 31)) 34 5 (some 35)) 34 6 (some 36)) 18 3 (some 34)) 37 5 (some 38)) 37 6 (some 39)) 18 4 (some 37)) 40 5 (some 41)) 40 6 (some 42)) 18 5 (some 40)) 16 0 (some 17)) 43 0 (some 44)) 45 1 (some 46)) 43 5 (some 45)) 47 1 (some 48)) 43 6 (some 47)) 49 1 (some 50)) 43 7 (some 49)) 51 5 (some 52)) 51 6 (some 53)) 44 0 (some 51)) 54 5 (some 55)) 54 6 (some 56)) 44 1 (some 54)) 57 5 (some 58)) 57 6 (some 59)) 44 2 (some 57)) 60 5 (some 61)) 60 6 (some 62)) 44 3 (some 60)) 63 5 (some 64)) 63 6 (some 65)) 44 4 (some 63)) 66 5 (some 67)) 66 6 (some 68)) 44 5 (some 66)) 16 1 (some 43)) 69 3 (some 70)) 69 4 (some 71)) 69 6 (some 72)) 16 3 (some 69)) 16 4 (some 73)) 74 0 (some 75)) 76 3 (some 77)) 76 4 (some 78)) 76 6 (some 79)) 74 4 (some 76)) 16 6 (some 74)) 81 5 (some 82)) 81 6 (some 83)) 80 0 (some 81)) 80 1 (some 84)) 80 2 (some 85)) 80 3 (some 86)) 80 4 (some 87)) 80 5 (some 88)) 16 7 (some 80)) 89 0 (some 90)) 16 8 (some 89)) 16 9 (some 91)) 92 2 (some 93)) 91 0 (some 92)) 94 2 (some 95)) 91 1 (some 94)) 96 2 (some 97)) 91 2 (some 96)) 98 2 (some 99)) 91 3 (some 98)) 100 2 (some 101)) 91 4 (some 100)) 102 2 (some 103)) 91 5 (some 102)), 104)) : Cm n (d + 6) 66 [vr (some 16)] (I, L, R, 17) K := by
  refine mk_C_1 ?_
  refine mk_C_2 ?_
  refine mk_T17 ?_
  rw [rv_no]
  refine mk_C_3 ?_
  refine mk_C_4 ?_
  refine mk_T43 ?_
  rw [rv_no]
  refine mk_C_5 ?_
  refine mk_C_6 ?_
  refine mk_O69 ?_
  rw [rv_no]
  refine mk_C_7 ?_
  refine mk_C_8 ?_
  refine mk_R ?_
  rw [rv_no]
  refine mk_C_9 ?_
  refine mk_C_10 ?_
  refine mk_A ?_
  rw [rv_no]
  refine mk_C_11 ?_
  refine mk_C_12 ?_
  refine mk_X ?_
  rw [rv_no]
  refine mk_C_13 ?_
  refine mk_C_14 rfl ?_
  refine mk_C_15 ?_
  refine mk_Q92 ?_
  rw [rv_no]
  refine mk_C_16 ?_
  rw [show wr (0 + 1) = 1 from wri (by decide)]
  refine mk_C_17 ?_
  refine mk_C_18 rfl ?_
  refine mk_C_19 ?_
  refine mk_Q94 ?_
  rw [rv_no]
  refine mk_C_20 ?_
  rw [show wr (1 + 1) = 2 from wri (by decide)]
  refine mk_C_21 ?_
  refine mk_C_22 rfl ?_
  refine mk_C_23 ?_
  refine mk_Q96 ?_
  rw [rv_no]
  refine mk_C_24 ?_
  rw [show wr (2 + 1) = 3 from wri (by decide)]
  refine mk_C_25 ?_
  refine mk_C_26 rfl ?_
  refine mk_C_27 ?_
  refine mk_Q98 ?_
  rw [rv_no]
  refine mk_C_28 ?_
  rw [show wr (3 + 1) = 4 from wri (by decide)]
  refine mk_C_29 ?_
  refine mk_C_30 rfl ?_
  refine mk_C_31 ?_
  refine mk_Q100 ?_
  rw [rv_no]
  refine mk_C_32 ?_
  rw [show wr (4 + 1) = 5 from wri (by decide)]
  refine mk_C_33 ?_
  refine mk_C_34 rfl ?_
  refine mk_C_35 ?_
  refine mk_Q102 ?_
  rw [rv_no]
  refine mk_C_36 ?_
  rw [show wr (5 + 1) = 6 from wri (by decide)]
  refine mk_C_37 ?_
  refine mk_C_38 ?_
  exact h
set_option maxRecDepth 100000 in
set_option maxHeartbeats 20000000 in
theorem mk_M_1 {n d : Nat} {I : mI} {L : mL} {R : Nat → Nat → Option Nat} {K : mK} (h : Wm n (d + 6) 115 36 49 2035 [some (vr (some 104))] [vi 6, vr (some 104)] ((up2 (up2 (up2 (up2 I 104 0 0) 104 1 0) 104 2 12) 104 3 0), L, (up2R R 104 4 (some 105)), 106) K) : Wm n (d + 6) 115 0 50 2041 [some (vr (some 104))] [] (I, L, R, 105) K :=
  wpU_sound mCode_ok n [] [(115, 36)] 25 [] (fun v hv => by cases hv) _ _ _ _ _ _ _ _ K K (fun _ _ q => q) (And.intro rfl (h))
set_option maxRecDepth 100000 in
set_option maxHeartbeats 20000000 in
theorem mk_M_2 {n d : Nat} {I : mI} {L : mL} {R : Nat → Nat → Option Nat} {K : mK} (h : Wm n (d + 6) 115 46 47 2023 [some (vr (some 104))] [vr (some 107), vr (some 104)] (I, L, (up2R R 104 5 (some 106)), 108) K) : Wm n (d + 6) 115 36 49 2035 [some (vr (some 104))] [vi 6, vr (some 104)] (I, L, R, 106) K :=
  wpU_sound mCode_ok n [] [(115, 46)] 10 [] (fun v hv => by cases hv) _ _ _ _ _ _ _ _ K K (fun _ _ q => q) (And.intro rfl (And.intro rfl (h)))
set_option maxRecDepth 100000 in
set_option maxHeartbeats 20000000 in
theorem mk_M_3 {n d : Nat} {I : mI} {L : mL} {R : Nat → Nat → Option Nat} {K : mK} (h : Wm n (d + 6) 115 62 45 1963 [some (vr (some 104))] [vr (some 109), vr (some 104)] (I, L, (up2R (up2R R 104 6 (some 107)) 104 7 (some 108)), 110) K) : Wm n (d + 6) 115 46 47 2023 [some (vr (some 104))] [vr (some 107), vr (some 104)] (I, L, R, 108) K :=
  wpU_sound mCode_ok n [] [(115, 62)] 13 [] (fun v hv => by cases hv) _ _ _ _ _ _ _ _ K K (fun _ _ q => q) (And.intro rfl (And.intro rfl (h)))
set_option maxRecDepth 100000 in
set_option maxHeartbeats 20000000 in
theorem mk_M_4 {n d : Nat} {I : mI} {L : mL} {R : Nat → Nat → Option Nat} {K : mK} (h : Wm n (d + 6) 115 98 44 1863 [some (vr (some 104))] [] ((up2 (up2 (up2 (up2 (up2 I 104 9 0) 104 10 (-1)) 104 11 0) 104 12 0) 104 13 0), L, (up2R (up2R R 104 8 (some 109)) 104 14 (some 110)), 111) K) : Wm n (d + 6) 115 62 45 1963 [some (vr (some 104))] [vr (some 109), vr (some 104)] (I, L, R, 110) K :=
  wpU_sound mCode_ok n [] [(115, 98)] 25 [] (fun v hv => by cases hv) _ _ _ _ _ _ _ _ K K (fun _ _ q => q) (And.intro rfl (h))
set_option maxRecDepth 100000 in
set_option maxHeartbeats 20000000 in
theorem mk_M_5 {n d : Nat} {I : mI} {L : mL} {R : Nat → Nat → Option Nat} {K : mK} (h : Wm n (d + 6) 115 111 42 1797 [some (vr (some 104))] [vr (some 112), vr (some 104)] (I, L, (up2R R 104 15 (some 111)), 113) K) : Wm n (d + 6) 115 98 44 1863 [some (vr (some 104))] [] (I, L, R, 111) K :=
  wpU_sound mCode_ok n [] [(115, 111)] 12 [] (fun v hv => by cases hv) _ _ _ _ _ _ _ _ K K (fun _ _ q => q) (And.intro rfl (And.intro rfl (h)))
set_option maxRecDepth 100000 in
set_option maxHeartbeats 20000000 in
theorem mk_M_6 {n d : Nat} {I : mI} {L : mL} {R : Nat → Nat → Option Nat} {K : mK} (h : Wm n (d + 6) 115 127 40 1677 [some (vr (some 104))] [vr (some 114), vr (some 104)] (I, L, (up2R (up2R R 104 16 (some 112)) 104 17 (some 113)), 115) K) : Wm n (d + 6) 115 111 42 1797 [some (vr (some 104))] [vr (some 112), vr (some 104)] (I, L, R, 113) K :=
  wpU_sound mCode_ok n [] [(115, 127)] 13 [] (fun v hv => by cases hv) _ _ _ _ _ _ _ _ K K (fun _ _ q => q) (And.intro rfl (And.intro rfl (h)))
set_option maxRecDepth 100000 in
set_option maxHeartbeats 20000000 in
theorem mk_M_7 {n d : Nat} {I : mI} {L : mL} {R : Nat → Nat → Option Nat} {K : mK} (h : Wm n (d + 6) 115 144 38 1017 [some (vr (some 104))] [vr (some 116), vr (some 104)] (I, L, (up2R (up2R R 104 18 (some 114)) 104 19 (some 115)), 117) K) : Wm n (d + 6) 115 127 40 1677 [some (vr (some 104))] [vr (some 114), vr (some 104)] (I, L, R, 115) K :=
  wpU_sound mCode_ok n [] [(115, 144)] 13 [] (fun v hv => by cases hv) _ _ _ _ _ _ _ _ K K (fun _ _ q => q) (And.intro rfl (And.intro rfl (h)))
set_option maxRecDepth 100000 in
set_option maxHeartbeats 20000000 in
theorem mk_M_8 {n d : Nat} {I : mI} {L : mL} {R : Nat → Nat → Option Nat} {K : mK} (h : Wm n (d + 6) 115 175 36 894 [some (vr (some 104))] [vr (some 118), vr (some 104)] ((up2 (up2 (up2 I 104 22 0) 104 23 0) 104 24 0), L, (up2R (up2R R 104 20 (some 116)) 104 21 (some 117)), 119) K) : Wm n (d + 6) 115 144 38 1017 [some (vr (some 104))] [vr (some 116), vr (some 104)] (I, L, R, 117) K :=
  wpU_sound mCode_ok n [] [(115, 175)] 22 [] (fun v hv => by cases hv) _ _ _ _ _ _ _ _ K K (fun _ _ q => q) (And.intro rfl (And.intro rfl (h)))
set_option maxRecDepth 100000 in
set_option maxHeartbeats 20000000 in
theorem mk_M_9 {n d : Nat} {I : mI} {L : mL} {R : Nat → Nat → Option Nat} {K : mK} (h : Wm n (d + 6) 115 200 36 894 [some (vr (some 104))] [vr (some 118), vr (some 104)] ((up2 (up2 (up2 (up2 (up2 I 118 0 108) 118 1 105) 118 2 107) 118 3 101) 118 4 109), L, R, 119) K) : Wm n (d + 6) 115 175 36 894 [some (vr (some 104))] [vr (some 118), vr (some 104)] (I, L, R, 119) K :=
  wpU_sound mCode_ok n [] [(115, 200)] 25 [] (fun v hv => by cases hv) _ _ _ _ _ _ _ _ K K (fun _ _ q => q) (And.intro (show (0 : Int) ≤ 0 ∧ (0 : Int) < 22 from ⟨by decide, by decide⟩) (And.intro (show (0 : Int) ≤ 1 ∧ (1 : Int) < 22 from ⟨by decide, by decide⟩) (And.intro (show (0 : Int) ≤ 2 ∧ (2 : Int) < 22 from ⟨by decide, by decide⟩) (And.intro (show (0 : Int) ≤ 3 ∧ (3 : Int) < 22 from ⟨by decide, by decide⟩) (And.intro (show (0 : Int) ≤ 4 ∧ (4 : Int) < 22 from ⟨by decide, by decide⟩) (h))))))
set_option maxRecDepth 100000 in
set_option maxHeartbeats 20000000 in
theorem mk_M_10 {n d : Nat} {I : mI} {L : mL} {R : Nat → Nat → Option Nat} {K : mK} (h : Wm n (d + 6) 115 229 36 894 [some (vr (some 104))] [vr (some 118), vr (some 104)] ((up2 (up2 (up2 (up2 (up2 I 118 5 105) 118 6 110) 118 7 100) 118 8 116) 118 9 97), L, R, 119) K) : Wm n (d + 6) 115 200 36 894 [some (vr (some 104))] [vr (some 118), vr (some 104)] (I, L, R, 119) K :=
  wpU_sound mCode_ok n [] [(115, 229)] 25 [] (fun v hv => by cases hv) _ _ _ _ _ _ _ _ K K (fun _ _ q => q) (And.intro (show (0 : Int) ≤ 5 ∧ (5 : Int) < 22 from ⟨by decide, by decide⟩) (And.intro (show (0 : Int) ≤ 6 ∧ (6 : Int) < 22 from ⟨by decide, by decide⟩) (And.intro (show (0 : Int) ≤ 7 ∧ (7 : Int) < 22 from ⟨by decide, by decide⟩) (And.intro (show (0 : Int) ≤ 8 ∧ (8 : Int) < 22 from ⟨by decide, by decide⟩) (And.intro (show (0 : Int) ≤ 9 ∧ (9 : Int) < 22 from ⟨by decide, by decide⟩) (h))))))
set_option maxRecDepth 100000 in
set_option maxHeartbeats 20000000 in
theorem mk_M_11 {n d : Nat} {I : mI} {L : mL} {R : Nat → Nat → Option Nat} {K : mK} (h : Wm n (d + 6) 115 259 36 894 [some (vr (some 104))] [vr (some 118), vr (some 104)] ((up2 (up2 (up2 (up2 (up2 I 118 10 115) 118 11 116) 118 12 101) 118 13 108) 118 14 105), L, R, 119) K) : Wm n (d + 6) 115 229 36 894 [some (vr (some 104))] [vr (some 118), vr (some 104)] (I, L, R, 119) K :=
  wpU_sound mCode_ok n [] [(115, 259)] 25 [] (fun v hv => by cases hv) _ _ _ _ _ _ _ _ K K (fun _ _ q => q) (And.intro (show (0 : Int) ≤ 10 ∧ (10 : Int) < 22 from ⟨by decide, by decide⟩) (And.intro (show (0 : Int) ≤ 11 ∧ (11 : Int) < 22 from ⟨by decide, by decide⟩) (And.intro (show (0 : Int) ≤ 12 ∧ (12 : Int) < 22 from ⟨by decide, by decide⟩) (And.intro (show (0 : Int) ≤ 13 ∧ (13 : Int) < 22 from ⟨by decide, by decide⟩) (And.intro (show (0 : Int) ≤ 14 ∧ (14 : Int) < 22 from ⟨by decide, by decide⟩) (h))))))
set_option maxRecDepth 100000 in
set_option maxHeartbeats 20000000 in
theorem mk_M_12 {n d : Nat} {I : mI} {L : mL} {R : Nat → Nat → Option Nat} {K : mK} (h : Wm n (d + 6) 115 289 36 894 [some (vr (some 104))] [vr (some 118), vr (some 104)] ((up2 (up2 (up2 (up2 (up2 I 118 15 103) 118 16 104) 118 17 116) 118 18 114) 118 19 97), L, R, 119) K) : Wm n (d + 6) 115 259 36 894 [some (vr (some 104))] [vr (some 118), vr (some 104)] (I, L, R, 119) K :=
  wpU_sound mCode_ok n [] [(115, 289)] 25 [] (fun v hv => by cases hv) _ _ _ _ _ _ _ _ K K (fun _ _ q => q) (And.intro (show (0 : Int) ≤ 15 ∧ (15 : Int) < 22 from ⟨by decide, by decide⟩) (And.intro (show (0 : Int) ≤ 16 ∧ (16 : Int) < 22 from ⟨by decide, by decide⟩) (And.intro (show (0 : Int) ≤ 17 ∧ (17 : Int) < 22 from ⟨by decide, by decide⟩) (And.intro (show (0 : Int) ≤ 18 ∧ (18 : Int) < 22 from ⟨by decide, by decide⟩) (And.intro (show (0 : Int) ≤ 19 ∧ (19 : Int) < 22 from ⟨by decide, by decide⟩) (h))))))
set_option maxRecDepth 100000 in
set_option maxHeartbeats 20000000 in
theorem mk_M_13 {n d : Nat} {I : mI} {L : mL} {R : Nat → Nat → Option Nat} {K : mK} (h : Wm n (d + 6) 115 323 35 794 [some (vr (some 104))] [vr (some 104)] ((up2 (up2 (up2 (up2 I 118 20 116) 118 21 101) 104 26 (-1)) 104 28 0), L, (up2R (up2R R 104 25 (some 118)) 104 27 (some 119)), 120) K) : Wm n (d + 6) 115 289 36 894 [some (vr (some 104))] [vr (some 118), vr (some 104)] (I, L, R, 119) K :=
  wpU_sound mCode_ok n [] [(115, 323)] 25 [] (fun v hv => by cases hv) _ _ _ _ _ _ _ _ K K (fun _ _ q => q) (And.intro (show (0 : Int) ≤ 20 ∧ (20 : Int) < 22 from ⟨by decide, by decide⟩) (And.intro (show (0 : Int) ≤ 21 ∧ (21 : Int) < 22 from ⟨by decide, by decide⟩) (And.intro rfl (h))))
set_option maxRecDepth 100000 in
set_option maxHeartbeats 20000000 in
theorem mk_M_14 {n d : Nat} {I : mI} {L : mL} {R : Nat → Nat → Option Nat} {K : mK} (h : Wm n (d + 6) 115 345 33 752 [some (vr (some 104))] [vr (some 121), vr (some 104)] ((up2 (up2 I 104 29 0) 104 30 0), L, (up2R R 104 31 (some 120)), 122) K) : Wm n (d + 6) 115 323 35 794 [some (vr (some 104))] [vr (some 104)] (I, L, R, 120) K :=
  wpU_sound mCode_ok n [] [(115, 345)] 17 [] (fun v hv => by cases hv) _ _ _ _ _ _ _ _ K K (fun _ _ q => q) (And.intro rfl (And.intro rfl (h)))
set_option maxRecDepth 100000 in
set_option maxHeartbeats 20000000 in
theorem mk_M_15 {n d : Nat} {I : mI} {L : mL} {R : Nat → Nat → Option Nat} {K : mK} (h : Wm n (d + 6) 115 361 31 710 [some (vr (some 104))] [vr (some 123), vr (some 104)] (I, L, (up2R (up2R R 104 32 (some 121)) 104 33 (some 122)), 124) K) : Wm n (d + 6) 115 345 33 752 [some (vr (some 104))] [vr (some 121), vr (some 104)] (I, L, R, 122) K :=
  wpU_sound mCode_ok n [] [(115, 361)] 13 [] (fun v hv => by cases hv) _ _ _ _ _ _ _ _ K K (fun _ _ q => q) (And.intro rfl (And.intro rfl (h)))
set_option maxRecDepth 100000 in
set_option maxHeartbeats 20000000 in
theorem mk_M_16 {n d : Nat} {I : mI} {L : mL} {R : Nat → Nat → Option Nat} {K : mK} (h : Wm n (d + 6) 115 382 29 668 [some (vr (some 104))] [vr (some 125), vr (some 104)] ((up2 I 104 36 0), L, (up2R (up2R R 104 34 (some 123)) 104 35 (some 124)), 126) K) : Wm n (d + 6) 115 361 31 710 [some (vr (some 104))] [vr (some 123), vr (some 104)] (I, L, R, 124) K :=
  wpU_sound mCode_ok n [] [(115, 382)] 16 [] (fun v hv => by cases hv) _ _ _ _ _ _ _ _ K K (fun _ _ q => q) (And.intro rfl (And.intro rfl (h)))
set_option maxRecDepth 100000 in
set_option maxHeartbeats 20000000 in
theorem mk_M_17 {n d : Nat} {I : mI} {L : mL} {R : Nat → Nat → Option Nat} {K : mK} (h : Wm n (d + 6) 115 398 27 656 [some (vr (some 104))] [vr (some 127), vr (some 104)] (I, L, (up2R (up2R R 104 37 (some 125)) 104 38 (some 126)), 128) K) : Wm n (d + 6) 115 382 29 668 [some (vr (some 104))] [vr (some 125), vr (some 104)] (I, L, R, 126) K :=
  wpU_sound mCode_ok n [] [(115, 398)] 13 [] (fun v hv => by cases hv) _ _ _ _ _ _ _ _ K K (fun _ _ q => q) (And.intro rfl (And.intro rfl (h)))
set_option maxRecDepth 100000 in
set_option maxHeartbeats 20000000 in
theorem mk_M_18 {n d : Nat} {I : mI} {L : mL} {R : Nat → Nat → Option Nat} {K : mK} (h : Wm n (d + 6) 115 419 25 644 [some (vr (some 104))] [vr (some 129), vr (some 104)] ((up2 I 104 41 0), L, (up2R (up2R R 104 39 (some 127)) 104 40 (some 128)), 130) K) : Wm n (d + 6) 115 398 27 656 [some (vr (some 104))] [vr (some 127), vr (some 104)] (I, L, R, 128) K :=
  wpU_sound mCode_ok n [] [(115, 419)] 16 [] (fun v hv => by cases hv) _ _ _ _ _ _ _ _ K K (fun _ _ q => q) (And.intro rfl (And.intro rfl (h)))
set_option maxRecDepth 100000 in
set_option maxHeartbeats 20000000 in
theorem mk_M_19 {n d : Nat} {I : mI} {L : mL} {R : Nat → Nat → Option Nat} {K : mK} (h : Wm n (d + 6) 115 435 23 632 [some (vr (some 104))] [vr (some 131), vr (some 104)] (I, L, (up2R (up2R R 104 42 (some 129)) 104 43 (some 130)), 132) K) : Wm n (d + 6) 115 419 25 644 [some (vr (some 104))] [vr (some 129), vr (some 104)] (I, L, R, 130) K :=
  wpU_sound mCode_ok n [] [(115, 435)] 13 [] (fun v hv => by cases hv) _ _ _ _ _ _ _ _ K K (fun _ _ q => q) (And.intro rfl (And.intro rfl (h)))
set_option maxRecDepth 100000 in
set_option maxHeartbeats 20000000 in
theorem mk_M_20 {n d : Nat} {I : mI} {L : mL} {R : Nat → Nat → Option Nat} {K : mK} (h : Wm n (d + 6) 115 461 21 616 [some (vr (some 104))] [vr (some 133), vr (some 104)] ((up2 (up2 I 104 46 0) 104 47 0), L, (up2R (up2R R 104 44 (some 131)) 104 45 (some 132)), 134) K) : Wm n (d + 6) 115 435 23 632 [some (vr (some 104))] [vr (some 131), vr (some 104)] (I, L, R, 132) K :=
  wpU_sound mCode_ok n [] [(115, 461)] 19 [] (fun v hv => by cases hv) _ _ _ _ _ _ _ _ K K (fun _ _ q => q) (And.intro rfl (And.intro rfl (h)))
set_option maxRecDepth 100000 in
set_option maxHeartbeats 20000000 in
theorem mk_M_21 {n d : Nat} {I : mI} {L : mL} {R : Nat → Nat → Option Nat} {K : mK} (h : Wm n (d + 6) 115 477 19 598 [some (vr (some 104))] [vr (some 135), vr (some 104)] (I, L, (up2R (up2R R 104 48 (some 133)) 104 49 (some 134)), 136) K) : Wm n (d + 6) 115 461 21 616 [some (vr (some 104))] [vr (some 133), vr (some 104)] (I, L, R, 134) K :=
  wpU_sound mCode_ok n [] [(115, 477)] 13 [] (fun v hv => by cases hv) _ _ _ _ _ _ _ _ K K (fun _ _ q => q) (And.intro rfl (And.intro rfl (h)))
set_option maxRecDepth 100000 in
set_option maxHeartbeats 20000000 in
theorem mk_M_22 {n d : Nat} {I : mI} {L : mL} {R : Nat → Nat → Option Nat} {K : mK} (h : Wm n (d + 6) 115 513 18 590 [some (vr (some 104))] [] ((up2 (up2 (up2 (up2 (up2 I 104 52 0) 104 53 (-1)) 104 54 0) 104 55 0) 104 56 0), L, (up2R (up2R R 104 50 (some 135)) 104 51 (some 136)), 137) K) : Wm n (d + 6) 115 477 19 598 [some (vr (some 104))] [vr (some 135), vr (some 104)] (I, L, R, 136) K :=
  wpU_sound mCode_ok n [] [(115, 513)] 25 [] (fun v hv => by cases hv) _ _ _ _ _ _ _ _ K K (fun _ _ q => q) (And.intro rfl (h))
set_option maxRecDepth 100000 in
set_option maxHeartbeats 20000000 in
theorem mk_M_23 {n d : Nat} {I : mI} {L : mL} {R : Nat → Nat → Option Nat} {K : mK} (h : Wm n (d + 6) 115 546 16 578 [some (vr (some 104))] [vr (some 138), vr (some 104)] ((up2 (up2 (up2 (up2 I 104 57 0) 104 58 0) 104 59 0) 104 60 0), L, (up2R R 104 61 (some 137)), 139) K) : Wm n (d + 6) 115 513 18 590 [some (vr (some 104))] [] (I, L, R, 137) K :=
  wpU_sound mCode_ok n [] [(115, 546)] 24 [] (fun v hv => by cases hv) _ _ _ _ _ _ _ _ K K (fun _ _ q => q) (And.intro rfl (And.intro rfl (h)))
set_option maxRecDepth 100000 in
set_option maxHeartbeats 20000000 in
theorem mk_M_24 {n d : Nat} {I : mI} {L : mL} {R : Nat → Nat → Option Nat} {K : mK} (h : Wm n (d + 6) 115 562 14 536 [some (vr (some 104))] [vr (some 140), vr (some 104)] (I, L, (up2R (up2R R 104 62 (some 138)) 104 63 (some 139)), 141) K) : Wm n (d + 6) 115 546 16 578 [some (vr (some 104))] [vr (some 138), vr (some 104)] (I, L, R, 139) K :=
  wpU_sound mCode_ok n [] [(115, 562)] 13 [] (fun v hv => by cases hv) _ _ _ _ _ _ _ _ K K (fun _ _ q => q) (And.intro rfl (And.intro rfl (h)))
set_option maxRecDepth 100000 in
set_option maxHeartbeats 20000000 in
theorem mk_M_25 {n d : Nat} {I : mI} {L : mL} {R : Nat → Nat → Option Nat} {K : mK} (h : Wm n (d + 6) 115 578 12 506 [some (vr (some 104))] [vr (some 142), vr (some 104)] (I, L, (up2R (up2R R 104 64 (some 140)) 104 65 (some 141)), 143) K) : Wm n (d + 6) 115 562 14 536 [some (vr (some 104))] [vr (some 140), vr (some 104)] (I, L, R, 141) K :=
  wpU_sound mCode_ok n [] [(115, 578)] 13 [] (fun v hv => by cases hv) _ _ _ _ _ _ _ _ K K (fun _ _ q => q) (And.intro rfl (And.intro rfl (h)))
set_option maxRecDepth 100000 in
set_option maxHeartbeats 20000000 in
theorem mk_M_26 {n d : Nat} {I : mI} {L : mL} {R : Nat → Nat → Option Nat} {K : mK} (h : Wm n (d + 6) 115 594 10 494 [some (vr (some 104))] [vr (some 144), vr (some 104)] (I, L, (up2R (up2R R 104 66 (some 142)) 104 67 (some 143)), 145) K) : Wm n (d + 6) 115 578 12 506 [some (vr (some 104))] [vr (some 142), vr (some 104)] (I, L, R, 143) K :=
  wpU_sound mCode_ok n [] [(115, 594)] 13 [] (fun v hv => by cases hv) _ _ _ _ _ _ _ _ K K (fun _ _ q => q) (And.intro rfl (And.intro rfl (h)))
set_option maxRecDepth 100000 in
set_option maxHeartbeats 20000000 in
theorem mk_M_27 {n d : Nat} {I : mI} {L : mL} {R : Nat → Nat → Option Nat} {K : mK} (h : Wm n (d + 6) 115 610 8 474 [some (vr (some 104))] [vr (some 146), vr (some 104)] (I, L, (up2R (up2R R 104 68 (some 144)) 104 69 (some 145)), 147) K) : Wm n (d + 6) 115 594 10 494 [some (vr (some 104))] [vr (some 144), vr (some 104)] (I, L, R, 145) K :=
  wpU_sound mCode_ok n [] [(115, 610)] 13 [] (fun v hv => by cases hv) _ _ _ _ _ _ _ _ K K (fun _ _ q => q) (And.intro rfl (And.intro rfl (h)))
set_option maxRecDepth 100000 in
set_option maxHeartbeats 20000000 in
theorem mk_M_28 {n d : Nat} {I : mI} {L : mL} {R : Nat → Nat → Option Nat} {K : mK} (h : Wm n (d + 6) 115 626 6 458 [some (vr (some 104))] [vr (some 148), vr (some 104)] (I, L, (up2R (up2R R 104 70 (some 146)) 104 71 (some 147)), 149) K) : Wm n (d + 6) 115 610 8 474 [some (vr (some 104))] [vr (some 146), vr (some 104)] (I, L, R, 147) K :=
  wpU_sound mCode_ok n [] [(115, 626)] 13 [] (fun v hv => by cases hv) _ _ _ _ _ _ _ _ K K (fun _ _ q => q) (And.intro rfl (And.intro rfl (h)))
set_option maxRecDepth 100000 in
set_option maxHeartbeats 20000000 in
theorem mk_M_29 {n d : Nat} {I : mI} {L : mL} {R : Nat → Nat → Option Nat} {K : mK} (h : Wm n (d + 6) 115 647 4 432 [some (vr (some 104))] [vr (some 150), vr (some 104)] ((up2 I 104 74 0), L, (up2R (up2R R 104 72 (some 148)) 104 73 (some 149)), 151) K) : Wm n (d + 6) 115 626 6 458 [some (vr (some 104))] [vr (some 148), vr (some 104)] (I, L, R, 149) K :=
  wpU_sound mCode_ok n [] [(115, 647)] 16 [] (fun v hv => by cases hv) _ _ _ _ _ _ _ _ K K (fun _ _ q => q) (And.intro rfl (And.intro rfl (h)))
set_option maxRecDepth 100000 in
set_option maxHeartbeats 20000000 in
theorem mk_M_30 {n d : Nat} {I : mI} {L : mL} {R : Nat → Nat → Option Nat} {K : mK} (h : Wm n (d + 6) 115 671 3 426 [some (vr (some 104))] [vr (some 151), vr (some 104)] ((up2 (up2 (up2 (up2 I 151 0 (-1)) 151 1 (-1)) 151 2 (-1)) 151 3 (-1)), L, (up2R R 104 75 (some 150)), 152) K) : Wm n (d + 6) 115 647 4 432 [some (vr (some 104))] [vr (some 150), vr (some 104)] (I, L, R, 151) K :=
  wpU_sound mCode_ok n [] [(115, 671)] 25 [] (fun v hv => by cases hv) _ _ _ _ _ _ _ _ K K (fun _ _ q => q) (And.intro rfl (And.intro (show (0 : Int) ≤ 0 ∧ (0 : Int) < 6 from ⟨by decide, by decide⟩) (And.intro (show (0 : Int) ≤ 1 ∧ (1 : Int) < 6 from ⟨by decide, by decide⟩) (And.intro (show (0 : Int) ≤ 2 ∧ (2 : Int) < 6 from ⟨by decide, by decide⟩) (And.intro (show (0 : Int) ≤ 3 ∧ (3 : Int) < 6 from ⟨by decide, by decide⟩) (h))))))
set_option maxRecDepth 100000 in
set_option maxHeartbeats 20000000 in
theorem mk_M_31 {n d : Nat} {I : mI} {L : mL} {R : Nat → Nat → Option Nat} {K : mK} (h : Wm n (d + 6) 115 696 1 60 [some (vr (some 104))] [vr (some 153), vr (some 104)] ((up2 (up2 I 151 4 (-1)) 151 5 (-1)), L, (up2R (up2R R 104 76 (some 151)) 104 77 (some 152)), 154) K) : Wm n (d + 6) 115 671 3 426 [some (vr (some 104))] [vr (some 151), vr (some 104)] (I, L, R, 152) K :=
  wpU_sound mCode_ok n [] [(115, 696)] 21 [] (fun v hv => by cases hv) _ _ _ _ _ _ _ _ K K (fun _ _ q => q) (And.intro (show (0 : Int) ≤ 4 ∧ (4 : Int) < 6 from ⟨by decide, by decide⟩) (And.intro (show (0 : Int) ≤ 5 ∧ (5 : Int) < 6 from ⟨by decide, by decide⟩) (And.intro rfl (And.intro rfl (h)))))
set_option maxRecDepth 100000 in
set_option maxHeartbeats 20000000 in
theorem mk_M_32 {n d : Nat} {I : mI} {L : mL} {R : Nat → Nat → Option Nat} {K : mK} (h : K none (I, L, (up2R (up2R R 104 78 (some 153)) 104 79 (some 154)), 155)) : Wm n (d + 6) 115 696 1 60 [some (vr (some 104))] [vr (some 153), vr (some 104)] (I, L, R, 154) K :=
  wpU_sound mCode_ok n [] [] 11 [] (fun v hv => by cases hv) _ _ _ _ _ _ _ _ K K (fun _ _ q => q) (And.intro rfl (h))
theorem mk_M {n d : Nat} {I : mI} {L : mL} {R : Nat → Nat → Option Nat} {K : mK} (h : K none ((up2 (up2 (up2 (up2 (up2 (up2 (up2 (up2 (up2 (up2 (up2 (up2 (up2 (up2 (up2 (up2 (up2 (up2 (up2 (up2 (up2 (up2 (up2 (up2 (up2 (up2 (up2 (up2 (up2 (up2 (up2 (up2 (up2 (up2 (up2 (up2 (up2 (up2 (up2 (up2 (up2 (up2 (up2 (up2 (up2 (up2 (up2 (up2 (up2 (up2 (up2 (up2 (up2 (up2 (up2 (up2 (up2 (up2 I 104 0 0) 104 1 0) 104 2 12) 104 3 0) 104 9 0) 104 10 (-1)) 104 11 0) 104 12 0) 104 13 0) 104 22 0) 104 23 0) 104 24 0) 118 0 108) 118 1 105) 118 2 107) 118 3 101) 118 4 109) 118 5 105) 118 6 110) 118 7 100) 118 8 116) 118 9 97) 118 10 115) 118 11 116) 118 12 101) 118 13 108) 118 14 105) 118 15 103) 118 16 104) 118 17 116) 118 18 114) 118 19 97) 118 20 116) 118 21 101) 104 26 (-1)) 104 28 0) 104 29 0) 104 30 0) 104 36 0) 104 41 0) 104 46 0) 104 47 0) 104 52 0) 104 53 (-1)) 104 54 0) 104 55 0) 104 56 0) 104 57 0) 104 58 0) 104 59 0) 104 60 0) 104 74 0) 151 0 (-1)) 151 1 (-1)) 151 2 (-1)) 151 3 (-1)) 151 4 (-1)) 151 5 (-1)), L, (up2R (up2R (up2R (up2R (up2R (up2R (up2R (up2R (up2R (up2R (up2R (up2R (up2R (up2R (up2R (up2R (up2R (up2R (up2R (up2R (up2R (up2R (up2R (up2R (up2R (up2R (up2R (up2R (up2R (up2R (up2R (up2R (up2R (up2R (up2R (up2R (up2R (up2R (up2R (up2R (up2R (up2R (up2R (up2R (up2R (up2R (up2R (up2R (up2R (up2R R 104 4 (some 105)) 104 5 (some 106)) 104 6 (some 107)) 104 7 (some 108)) 104 8 (some 109)) 104 14 (some 110)) 104 15 (some 111)) 104 16 (some 112)) 104 17 (some 113)) 104 18 (some 114)) 104 19 (some 115)) 104 20 (some 116)) 104 21 (some 117)) 104 25 (some 118)) 104 27 (some 119)) 104 31 (some 120)) 104 32 (some 121)) 104 33 (some 122)) 104 34 (some 123)) 104 35 (some 124)) 104 37 (some 125)) 104 38 (some 126)) 104 39 (some 127)) 104 40 (some 128)) 104 42 (some 129)) 104 43 (some 130)) 104 44 (some 131)) 104 45 (some 132)) 104 48 (some 133)) 104 49 (some 134)) 104 50 (some 135)) 104 51 (some 136)) 104 61 (some 137)) 104 62 (some 138)) 104 63 (some 139)) 104 64 (some 140)) 104 65 (some 141)) 104 66 (some 142)) 104 67 (some 143)) 104 68 (some 144)) 104 69 (some 145)) 104 70 (some 146)) 104 71 (some 147)) 104 72 (some 148)) 104 73 (some 149)) 104 75 (some 150)) 104 76 (some 151)) 104 77 (some 152)) 104 78 (some 153)) 104 79 (some 154)), 155)) : Cm n (d + 6) 115 [vr (some 104)] (I, L, R, 105) K := by
  refine mk_M_1 ?_
  refine mk_M_2 ?_
  refine mk_M_3 ?_
  refine mk_M_4 ?_
  refine mk_M_5 ?_
  refine mk_M_6 ?_
  refine mk_M_7 ?_
  refine mk_M_8 ?_
  refine mk_M_9 ?_
  refine mk_M_10 ?_
  refine mk_M_11 ?_
  refine mk_M_12 ?_
  refine mk_M_13 ?_
  refine mk_M_14 ?_
  refine mk_M_15 ?_
  refine mk_M_16 ?_
  refine mk_M_17 ?_
  refine mk_M_18 ?_
  refine mk_M_19 ?_
  refine mk_M_20 ?_
  refine mk_M_21 ?_
  refine mk_M_22 ?_
  refine mk_M_23 ?_
  refine mk_M_24 ?_
  refine mk_M_25 ?_
  refine mk_M_26 ?_
  refine mk_M_27 ?_
  refine mk_M_28 ?_
  refine mk_M_29 ?_
  refine mk_M_30 ?_
  refine mk_M_31 ?_
  refine mk_M_32 ?_
  exact h
