/-! ===== the start of the law: both objects are made, the tie holds ===== -/
def sCI : List (Nat × Nat × Int) := [(17, 1, 0), (17, 2, 12), (17, 3, 0), (17, 4, (-1)), (19, 2, 0), (19, 0, 6), (21, 2, 0), (21, 0, 10), (23, 2, 0), (23, 0, 8), (43, 1, 0), (43, 2, 12), (43, 3, 0), (43, 4, (-1)), (45, 2, 0), (45, 0, 6), (47, 2, 0), (47, 0, 10), (49, 2, 0), (49, 0, 8), (16, 2, 0), (69, 0, 8), (69, 1, 18), (69, 2, 10), (69, 5, 0), (69, 7, 0), (16, 5, 0), (74, 1, 0), (74, 2, 0), (74, 3, (-1)), (76, 0, 8), (76, 1, 18), (76, 2, 10), (76, 5, 0), (76, 7, 0), (89, 1, 0), (92, 0, (-1)), (92, 1, 0), (94, 0, (-1)), (94, 1, 0), (96, 0, (-1)), (96, 1, 0), (98, 0, (-1)), (98, 1, 0), (100, 0, (-1)), (100, 1, 0), (102, 0, (-1)), (102, 1, 0)]
def sMI : List (Nat × Nat × Int) := [(104, 0, 0), (104, 1, 0), (104, 2, 12), (104, 3, 0), (104, 9, 0), (104, 10, (-1)), (104, 11, 0), (104, 12, 0), (104, 13, 0), (104, 22, 0), (104, 23, 0), (104, 24, 0), (118, 0, 108), (118, 1, 105), (118, 2, 107), (118, 3, 101), (118, 4, 109), (118, 5, 105), (118, 6, 110), (118, 7, 100), (118, 8, 116), (118, 9, 97), (118, 10, 115), (118, 11, 116), (118, 12, 101), (118, 13, 108), (118, 14, 105), (118, 15, 103), (118, 16, 104), (118, 17, 116), (118, 18, 114), (118, 19, 97), (118, 20, 116), (118, 21, 101), (104, 26, (-1)), (104, 28, 0), (104, 29, 0), (104, 30, 0), (104, 36, 0), (104, 41, 0), (104, 46, 0), (104, 47, 0), (104, 52, 0), (104, 53, (-1)), (104, 54, 0), (104, 55, 0), (104, 56, 0), (104, 57, 0), (104, 58, 0), (104, 59, 0), (104, 60, 0), (104, 74, 0), (151, 0, (-1)), (151, 1, (-1)), (151, 2, (-1)), (151, 3, (-1)), (151, 4, (-1)), (151, 5, (-1))]
def sCR : List (Nat × Nat × Nat) := [(17, 0, 18), (19, 1, 20), (17, 5, 19), (21, 1, 22), (17, 6, 21), (23, 1, 24), (17, 7, 23), (25, 5, 26), (25, 6, 27), (18, 0, 25), (28, 5, 29), (28, 6, 30), (18, 1, 28), (31, 5, 32), (31, 6, 33), (18, 2, 31), (34, 5, 35), (34, 6, 36), (18, 3, 34), (37, 5, 38), (37, 6, 39), (18, 4, 37), (40, 5, 41), (40, 6, 42), (18, 5, 40), (16, 0, 17), (43, 0, 44), (45, 1, 46), (43, 5, 45), (47, 1, 48), (43, 6, 47), (49, 1, 50), (43, 7, 49), (51, 5, 52), (51, 6, 53), (44, 0, 51), (54, 5, 55), (54, 6, 56), (44, 1, 54), (57, 5, 58), (57, 6, 59), (44, 2, 57), (60, 5, 61), (60, 6, 62), (44, 3, 60), (63, 5, 64), (63, 6, 65), (44, 4, 63), (66, 5, 67), (66, 6, 68), (44, 5, 66), (16, 1, 43), (69, 3, 70), (69, 4, 71), (69, 6, 72), (16, 3, 69), (16, 4, 73), (74, 0, 75), (76, 3, 77), (76, 4, 78), (76, 6, 79), (74, 4, 76), (16, 6, 74), (81, 5, 82), (81, 6, 83), (80, 0, 81), (80, 1, 84), (80, 2, 85), (80, 3, 86), (80, 4, 87), (80, 5, 88), (16, 7, 80), (89, 0, 90), (16, 8, 89), (16, 9, 91), (92, 2, 93), (91, 0, 92), (94, 2, 95), (91, 1, 94), (96, 2, 97), (91, 2, 96), (98, 2, 99), (91, 3, 98), (100, 2, 101), (91, 4, 100), (102, 2, 103), (91, 5, 102)]
def sMR : List (Nat × Nat × Nat) := [(104, 4, 105), (104, 5, 106), (104, 6, 107), (104, 7, 108), (104, 8, 109), (104, 14, 110), (104, 15, 111), (104, 16, 112), (104, 17, 113), (104, 18, 114), (104, 19, 115), (104, 20, 116), (104, 21, 117), (104, 25, 118), (104, 27, 119), (104, 31, 120), (104, 32, 121), (104, 33, 122), (104, 34, 123), (104, 35, 124), (104, 37, 125), (104, 38, 126), (104, 39, 127), (104, 40, 128), (104, 42, 129), (104, 43, 130), (104, 44, 131), (104, 45, 132), (104, 48, 133), (104, 49, 134), (104, 50, 135), (104, 51, 136), (104, 61, 137), (104, 62, 138), (104, 63, 139), (104, 64, 140), (104, 65, 141), (104, 66, 142), (104, 67, 143), (104, 68, 144), (104, 69, 145), (104, 70, 146), (104, 71, 147), (104, 72, 148), (104, 73, 149), (104, 75, 150), (104, 76, 151), (104, 77, 152), (104, 78, 153), (104, 79, 154)]
def upC (I : mI) : List (Nat × Nat × Int) → mI
  | [] => I
  | q :: l => upC (up2 I q.1 q.2.1 q.2.2) l
def upD (R : Nat → Nat → Option Nat) : List (Nat × Nat × Nat) → (Nat → Nat → Option Nat)
  | [] => R
  | q :: l => upD (up2R R q.1 q.2.1 (some q.2.2)) l
def lkC0 (h k : Nat) (x : Int) : List (Nat × Nat × Int) → Int
  | [] => x
  | q :: l => lkC0 h k (bif Nat.beq h q.1 && Nat.beq k q.2.1 then q.2.2 else x) l
def lkD0 (h k : Nat) (x : Option Nat) : List (Nat × Nat × Nat) → Option Nat
  | [] => x
  | q :: l => lkD0 h k (bif Nat.beq h q.1 && Nat.beq k q.2.1 then some q.2.2 else x) l
theorem bq_if {α : Type} {h a k j : Nat} {u v : α} : (if h = a ∧ k = j then u else v) = (bif Nat.beq h a && Nat.beq k j then u else v) := by
  by_cases q : h = a ∧ k = j
  · rw [if_pos q, show (Nat.beq h a && Nat.beq k j) = true by rw [Bool.and_eq_true]; exact ⟨Nat.beq_eq.mpr q.1, Nat.beq_eq.mpr q.2⟩]
    rfl
  · rw [if_neg q, show (Nat.beq h a && Nat.beq k j) = false from Bool.eq_false_iff.mpr (fun w => q (by rw [Bool.and_eq_true] at w; exact ⟨Nat.beq_eq.mp w.1, Nat.beq_eq.mp w.2⟩))]
    rfl
theorem upC_at (h k : Nat) : ∀ (l : List (Nat × Nat × Int)) (I : mI), upC I l h k = lkC0 h k (I h k) l
  | [], _ => rfl
  | q :: l, I => by
    show upC (up2 I q.1 q.2.1 q.2.2) l h k = lkC0 h k (bif Nat.beq h q.1 && Nat.beq k q.2.1 then q.2.2 else I h k) l
    rw [upC_at h k l, up2_if, bq_if]
theorem upD_at (h k : Nat) : ∀ (l : List (Nat × Nat × Nat)) (R : Nat → Nat → Option Nat), upD R l h k = lkD0 h k (R h k) l
  | [], _ => rfl
  | q :: l, R => by
    show upD (up2R R q.1 q.2.1 (some q.2.2)) l h k = lkD0 h k (bif Nat.beq h q.1 && Nat.beq k q.2.1 then some q.2.2 else R h k) l
    rw [upD_at h k l, up2R_if, bq_if]
theorem lkC0_app (h k : Nat) (m : List (Nat × Nat × Int)) : ∀ (l : List (Nat × Nat × Int)) (x : Int), lkC0 h k (lkC0 h k x l) m = lkC0 h k x (l ++ m)
  | [], _ => rfl
  | _ :: l, _ => lkC0_app h k m l _
theorem lkD0_app (h k : Nat) (m : List (Nat × Nat × Nat)) : ∀ (l : List (Nat × Nat × Nat)) (x : Option Nat), lkD0 h k (lkD0 h k x l) m = lkD0 h k x (l ++ m)
  | [], _ => rfl
  | _ :: l, _ => lkD0_app h k m l _
theorem lkD0_no {h k : Nat} {x : Option Nat} : ∀ l : List (Nat × Nat × Nat), (∀ q, q ∈ l → ¬ (h = q.1 ∧ k = q.2.1)) → lkD0 h k x l = x
  | [], _ => rfl
  | q :: l, n => by
    show lkD0 h k (bif Nat.beq h q.1 && Nat.beq k q.2.1 then some q.2.2 else x) l = x
    rw [← bq_if, if_neg (n q List.mem_cons_self)]
    exact lkD0_no l (fun r hr => n r (List.mem_cons_of_mem _ hr))
def sAI : List (Nat × Nat × Int) := sCI ++ sMI
def sAQ : List (Nat × Nat × Nat) := sCR ++ sMR
def rf0 (h k : Nat) : Option Nat := bif Nat.ble 3 h && Nat.blt h 9 && Nat.beq k 1 then some (h + 6) else none
theorem sbA : ∀ h, h < 155 → ∀ k, k < 10 → lkD0 h k (rf0 h k) sAQ = Rs 0 h k := by decide +kernel
theorem sbB : ∀ k, k < 80 → lkD0 104 k (rf0 104 k) sAQ = Rs 0 104 k := by decide +kernel
theorem sbC : ∀ q, q ∈ sAQ → (q.1 = 104 ∨ q.2.1 < 10) ∧ q.2.1 < 80 ∧ q.1 < 155 := by decide +kernel
theorem sbD : ∀ h, h < 155 → (RTl.getD h []).length ≤ 80 ∧ (h ≠ 104 → (RTl.getD h []).length ≤ 10) := by decide +kernel
theorem rf0_no {h k : Nat} (q : 9 ≤ h ∨ k ≠ 1) : rf0 h k = none := by
  unfold rf0
  rcases q with q | q
  · rw [show Nat.blt h 9 = false from Bool.eq_false_iff.mpr (fun w => by have := Nat.blt_eq.mp w; omega), Bool.and_false, Bool.false_and]
    rfl
  · rw [show Nat.beq k 1 = false from Bool.eq_false_iff.mpr (fun w => q (Nat.beq_eq.mp w)), Bool.and_false]
    rfl
theorem getD_out {l : List (Option Nat)} {k : Nat} (h : l.length ≤ k) : l.getD k none = none := by
  rw [List.getD_eq_getElem?_getD, List.getElem?_eq_none h]
  rfl
theorem Rs_first {R0 : Nat → Nat → Option Nat} (h0 : ∀ h k, R0 h k = rf0 h k) : upD (upD R0 sCR) sMR = Rs 0 := by
  funext h k
  rw [upD_at, upD_at, lkD0_app, h0]
  show lkD0 h k (rf0 h k) sAQ = Rs 0 h k
  by_cases a : h < 155
  · by_cases b : k < 10
    · exact sbA h a k b
    · by_cases d : h = 104 ∧ k < 80
      · rw [d.1]; exact sbB k d.2
      · rw [lkD0_no _ (fun q hq e => ?_), rf0_no (Or.inr (by omega)), Rs_lo a]
        · have t := sbD h a
          have g : (RTl.getD h []).length ≤ k := by
            by_cases w : h = 104
            · have := t.1; omega
            · have := t.2 w; omega
          rw [getD_out g]
          by_cases w : h = 73
          · rw [if_pos w, if_neg (by omega)]
          · rw [if_neg w, if_neg (by omega)]
        · have t := sbC q hq
          omega
  · rw [lkD0_no _ (fun q hq e => by have := (sbC q hq).2.2; omega), rf0_no (Or.inl (by omega)), Rs_hi (by omega), if_neg (by omega)]
set_option maxRecDepth 100000 in
set_option maxHeartbeats 20000000 in
theorem lw_s1 {n d : Nat} {I : mI} {L : mL} {R : Nat → Nat → Option Nat} {K : mK} (h : Cm n d 66 [vr (some 16)] (I, L, R, 17) (fun r H => rv r (Wm n (d + 1) 228 7 599912 7300806 [some (vr (some 0)), none, none, none] [vr (some 16)] H K))) : Wm n (d + 1) 228 0 600000 7302250 [some (vr (some 0)), none, none, none] [] (I, L, R, 16) K :=
  wpU_sound mCode_ok n [] [(228, 7)] 6 [] (fun v hv => by cases hv) _ _ _ _ _ _ _ _ K K (fun _ _ q => q) h
set_option maxRecDepth 100000 in
set_option maxHeartbeats 20000000 in
theorem lw_s2 {n d : Nat} {I : mI} {L : mL} {R : Nat → Nat → Option Nat} {K : mK} (h : Cm n d 115 [vr (some 104)] (I, L, R, 105) (fun r H => rv r (Wm n (d + 1) 228 15 599861 7298685 [some (vr (some 0)), some (vr (some 16)), none, none] [vr (some 104)] H K))) : Wm n (d + 1) 228 7 599912 7300806 [some (vr (some 0)), none, none, none] [vr (some 16)] (I, L, R, 104) K :=
  wpU_sound mCode_ok n [] [(228, 15)] 6 [] (fun v hv => by cases hv) _ _ _ _ _ _ _ _ K K (fun _ _ q => q) h
set_option maxRecDepth 100000 in
set_option maxHeartbeats 20000000 in
theorem lw_s3 {n d : Nat} {H : mH} {K : mK} (h : Wm n (d + 1) 228 18 599861 7298685 [some (vr (some 0)), some (vr (some 16)), some (vr (some 104)), some (vi 0)] [] H K) : Wm n (d + 1) 228 15 599861 7298685 [some (vr (some 0)), some (vr (some 16)), none, none] [vr (some 104)] H K :=
  wpU_sound mCode_ok n [] [(228, 18)] 6 [] (fun v hv => by cases hv) _ _ _ _ _ _ _ _ K K (fun _ _ q => q) h
set_option maxRecDepth 100000 in
set_option maxHeartbeats 20000000 in
theorem lw_made {n d : Nat} {I : mI} {L : mL} {R : Nat → Nat → Option Nat} {K : mK} (h : Wm n (d + 7) 228 18 599861 7298685 [some (vr (some 0)), some (vr (some 16)), some (vr (some 104)), some (vi 0)] [] (upC (upC I sCI) sMI, L, upD (upD R sCR) sMR, 155) K) : Wm n (d + 7) 228 0 600000 7302250 [some (vr (some 0)), none, none, none] [] (I, L, R, 16) K := by
  refine lw_s1 (d := d + 6) (mk_C (d := d) ?_)
  rw [rv_no]
  refine lw_s2 (d := d + 6) (mk_M (d := d) ?_)
  rw [rv_no]
  exact lw_s3 (d := d + 6) h
/-- what the machine's start holds: the tables and the texts -/
def st0 (I : mI) : Prop := (∀ h k, 16 ≤ h → I h k = 0) ∧ stat I ∧ ∀ j, j < 6 → I (3 + j) 0 = 0 ∧ ∀ k, k < (byT.getD j []).length → I (9 + j) k = (byT.getD j []).getD k 0
theorem fs_at {I : mI} (z : ∀ h k, 16 ≤ h → I h k = 0) {h k : Nat} (hh : 16 ≤ h) : upC (upC I sCI) sMI h k = lkC0 h k 0 sAI := by
  rw [upC_at, upC_at, lkC0_app, z h k hh]
  rfl
theorem lkC0_no {h k : Nat} {x : Int} : ∀ l : List (Nat × Nat × Int), (∀ q, q ∈ l → q.1 ≠ h) → lkC0 h k x l = x
  | [], _ => rfl
  | q :: l, n => by
    show lkC0 h k (bif Nat.beq h q.1 && Nat.beq k q.2.1 then q.2.2 else x) l = x
    rw [← bq_if, if_neg (fun e => n q List.mem_cons_self e.1.symm)]
    exact lkC0_no l (fun r hr => n r (List.mem_cons_of_mem _ hr))
theorem sbE : ∀ q, q ∈ sAI → 16 ≤ q.1 := by decide +kernel
theorem fs_lo {I : mI} {h : Nat} (hh : h < 16) : upC (upC I sCI) sMI h = I h := by
  funext k
  rw [upC_at, upC_at, lkC0_app]
  exact lkC0_no _ (fun q hq e => by have := sbE q hq; omega)
theorem sbZ : (∀ k, k < 6 → lkC0 105 k 0 sAI = 0) ∧ (∀ k, k < 6 → lkC0 106 k 0 sAI = 0) ∧ (∀ k, k < 6 → lkC0 107 k 0 sAI = 0) ∧ (∀ k, k < 36 → lkC0 108 k 0 sAI = 0) ∧ (∀ k, k < 24 → lkC0 109 k 0 sAI = 0) ∧ (∀ k, k < 60 → lkC0 113 k 0 sAI = 0) ∧ (∀ k, k < 6 → lkC0 132 k 0 sAI = 0) ∧ (∀ k, k < 6 → lkC0 149 k 0 sAI = 0) ∧ (∀ k, k < 6 → lkC0 152 k 0 sAI = 0) := by decide +kernel
theorem sbP : ∀ p, p < 6 → lkC0 (25 + 3 * p) 4 0 sAI = 0 ∧ lkC0 (51 + 3 * p) 4 0 sAI = 0 := by decide +kernel
theorem sbJ : ∀ j, j ≤ 6 → ∀ k, k < 100 → lkC0 (oH j + 3) k 0 sAI = 0 := by decide +kernel
theorem sbK : ∀ k, k < 100 → lkC0 72 k 0 sAI = 0 := by decide +kernel
theorem sbU : ∀ i, i < 60 → lkC0 115 i 0 sAI = 0 := by decide +kernel
theorem sbT : ∀ t, t < 6 → lkC0 151 t 0 sAI = -1 ∧ lkC0 152 t 0 sAI = 0 ∧ lkC0 (92 + 2 * t) 0 0 sAI = -1 ∧ lkC0 (92 + 2 * t) 1 0 sAI = 0 := by decide +kernel
theorem sbL : ∀ k, k < 22 → lkC0 118 k 0 sAI = letT.getD k 0 := by decide +kernel
theorem sbS : lkC0 17 1 0 sAI = 0 ∧ lkC0 17 2 0 sAI = 12 ∧ lkC0 17 3 0 sAI = 0 ∧ lkC0 17 4 0 sAI = -1 ∧ lkC0 104 0 0 sAI = 0 ∧ lkC0 104 1 0 sAI = 0 ∧ lkC0 104 2 0 sAI = 12 ∧ lkC0 104 3 0 sAI = 0 ∧ lkC0 104 9 0 sAI = 0 ∧ lkC0 104 10 0 sAI = -1 ∧ lkC0 104 11 0 sAI = 0 ∧ lkC0 104 26 0 sAI = -1 ∧ lkC0 104 41 0 sAI = 0 ∧ lkC0 104 46 0 sAI = 0 ∧ lkC0 104 47 0 sAI = 0 ∧ lkC0 104 52 0 sAI = 0 ∧ lkC0 104 74 0 sAI = 0 ∧ lkC0 16 2 0 sAI = 0 ∧ lkC0 16 5 0 sAI = 0 ∧ lkC0 19 2 0 sAI = 0 ∧ lkC0 21 2 0 sAI = 0 ∧ lkC0 23 2 0 sAI = 0 ∧ lkC0 19 0 0 sAI = 6 ∧ lkC0 21 0 0 sAI = 10 ∧ lkC0 23 0 0 sAI = 8 ∧ lkC0 69 0 0 sAI = 8 ∧ lkC0 69 1 0 sAI = 18 ∧ lkC0 69 2 0 sAI = 10 ∧ lkC0 69 5 0 sAI = 0 ∧ lkC0 74 1 0 sAI = 0 ∧ lkC0 89 1 0 sAI = 0 := by decide +kernel
theorem RC_first {I : mI} {L : mL} (s : st0 I) : RC (upC (upC I sCI) sMI) L 0 := by
  obtain ⟨z, s1, s2⟩ := s
  have g : ∀ h k, 16 ≤ h → upC (upC I sCI) sMI h k = lkC0 h k 0 sAI := fun h k hh => fs_at z hh
  have g0 : ∀ h, h < 16 → upC (upC I sCI) sMI h = I h := fun h hh => fs_lo hh
  generalize upC (upC I sCI) sMI = J at g g0
  obtain ⟨t0, t1, t2, t3, t4, t5, t6, t7, t8⟩ := sbZ
  obtain ⟨u17_1, u17_2, u17_3, u17_4, u104_0, u104_1, u104_2, u104_3, u104_9, u104_10, u104_11, u104_26, u104_41, u104_46, u104_47, u104_52, u104_74, u16_2, u16_5, u19_2, u21_2, u23_2, u19_0, u21_0, u23_0, u69_0, u69_1, u69_2, u69_5, u74_1, u89_1⟩ := sbS
  rw [← g 17 1 (by decide)] at u17_1
  rw [← g 17 2 (by decide)] at u17_2
  rw [← g 17 3 (by decide)] at u17_3
  rw [← g 17 4 (by decide)] at u17_4
  rw [← g 104 0 (by decide)] at u104_0
  rw [← g 104 1 (by decide)] at u104_1
  rw [← g 104 2 (by decide)] at u104_2
  rw [← g 104 3 (by decide)] at u104_3
  rw [← g 104 9 (by decide)] at u104_9
  rw [← g 104 10 (by decide)] at u104_10
  rw [← g 104 11 (by decide)] at u104_11
  rw [← g 104 26 (by decide)] at u104_26
  rw [← g 104 41 (by decide)] at u104_41
  rw [← g 104 46 (by decide)] at u104_46
  rw [← g 104 47 (by decide)] at u104_47
  rw [← g 104 52 (by decide)] at u104_52
  rw [← g 104 74 (by decide)] at u104_74
  rw [← g 16 2 (by decide)] at u16_2
  rw [← g 16 5 (by decide)] at u16_5
  rw [← g 19 2 (by decide)] at u19_2
  rw [← g 21 2 (by decide)] at u21_2
  rw [← g 23 2 (by decide)] at u23_2
  rw [← g 19 0 (by decide)] at u19_0
  rw [← g 21 0 (by decide)] at u21_0
  rw [← g 23 0 (by decide)] at u23_0
  rw [← g 69 0 (by decide)] at u69_0
  rw [← g 69 1 (by decide)] at u69_1
  rw [← g 69 2 (by decide)] at u69_2
  rw [← g 69 5 (by decide)] at u69_5
  rw [← g 74 1 (by decide)] at u74_1
  rw [← g 89 1 (by decide)] at u89_1
  have z105 : ∀ k, k < 6 → J 105 k = 0 := fun k hk => by rw [g _ _ (by decide)]; exact t0 k hk
  have z106 : ∀ k, k < 6 → J 106 k = 0 := fun k hk => by rw [g _ _ (by decide)]; exact t1 k hk
  have z107 : ∀ k, k < 6 → J 107 k = 0 := fun k hk => by rw [g _ _ (by decide)]; exact t2 k hk
  have z108 : ∀ k, k < 36 → J 108 k = 0 := fun k hk => by rw [g _ _ (by decide)]; exact t3 k hk
  have z109 : ∀ k, k < 24 → J 109 k = 0 := fun k hk => by rw [g _ _ (by decide)]; exact t4 k hk
  have z113 : ∀ k, k < 60 → J 113 k = 0 := fun k hk => by rw [g _ _ (by decide)]; exact t5 k hk
  have z132 : ∀ k, k < 6 → J 132 k = 0 := fun k hk => by rw [g _ _ (by decide)]; exact t6 k hk
  have z149 : ∀ k, k < 6 → J 149 k = 0 := fun k hk => by rw [g _ _ (by decide)]; exact t7 k hk
  have z152 : ∀ k, k < 6 → J 152 k = 0 := fun k hk => by rw [g _ _ (by decide)]; exact t8 k hk
  have pI0 : pI J := ⟨by rw [u104_0]; decide, by rw [u104_1]; decide, by rw [u104_2]; decide, fun p hp => by rw [z105 p hp, z106 p hp, z107 p hp]; decide, fun k hk => by rw [z108 k hk]; decide, fun k hk => by rw [z109 k hk]; decide⟩
  have n0 : nM J = 0 := by unfold nM; rw [u104_0]; rfl
  refine ⟨⟨⟨by rw [u17_1, u104_0], by rw [u17_2, u104_2], by rw [u17_3, u104_3], by rw [u17_4, u104_10]⟩, fun p hp => by rw [n0] at hp; exact absurd hp (Nat.not_lt_zero _), fun p hp => by rw [g _ _ (by omega), (sbP p hp).1]; decide, pI0, by rw [u104_3]; decide, by rw [u104_10]; decide, ⟨by rw [u19_2, u104_41], ⟨by rw [u104_41]; decide, fun k hk => by rw [u104_41] at hk; exact absurd hk (Nat.not_lt_zero _)⟩, fun k hk => by rw [u104_41] at hk; exact absurd hk (Nat.not_lt_zero _)⟩, ⟨by rw [u21_2, u104_46], ⟨by rw [u104_46]; decide, fun k hk => by rw [u104_46] at hk; exact absurd hk (Nat.not_lt_zero _)⟩, fun k hk => by rw [u104_46] at hk; exact absurd hk (Nat.not_lt_zero _)⟩, ⟨by rw [u23_2, u104_47], ⟨by rw [u104_47]; decide, fun k hk => by rw [u104_47] at hk; exact absurd hk (Nat.not_lt_zero _)⟩, fun k hk => by rw [u104_47] at hk; exact absurd hk (Nat.not_lt_zero _)⟩, fun k hk => by rw [z132 k hk]; decide⟩, ⟨by rw [u16_2, u104_52], Or.inl u104_52, fun h => by rw [u104_52] at h; exact absurd h (by decide), fun p hp => by rw [g _ _ (by omega), (sbP p hp).2]; decide, fun k hk => by rw [z149 k hk]; decide⟩, ?_, ⟨by rw [u104_11]; decide, by rw [u74_1, u104_11], fun k hk => by rw [u104_11] at hk; exact absurd hk (Nat.not_lt_zero _)⟩, ⟨[], ⟨u89_1, fun k _ hk => absurd hk (Nat.not_lt_zero _)⟩, ⟨u104_74, fun k _ hk => absurd hk (Nat.not_lt_zero _)⟩, Nat.zero_le _⟩, ?_, ⟨?_, ?_, ?_⟩, ⟨u19_0, u21_0, u23_0⟩, u104_26⟩
  · have o69 : offC J 69 = (8, 18, 10, []) := by
      unfold offC
      rw [u69_0, u69_1, u69_2, u69_5]
      rfl
    refine ⟨by decide, u16_5, u104_9, ⟨⟨?_, by rw [u69_5]; decide, fun k hk => by rw [u69_5] at hk; exact absurd hk (Nat.not_lt_zero _), fun k hk => by rw [g _ _ (by decide), sbK k hk]; decide⟩, o69⟩, ?_, fun j hj => absurd hj (Nat.not_lt_zero _), fun j _ hj k hk => by rw [g _ _ (by have := oH_76 j; omega), sbJ j hj k hk]; decide, fun i hi => by rw [g _ _ (by decide), sbU i hi]; omega⟩
    · rw [o69]
      exact ⟨by decide, by decide, by decide, by decide, fun w hw => by cases hw⟩
    · have k0 : kM (up2 J 104 10 (-1)) = 0 := by unfold kM; rw [up2_same, if_pos (by decide)]
      refine ⟨⟨by rw [up2_same]; decide, fun h => ?_⟩, fun i hi => ?_, fun i hi => ?_, ?_⟩
      · rw [up2_same] at h; exact absurd h (by decide)
      · rw [up2_nj (by decide), z113 i hi]; decide
      · rw [k0] at hi; exact absurd hi (Nat.not_lt_zero _)
      · rw [up2_at (by decide), u104_26]; decide
  · refine ⟨fun t ht => ?_, fun t ht => ?_⟩
    · obtain ⟨a, b, _, _⟩ := sbT t ht
      rw [g _ _ (by decide), g _ _ (by decide), a, b]
      decide
    · obtain ⟨a, b, c, d⟩ := sbT t ht
      rw [g _ _ (by omega), g _ _ (by decide), g _ _ (by omega), g _ _ (by decide), a, b, c, d]
      exact ⟨rfl, rfl, fun k hk => absurd hk (by omega)⟩
  · exact ⟨fun k hk => by rw [g0 2 (by decide)]; exact s1.1 k hk, fun k hk => by rw [g0 1 (by decide)]; exact s1.2 k hk⟩
  · intro j hj
    rw [g0 _ (by omega), g0 _ (by omega)]
    exact s2 j hj
  · intro k hk
    rw [g _ _ (by decide)]
    exact sbL k hk
