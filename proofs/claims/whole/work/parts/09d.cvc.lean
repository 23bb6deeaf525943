set_option maxRecDepth 20000 in
set_option maxHeartbeats 2000000 in
theorem x_ends {n d : Nat} {p : Int} {I : mI} {L : mL} {c : Nat} {K : mK2} (h : if p = 0 then (C2 n (d + 5) 112 [vr (some 16)] I L c (fun r1 I2 L3 c4 => rr r1 (fun o5 => drf o5 (fun a6 => W2 n (d + 6) 91 19 [some (vr (some 16)), some (vi p), some (vr (some a6)), some (vi 0), some (vi 0), none] [] I2 L3 c4 K)))) else (if p = 1 then (C2 n (d + 5) 112 [vr (some 16)] I L c (fun r7 I8 L9 c10 => rr r7 (fun o11 => drf o11 (fun a12 => W2 n (d + 6) 91 19 [some (vr (some 16)), some (vi p), some (vr (some a12)), some (vi 0), some (vi 0), none] [] I8 L9 c10 K)))) else (K (some (vi (-1))) I L c))) : C2 n (d + 6) 91 [vr (some 16), vi p] I L c K :=
  vc_C (by decide +kernel) (vc_W [31, 32, 57, 105, 106, 107, 108, 109, 110] [(91, 19, [false, false, false, false, false, true])] 11 (by decide +kernel) h)

set_option maxRecDepth 20000 in
set_option maxHeartbeats 2000000 in
theorem x_ends_19 {n d : Nat} {l1 : Int} {l2 : Nat} {l3 : Int} {l4 : Int} {I : mI} {L : mL} {c : Nat} {K : mK2} (h : if l4 < (I 17 1) then ((0 ≤ l4 ∧ l4 < 6) ∧ (C2 n (d + 5) 24 [vr (some 80), vr (some 17), vr (Rs c 18 l4.toNat)] I L c (fun r1 I2 L3 c4 => ri r1 (fun x5 => if l1 = 0 then (chk (Nat.beq (TY l2) 2) (C2 n (d + 5) 36 [vr (some l2), vr (some 81), vi x5] I2 L3 c4 (fun r6 I7 L8 c9 => ri r6 (fun x10 => W2 n (d + 6) 91 19 [some (vr (some 16)), some (vi l1), some (vr (some l2)), some (vi (wr (l3 + x10))), some (vi (wr (l4 + 1))), none] [] I7 L8 c9 K)))) else (if (I2 81 4) = 0 then (chk (Nat.beq (TY l2) 2) (C2 n (d + 5) 37 [vr (some l2), vr (some 81), vi x5] I2 L3 c4 (fun r11 I12 L13 c14 => ri r11 (fun x15 => C2 n (d + 5) 220 [vi x15] I12 L13 c14 (fun r16 I17 L18 c19 => ri r16 (fun x20 => W2 n (d + 6) 91 19 [some (vr (some 16)), some (vi l1), some (vr (some l2)), some (vi (wr (l3 + x20))), some (vi (wr (l4 + 1))), none] [] I17 L18 c19 K)))))) else (W2 n (d + 6) 91 19 [some (vr (some 16)), some (vi l1), some (vr (some l2)), some (vi l3), some (vi (wr (l4 + 1))), none] [] I2 L3 c4 K)))))) else (K (some (vi l3)) I L c)) : W2 n (d + 6) 91 19 [some (vr (some 16)), some (vi l1), some (vr (some l2)), some (vi l3), some (vi l4), none] [] I L c K :=
  vc_W [31, 32, 57, 105, 106, 107, 108, 109, 110] [(91, 19, [false, false, false, false, false, true])] 36 (by decide +kernel) h

set_option maxRecDepth 20000 in
set_option maxHeartbeats 2000000 in
theorem x_book {n d : Nat} {p : Int} {t : Int} {I : mI} {L : mL} {c : Nat} {K : mK2} (h : if p = (-1) then (K (some (vi 0)) (up2 I 23 2 0) L c) else (if p < 0 then (K (some (vi (-1))) I L c) else (if p < (I 17 1) then (if p < 6 then (if t < 0 then (K (some (vi (-2))) I L c) else (if 999 < t then (K (some (vi (-2))) I L c) else (if (I 23 2) < (I 23 0) then (C2 n d 58 [vr (some 23), vi p, vi t, vi 0, vi 0] I L c (fun r1 I2 L3 c4 => ri r1 (fun x5 => K (some (vi x5)) I2 L3 c4))) else (K (some (vi (-4))) I L c)))) else (K (some (vi (-1))) I L c)) else (K (some (vi (-1))) I L c)))) : C2 n (d + 1) 92 [vr (some 16), vi p, vi t] I L c K :=
  vc_C (by decide +kernel) (vc_W [31, 32, 57, 105, 106, 107, 108, 109, 110] [] 27 (by decide +kernel) h)

set_option maxRecDepth 20000 in
set_option maxHeartbeats 2000000 in
theorem x_looked {n d : Nat} {I : mI} {L : mL} {c : Nat} {K : mK2} (h : W2 n (d + 6) 93 2 [some (vr (some 16)), some (vi 0), none] [] I L c K) : C2 n (d + 6) 93 [vr (some 16)] I L c K :=
  vc_C (by decide +kernel) (vc_W [31, 32, 57, 105, 106, 107, 108, 109, 110] [(93, 2, [false, false, true])] 3 (by decide +kernel) h)

set_option maxRecDepth 20000 in
set_option maxHeartbeats 2000000 in
theorem x_looked_2 {n d : Nat} {l1 : Int} {I : mI} {L : mL} {c : Nat} {K : mK2} (h : if l1 < (I 23 2) then (C2 n (d + 5) 59 [vr (some 23), vi l1, vi 0] I L c (fun r1 I2 L3 c4 => ri r1 (fun x5 => if x5 < 0 then (W2 n (d + 6) 93 2 [some (vr (some 16)), some (vi (wr (l1 + 1))), none] [] I2 L3 c4 K) else (if x5 < (I2 17 1) then (if x5 < 6 then (C2 n (d + 5) 112 [vr (some 16)] I2 L3 c4 (fun r6 I7 L8 c9 => rr r6 (fun o10 => (0 ≤ x5 ∧ x5 < 6) ∧ (drf o10 (fun a11 => chk (Nat.beq (TY a11) 2) (C2 n (d + 5) 36 [vr (some a11), vr (Rs c9 18 x5.toNat), vi (I7 17 2)] I7 L8 c9 (fun r12 I13 L14 c15 => ri r12 (fun x16 => C2 n (d + 5) 59 [vr (some 23), vi l1, vi 1] I13 L14 c15 (fun r17 I18 L19 c20 => ri r17 (fun x21 => if x16 = x21 then (W2 n (d + 6) 93 2 [some (vr (some 16)), some (vi (wr (l1 + 1))), none] [] I18 L19 c20 K) else (K (some (vi l1)) I18 L19 c20))))))))))) else (W2 n (d + 6) 93 2 [some (vr (some 16)), some (vi (wr (l1 + 1))), none] [] I2 L3 c4 K)) else (W2 n (d + 6) 93 2 [some (vr (some 16)), some (vi (wr (l1 + 1))), none] [] I2 L3 c4 K))))) else (K (some (vi (-5))) I L c)) : W2 n (d + 6) 93 2 [some (vr (some 16)), some (vi l1), none] [] I L c K :=
  vc_W [31, 32, 57, 105, 106, 107, 108, 109, 110] [(93, 2, [false, false, true])] 38 (by decide +kernel) h

set_option maxRecDepth 20000 in
set_option maxHeartbeats 2000000 in
theorem x_judge {n d : Nat} {p : Int} {t : Int} {I : mI} {L : mL} {c : Nat} {K : mK2} (h : if p < 0 then (K (some (vi (-1))) I L c) else (if p < 6 then ((0 ≤ p ∧ p < 6) ∧ (drf (Rs c 91 p.toNat) (fun a1 => chk (Nat.beq (TY a1) 6) (if (I a1 0) = (-1) then (W2 n (d + 6) 94 38 [some (vr (some 16)), none, some (vi t), some (vr (some a1)), some (vi 0)] [] I L c K) else (chk (Nat.beq (TY a1) 6) (if (I a1 0) = 2 then (W2 n (d + 6) 94 38 [some (vr (some 16)), none, some (vi t), some (vr (some a1)), some (vi 0)] [] I L c K) else (K (some (vi (-12))) I L c))))))) else (K (some (vi (-1))) I L c))) : C2 n (d + 6) 94 [vr (some 16), vi p, vi t] I L c K :=
  vc_C (by decide +kernel) (vc_W [31, 32, 57, 105, 106, 107, 108, 109, 110] [(94, 38, [false, true, false, false, false])] 19 (by decide +kernel) h)

set_option maxRecDepth 20000 in
set_option maxHeartbeats 2000000 in
theorem x_judge_38 {n d : Nat} {l2 : Int} {l3 : Nat} {l4 : Int} {I : mI} {L : mL} {c : Nat} {K : mK2} (h : if l4 < (I 17 1) then (if l2 < 0 then (K (some (vi (wr (100 + l4)))) I L c) else (chk (Nat.beq (TY l3) 6) (if l4 < (wr ((I l3 1) - l2)) then (chk (Nat.beq (TY l3) 6) (drf (Rs c l3 2) (fun a1 => chk (Nat.beq (TY a1) 101) ((0 ≤ (wr (l2 + l4)) ∧ (wr (l2 + l4)) < (LN n a1 : Nat)) ∧ (C2 n (d + 5) 112 [vr (some 16)] I L c (fun r2 I3 L4 c5 => rr r2 (fun o6 => (0 ≤ l4 ∧ l4 < 6) ∧ (drf o6 (fun a7 => chk (Nat.beq (TY a7) 2) (C2 n (d + 5) 36 [vr (some a7), vr (Rs c5 18 l4.toNat), vi (I3 17 2)] I3 L4 c5 (fun r8 I9 L10 c11 => ri r8 (fun x12 => if (lcm3 (L a1 ((wr (l2 + l4)).toNat)) (Int64.ofInt x12)) = 0 then (W2 n (d + 6) 94 38 [some (vr (some 16)), none, some (vi l2), some (vr (some l3)), some (vi (wr (l4 + 1)))] [] I9 L10 c11 K) else (K (some (vi l4)) I9 L10 c11))))))))))))) else (K (some (vi (wr (100 + l4)))) I L c)))) else (K (some (vi (-5))) I L c)) : W2 n (d + 6) 94 38 [some (vr (some 16)), none, some (vi l2), some (vr (some l3)), some (vi l4)] [] I L c K :=
  vc_W [31, 32, 57, 105, 106, 107, 108, 109, 110] [(94, 38, [false, true, false, false, false])] 36 (by decide +kernel) h

set_option maxRecDepth 20000 in
set_option maxHeartbeats 2000000 in
theorem x_image {n d : Nat} {I : mI} {L : mL} {c : Nat} {K : mK2} (h : C2 n (d + 1) 65 [vr (some 43), vr (some 17)] I L c (fun r1 I2 L3 c4 => rv r1 (K (some (vi ((up2 I2 16 2 1) 17 1))) (up2 I2 16 2 1) L3 c4))) : C2 n (d + 2) 95 [vr (some 16)] I L c K :=
  vc_C (by decide +kernel) (vc_W [31, 32, 57, 105, 106, 107, 108, 109, 110] [] 13 (by decide +kernel) h)

set_option maxRecDepth 20000 in
set_option maxHeartbeats 2000000 in
theorem x_undo {n d : Nat} {I : mI} {L : mL} {c : Nat} {K : mK2} (h : if (I 16 2) = 0 then (K (some (vi (-3))) I L c) else (C2 n (d + 1) 65 [vr (some 17), vr (some 43)] I L c (fun r1 I2 L3 c4 => rv r1 (K (some (vi (I2 17 1))) I2 L3 c4)))) : C2 n (d + 2) 96 [vr (some 16)] I L c K :=
  vc_C (by decide +kernel) (vc_W [31, 32, 57, 105, 106, 107, 108, 109, 110] [] 13 (by decide +kernel) h)

set_option maxRecDepth 20000 in
set_option maxHeartbeats 2000000 in
theorem x_act {n d : Nat} {p : Int} {t : Int} {x : Int} {I : mI} {L : mL} {c : Nat} {K : mK2} (h : C2 n (d + 2) 1 [vr (some 89)] I L c (fun r1 I2 L3 c4 => rv r1 (if p < 0 then (K (some (vi 0)) I2 L3 c4) else (if p < (I2 17 1) then (if p < 6 then (if t < 0 then (K (some (vi 0)) I2 L3 c4) else (if t < 3 then ((0 ≤ p ∧ p < 6) ∧ (C2 n (d + 2) 2 [vr (some 89), vr (Rs c4 18 p.toNat), vi t, vi x] I2 L3 c4 (fun r5 I6 L7 c8 => ri r5 (fun x9 => K (some (vi x9)) I6 L7 c8)))) else (K (some (vi 0)) I2 L3 c4))) else (K (some (vi 0)) I2 L3 c4)) else (K (some (vi 0)) I2 L3 c4))))) : C2 n (d + 3) 97 [vr (some 16), vi p, vi t, vi x] I L c K :=
  vc_C (by decide +kernel) (vc_W [31, 32, 57, 105, 106, 107, 108, 109, 110] [] 24 (by decide +kernel) h)

set_option maxRecDepth 20000 in
set_option maxHeartbeats 2000000 in
theorem x_trace {n d : Nat} {p : Int} {I : mI} {L : mL} {c : Nat} {K : mK2} (h : if p < 0 then (K (some (vi (-1))) I L c) else (if p < (I 89 1) then (if p < 20 then ((0 ≤ p ∧ p < 20) ∧ (K (some (vi (I 90 p.toNat))) I L c)) else (K (some (vi (-1))) I L c)) else (K (some (vi (-1))) I L c))) : C2 n d 98 [vr (some 16), vi p] I L c K :=
  vc_C (by decide +kernel) (vc_W [31, 32, 57, 105, 106, 107, 108, 109, 110] [] 17 (by decide +kernel) h)

set_option maxRecDepth 20000 in
set_option maxHeartbeats 2000000 in
theorem x_taken {n d : Nat} {p : Int} {t : Int} {I : mI} {L : mL} {c : Nat} {K : mK2} (h : if t < 0 then (K (some (vi (-2))) I L c) else (if t < 7 then (if p < 0 then (K (some (vi (-11))) I L c) else (if p < (I 17 1) then (if p < 6 then ((0 ≤ p ∧ p < 6) ∧ (drf (Rs c 18 p.toNat) (fun a1 => chk (Nat.beq (TY a1) 3) (C2 n d 111 [vi (I a1 1), vi t] I L c (fun r2 I3 L4 c5 => ri r2 (fun x6 => if x6 = 0 then (K (some (vi (-12))) I3 L4 c5) else (K (some (vi (I a1 1))) I3 L4 c5))))))) else (K (some (vi (-11))) I L c)) else (K (some (vi (-11))) I L c))) else (K (some (vi (-2))) I L c))) : C2 n (d + 1) 99 [vr (some 16), vi p, vi t] I L c K :=
  vc_C (by decide +kernel) (vc_W [31, 32, 57, 105, 106, 107, 108, 109, 110] [] 24 (by decide +kernel) h)

set_option maxRecDepth 20000 in
set_option maxHeartbeats 2000000 in
theorem x_count {n d : Nat} {p : Int} {I : mI} {L : mL} {c : Nat} {K : mK2} (h : if p = 0 then (K (some (vi (I 17 1))) I L c) else (if p = 1 then (K (some (vi (I 16 5))) I L c) else (if p = 2 then (K (some (vi (I 19 2))) I L c) else (if p = 3 then (K (some (vi (I 21 2))) I L c) else (if p = 4 then (K (some (vi (I 23 2))) I L c) else (if p = 5 then (K (some (vi (I 74 1))) I L c) else (if p = 6 then (K (some (vi (I 89 1))) I L c) else (K (some (vi (-2))) I L c)))))))) : C2 n d 100 [vr (some 16), vi p] I L c K :=
  vc_C (by decide +kernel) (vc_W [31, 32, 57, 105, 106, 107, 108, 109, 110] [] 8 (by decide +kernel) h)

set_option maxRecDepth 20000 in
set_option maxHeartbeats 2000000 in
theorem x_tape {n d : Nat} {p : Int} {t : Int} {x : Int} {I : mI} {L : mL} {c : Nat} {K : mK2} (h : if p < 0 then (K (some (vi (-1))) I L c) else (if p < 6 then (if t = (-1) then ((0 ≤ p ∧ p < 6) ∧ (drf (Rs c 91 p.toNat) (fun a1 => chk (Nat.beq (TY a1) 6) (C2 n (d + 1) 62 [vr (some a1), vi (-1), vi 0] I L c (fun r2 I3 L4 c5 => rv r2 (K (some (vi 1)) I3 L4 c5)))))) else (if t < 0 then (K (some (vi (-2))) I L c) else (if t < 5 then (if 60 < x then (K (some (vi (-2))) I L c) else (if x < 0 then (K (some (vi (-14))) I L c) else ((0 ≤ p ∧ p < 6) ∧ (drf (Rs c 91 p.toNat) (fun a6 => chk (Nat.beq (TY a6) 6) (C2 n (d + 1) 62 [vr (some a6), vi t, vi x] I L c (fun r7 I8 L9 c10 => rv r7 (K (some (vi 1)) I8 L9 c10)))))))) else (K (some (vi (-2))) I L c)))) else (K (some (vi (-1))) I L c))) : C2 n (d + 2) 101 [vr (some 16), vi p, vi t, vi x] I L c K :=
  vc_C (by decide +kernel) (vc_W [31, 32, 57, 105, 106, 107, 108, 109, 110] [] 26 (by decide +kernel) h)

set_option maxRecDepth 20000 in
set_option maxHeartbeats 2000000 in
theorem x_item {n d : Nat} {p : Int} {t : Int} {x : Int64} {I : mI} {L : mL} {c : Nat} {K : mK2} (h : if p < 0 then (K (some (vi (-1))) I L c) else (if p < 6 then ((0 ≤ p ∧ p < 6) ∧ (drf (Rs c 91 p.toNat) (fun a1 => chk (Nat.beq (TY a1) 6) (if (I a1 0) = (-1) then (K (some (vi (-11))) I L c) else (if t < 0 then (K (some (vi (-13))) I L c) else (chk (Nat.beq (TY a1) 6) (if t < (I a1 1) then (chk (Nat.beq (TY a1) 6) (chk (Nat.beq (TY a1) 6) (C2 n d 63 [vr (some a1), vl x] I L c (fun r2 I3 L4 c5 => rl r2 (fun x6 => drf (Rs c a1 2) (fun a7 => chk (Nat.beq (TY a7) 101) ((0 ≤ t ∧ t < (LN n a7 : Nat)) ∧ (K (some (vi 1)) I3 (up2L L4 a7 t.toNat x6) c5)))))))) else (K (some (vi (-13))) I L c)))))))) else (K (some (vi (-1))) I L c))) : C2 n (d + 1) 102 [vr (some 16), vi p, vi t, vl x] I L c K :=
  vc_C (by decide +kernel) (vc_W [31, 32, 57, 105, 106, 107, 108, 109, 110] [] 28 (by decide +kernel) h)

set_option maxRecDepth 20000 in
set_option maxHeartbeats 2000000 in
theorem x_read {n d : Nat} {p : Int} {t : Int} {I : mI} {L : mL} {c : Nat} {K : mK2} (h : if p < 0 then (K (some (vl (Int64.ofInt (-9223372036854775808)))) I L c) else (if p < 6 then ((0 ≤ p ∧ p < 6) ∧ (drf (Rs c 91 p.toNat) (fun a1 => if t < 0 then (K (some (vl (Int64.ofInt (-9223372036854775808)))) I L c) else (chk (Nat.beq (TY a1) 6) (if t < (I a1 1) then (chk (Nat.beq (TY a1) 6) (drf (Rs c a1 2) (fun a2 => chk (Nat.beq (TY a2) 101) ((0 ≤ t ∧ t < (LN n a2 : Nat)) ∧ (K (some (vl (L a2 t.toNat))) I L c))))) else (K (some (vl (Int64.ofInt (-9223372036854775808)))) I L c)))))) else (K (some (vl (Int64.ofInt (-9223372036854775808)))) I L c))) : C2 n (d + 1) 103 [vr (some 16), vi p, vi t] I L c K :=
  vc_C (by decide +kernel) (vc_W [31, 32, 57, 105, 106, 107, 108, 109, 110] [] 20 (by decide +kernel) h)

set_option maxRecDepth 20000 in
set_option maxHeartbeats 2000000 in
theorem x_shift {n d : Nat} {p : Int} {t : Int} {x : Int} {y1 : Int} {z1 : Int} {I : mI} {L : mL} {c : Nat} {K : mK2} (h : if p < 0 then (K (some (vi (-1))) I L c) else (if p < 6 then (if x < 0 then (K (some (vi (-1))) I L c) else (if x < 6 then ((0 ≤ p ∧ p < 6) ∧ (drf (Rs c 91 p.toNat) (fun a1 => (0 ≤ x ∧ x < 6) ∧ (drf (Rs c 91 x.toNat) (fun a2 => chk (Nat.beq (TY a1) 6) (if (I a1 0) = (-1) then (K (some (vi (-11))) I L c) else (chk (Nat.beq (TY a2) 6) (if (I a2 0) = (-1) then (K (some (vi (-11))) I L c) else (chk (Nat.beq (TY a1) 6) (chk (Nat.beq (TY a2) 6) (if (I a1 0) = (I a2 0) then (if z1 < 0 then (K (some (vi (-13))) I L c) else (if t < 0 then (K (some (vi (-13))) I L c) else (if y1 < 0 then (K (some (vi (-13))) I L c) else (chk (Nat.beq (TY a1) 6) (if (wr ((I a1 1) - z1)) < t then (K (some (vi (-13))) I L c) else (chk (Nat.beq (TY a2) 6) (if (wr ((I a2 1) - z1)) < y1 then (K (some (vi (-13))) I L c) else (chk (Nat.beq (TY a1) 6) (chk (Nat.beq (TY a2) 6) (drf (Rs c a1 2) (fun a3 => drf (Rs c a2 2) (fun a4 => (0 ≤ t ∧ 0 ≤ y1 ∧ 0 ≤ z1 ∧ t + z1 ≤ (LN n a3 : Nat) ∧ y1 + z1 ≤ (LN n a4 : Nat)) ∧ chk (Nat.beq (TY a3) (TY a4) && true) (match Nat.beq (TY a3) 100 with | true => (K (some (vi z1)) (cpy2 I a3 t.toNat a4 y1.toNat z1.toNat) L c) | false => chk (Nat.beq (TY a3) 101) (K (some (vi z1)) I (cpy2 L a3 t.toNat a4 y1.toNat z1.toNat) c)))))))))))))) else (K (some (vi (-12))) I L c)))))))))))) else (K (some (vi (-1))) I L c))) else (K (some (vi (-1))) I L c))) : C2 n (d + 1) 104 [vr (some 16), vi p, vi t, vi x, vi y1, vi z1] I L c K :=
  vc_C (by decide +kernel) (vc_W [31, 32, 57, 105, 106, 107, 108, 109, 110] [] 58 (by decide +kernel) h)

set_option maxRecDepth 20000 in
set_option maxHeartbeats 2000000 in
theorem x_isUnder {n d : Nat} {p : Int} {t : Int} {I : mI} {L : mL} {c : Nat} {K : mK2} (h : W2 n d 111 4 [none, some (vi t), some (vi p), some (vi 0)] [] I L c K) : C2 n d 111 [vi p, vi t] I L c K :=
  vc_C (by decide +kernel) (vc_W [31, 32, 57, 105, 106, 107, 108, 109, 110] [(111, 4, [true, false, false, false])] 5 (by decide +kernel) h)

set_option maxRecDepth 20000 in
set_option maxHeartbeats 2000000 in
theorem x_isUnder_4 {n d : Nat} {l1 : Int} {l2 : Int} {l3 : Int} {I : mI} {L : mL} {c : Nat} {K : mK2} (h : if l3 < 7 then (if l2 < 0 then (K (some (vi 0)) I L c) else (if l2 < 7 then (if l2 = l1 then (K (some (vi 1)) I L c) else ((0 ≤ l2 ∧ l2 < 7) ∧ (W2 n d 111 4 [none, some (vi l1), some (vi (I 1 l2.toNat)), some (vi (wr (l3 + 1)))] [] I L c K))) else (K (some (vi 0)) I L c))) else (K (some (vi 0)) I L c)) : W2 n d 111 4 [none, some (vi l1), some (vi l2), some (vi l3)] [] I L c K :=
  vc_W [31, 32, 57, 105, 106, 107, 108, 109, 110] [(111, 4, [true, false, false, false])] 18 (by decide +kernel) h

set_option maxRecDepth 20000 in
set_option maxHeartbeats 2000000 in
theorem x_holding {n d : Nat} {I : mI} {L : mL} {c : Nat} {K : mK2} (h : if (I 17 4) < 0 then (K (some (vr (some 69))) I L c) else (if (I 17 4) < (I 16 5) then (if (I 17 4) < 6 then ((0 ≤ (I 17 4) ∧ (I 17 4) < 6) ∧ (nbr (Rs c 73 ((I 17 4).toNat)) (K (some (vr (some 69))) I L c) ((0 ≤ (I 17 4) ∧ (I 17 4) < 6) ∧ (drf (Rs c 73 ((I 17 4).toNat)) (fun a1 => K (some (vr (some a1))) I L c))))) else (K (some (vr (some 69))) I L c)) else (K (some (vr (some 69))) I L c))) : C2 n d 112 [vr (some 16)] I L c K :=
  vc_C (by decide +kernel) (vc_W [31, 32, 57, 105, 106, 107, 108, 109, 110] [] 24 (by decide +kernel) h)

set_option maxRecDepth 20000 in
set_option maxHeartbeats 2000000 in
theorem x_paidByAll {n d : Nat} {p : Int} {I : mI} {L : mL} {c : Nat} {K : mK2} (h : C2 n (d + 5) 112 [vr (some 16)] I L c (fun r1 I2 L3 c4 => rr r1 (fun o5 => drf o5 (fun a6 => W2 n (d + 6) 113 10 [some (vr (some 16)), some (vi p), some (vr (some a6)), some (vi 0), some (vi 0)] [] I2 L3 c4 K)))) : C2 n (d + 6) 113 [vr (some 16), vi p] I L c K :=
  vc_C (by decide +kernel) (vc_W [31, 32, 57, 105, 106, 107, 108, 109, 110] [(113, 10, [false, false, false, false, false])] 8 (by decide +kernel) h)

set_option maxRecDepth 20000 in
set_option maxHeartbeats 2000000 in
theorem x_paidByAll_10 {n d : Nat} {l1 : Int} {l2 : Nat} {l3 : Int} {l4 : Int} {I : mI} {L : mL} {c : Nat} {K : mK2} (h : if l4 < (I 17 1) then ((0 ≤ l4 ∧ l4 < 6) ∧ (chk (Nat.beq (TY l2) 2) (C2 n (d + 5) 36 [vr (some l2), vr (Rs c 18 l4.toNat), vi l1] I L c (fun r1 I2 L3 c4 => ri r1 (fun x5 => W2 n (d + 6) 113 10 [some (vr (some 16)), some (vi l1), some (vr (some l2)), some (vi (wr (l3 + x5))), some (vi (wr (l4 + 1)))] [] I2 L3 c4 K))))) else (K (some (vi l3)) I L c)) : W2 n (d + 6) 113 10 [some (vr (some 16)), some (vi l1), some (vr (some l2)), some (vi l3), some (vi l4)] [] I L c K :=
  vc_W [31, 32, 57, 105, 106, 107, 108, 109, 110] [(113, 10, [false, false, false, false, false])] 19 (by decide +kernel) h

set_option maxRecDepth 20000 in
set_option maxHeartbeats 2000000 in
theorem x_sideOfFraction {n d : Nat} {p : Int} {t : Int} {x : Int} {I : mI} {L : mL} {c : Nat} {K : mK2} (h : W2 n d 114 8 [some (vi p), some (vi t), some (vi x), some (vi p), some (vi t), some (vi 0), none] [] I L c K) : C2 n d 114 [vi p, vi t, vi x] I L c K :=
  vc_C (by decide +kernel) (vc_W [31, 32, 57, 105, 106, 107, 108, 109, 110] [(114, 8, [false, false, false, false, false, false, true])] 7 (by decide +kernel) h)

set_option maxRecDepth 20000 in
set_option maxHeartbeats 2000000 in
theorem x_sideOfFraction_8 {n d : Nat} {l0 : Int} {l1 : Int} {l2 : Int} {l3 : Int} {l4 : Int} {l5 : Int} {I : mI} {L : mL} {c : Nat} {K : mK2} (h : if l5 < 64 then (if l4 = 0 then (if l3 = 0 then (K (some (vl (Int64.ofInt (-9223372036854775808)))) I L c) else (if l2 = 0 then (nzW l3 (K (some (vl (Int64.ofInt (wr (l0.tdiv l3))))) I L c)) else (nzW l3 (K (some (vl (Int64.ofInt (wr (l1.tdiv l3))))) I L c)))) else (nzW l4 (W2 n d 114 8 [some (vi l0), some (vi l1), some (vi l2), some (vi l4), some (vi (l3.tmod l4)), some (vi (wr (l5 + 1))), none] [] I L c K))) else (if l3 = 0 then (K (some (vl (Int64.ofInt (-9223372036854775808)))) I L c) else (if l2 = 0 then (nzW l3 (K (some (vl (Int64.ofInt (wr (l0.tdiv l3))))) I L c)) else (nzW l3 (K (some (vl (Int64.ofInt (wr (l1.tdiv l3))))) I L c))))) : W2 n d 114 8 [some (vi l0), some (vi l1), some (vi l2), some (vi l3), some (vi l4), some (vi l5), none] [] I L c K :=
  vc_W [31, 32, 57, 105, 106, 107, 108, 109, 110] [(114, 8, [false, false, false, false, false, false, true])] 16 (by decide +kernel) h

set_option maxRecDepth 20000 in
set_option maxHeartbeats 2000000 in
theorem j_bitCount_220 {n d : Nat} {p : Int} {I : mI} {L : mL} {c : Nat} {K : mK2} (h : K (some (vi (band (wr ((wr ((band (wr ((wr ((band (wr (p - (band (bushr p 1) 1431655765))) 858993459) + (band (bushr (wr (p - (band (bushr p 1) 1431655765))) 2) 858993459))) + (bushr (wr ((band (wr (p - (band (bushr p 1) 1431655765))) 858993459) + (band (bushr (wr (p - (band (bushr p 1) 1431655765))) 2) 858993459))) 4))) 252645135) + (bushr (band (wr ((wr ((band (wr (p - (band (bushr p 1) 1431655765))) 858993459) + (band (bushr (wr (p - (band (bushr p 1) 1431655765))) 2) 858993459))) + (bushr (wr ((band (wr (p - (band (bushr p 1) 1431655765))) 858993459) + (band (bushr (wr (p - (band (bushr p 1) 1431655765))) 2) 858993459))) 4))) 252645135) 8))) + (bushr (wr ((band (wr ((wr ((band (wr (p - (band (bushr p 1) 1431655765))) 858993459) + (band (bushr (wr (p - (band (bushr p 1) 1431655765))) 2) 858993459))) + (bushr (wr ((band (wr (p - (band (bushr p 1) 1431655765))) 858993459) + (band (bushr (wr (p - (band (bushr p 1) 1431655765))) 2) 858993459))) 4))) 252645135) + (bushr (band (wr ((wr ((band (wr (p - (band (bushr p 1) 1431655765))) 858993459) + (band (bushr (wr (p - (band (bushr p 1) 1431655765))) 2) 858993459))) + (bushr (wr ((band (wr (p - (band (bushr p 1) 1431655765))) 858993459) + (band (bushr (wr (p - (band (bushr p 1) 1431655765))) 2) 858993459))) 4))) 252645135) 8))) 16))) 63))) I L c) : C2 n d 220 [vi p] I L c K :=
  vc_C (by decide +kernel) (vc_W [31, 32, 57, 105, 106, 107, 108, 109, 110] [] 43 (by decide +kernel) h)

set_option maxRecDepth 20000 in
set_option maxHeartbeats 2000000 in
theorem j_length_221 {n d : Nat} {hh : Nat} {I : mI} {L : mL} {c : Nat} {K : mK2} (h : chk (Nat.beq (TY hh) 60) (drf (Rs c hh 1) (fun a1 => chk (Nat.ble 100 (TY a1)) (chk (Nat.beq (TY hh) 60) (C2 n d 223 [vr (some hh)] I L c (fun r2 I3 L4 c5 => ri r2 (fun x6 => K (some (vi (bshr ((LN n a1 : Nat) : Int) x6))) I3 L4 c5))))))) : C2 n (d + 1) 221 [vr (some hh)] I L c K :=
  vc_C (by decide +kernel) (vc_W [31, 32, 57, 105, 106, 107, 108, 109, 110] [] 8 (by decide +kernel) h)

set_option maxRecDepth 20000 in
set_option maxHeartbeats 2000000 in
theorem j_charAt_222 {n d : Nat} {hh : Nat} {p : Int} {I : mI} {L : mL} {c : Nat} {K : mK2} (h : chk (Nat.beq (TY hh) 60) (C2 n d 224 [vr (some hh)] I L c (fun r1 I2 L3 c4 => ri r1 (fun x5 => if x5 = 0 then (chk (Nat.beq (TY hh) 60) (False)) else (chk (Nat.beq (TY hh) 60) (C2 n d 225 [vr (Rs c4 hh 1), vi p] I2 L3 c4 (fun r6 I7 L8 c9 => ri r6 (fun x10 => (0 ≤ x10 ∧ x10 < 65536) ∧ (K (some (vi x10)) I7 L8 c9))))))))) : C2 n (d + 1) 222 [vr (some hh), vi p] I L c K :=
  vc_C (by decide +kernel) (vc_W [31, 32, 57, 105, 106, 107, 108, 109, 110] [] 9 (by decide +kernel) h)

set_option maxRecDepth 20000 in
set_option maxHeartbeats 2000000 in
theorem j_coder_223 {n d : Nat} {hh : Nat} {I : mI} {L : mL} {c : Nat} {K : mK2} (h : chk (Nat.beq (TY hh) 60) ((I hh 0) = 0 ∧ (K (some (vi (I hh 0))) I L c))) : C2 n d 223 [vr (some hh)] I L c K :=
  vc_C (by decide +kernel) (vc_W [31, 32, 57, 105, 106, 107, 108, 109, 110] [] 7 (by decide +kernel) h)

set_option maxRecDepth 20000 in
set_option maxHeartbeats 2000000 in
theorem j_isLatin1_224 {n d : Nat} {hh : Nat} {I : mI} {L : mL} {c : Nat} {K : mK2} (h : chk (Nat.beq (TY hh) 60) (if (I hh 0) = 0 then (K (some (vi 1)) I L c) else (K (some (vi 0)) I L c))) : C2 n d 224 [vr (some hh)] I L c K :=
  vc_C (by decide +kernel) (vc_W [31, 32, 57, 105, 106, 107, 108, 109, 110] [] 9 (by decide +kernel) h)

set_option maxRecDepth 20000 in
set_option maxHeartbeats 2000000 in
theorem j_charAt_225 {n d : Nat} {p : Nat} {t : Int} {I : mI} {L : mL} {c : Nat} {K : mK2} (h : chk (Nat.ble 100 (TY p)) ((0 ≤ t ∧ t < ((LN n p : Nat) : Int)) ∧ (chk (Nat.beq (TY p) 102 || Nat.beq (TY p) 104) ((0 ≤ t ∧ t < (LN n p : Nat)) ∧ ((0 ≤ (bch (band (I p t.toNat) 255)) ∧ (bch (band (I p t.toNat) 255)) < 65536) ∧ (K (some (vi (bch (band (I p t.toNat) 255)))) I L c)))))) : C2 n d 225 [vr (some p), vi t] I L c K :=
  vc_C (by decide +kernel) (vc_W [31, 32, 57, 105, 106, 107, 108, 109, 110] [] 12 (by decide +kernel) h)

set_option maxRecDepth 20000 in
set_option maxHeartbeats 2000000 in
theorem j_fill_226 {n d : Nat} {p : Nat} {t : Int64} {I : mI} {L : mL} {c : Nat} {K : mK2} (h : chk (Nat.ble 100 (TY p)) (W2 n d 226 6 [some (vr (some p)), some (vl t), none, some (vi 0), some (vi ((LN n p : Nat) : Int))] [] I L c K)) : C2 n d 226 [vr (some p), vl t] I L c K :=
  vc_C (by decide +kernel) (vc_W [31, 32, 57, 105, 106, 107, 108, 109, 110] [(226, 6, [false, false, true, false, false])] 6 (by decide +kernel) h)

set_option maxRecDepth 20000 in
set_option maxHeartbeats 2000000 in
theorem j_fill_226_6 {n d : Nat} {l0 : Nat} {l1 : Int64} {l3 : Int} {l4 : Int} {I : mI} {L : mL} {c : Nat} {K : mK2} (h : if l3 < l4 then (chk (Nat.beq (TY l0) 101) ((0 ≤ l3 ∧ l3 < (LN n l0 : Nat)) ∧ (W2 n d 226 6 [some (vr (some l0)), some (vl l1), none, some (vi (wr (l3 + 1))), some (vi l4)] [] I (up2L L l0 l3.toNat l1) c K))) else (K none I L c)) : W2 n d 226 6 [some (vr (some l0)), some (vl l1), none, some (vi l3), some (vi l4)] [] I L c K :=
  vc_W [31, 32, 57, 105, 106, 107, 108, 109, 110] [(226, 6, [false, false, true, false, false])] 10 (by decide +kernel) h

set_option maxRecDepth 20000 in
set_option maxHeartbeats 2000000 in
theorem j_fill_227 {n d : Nat} {p : Nat} {t : Int} {I : mI} {L : mL} {c : Nat} {K : mK2} (h : chk (Nat.ble 100 (TY p)) (W2 n d 227 5 [some (vr (some p)), some (vi t), some (vi 0), some (vi ((LN n p : Nat) : Int))] [] I L c K)) : C2 n d 227 [vr (some p), vi t] I L c K :=
  vc_C (by decide +kernel) (vc_W [31, 32, 57, 105, 106, 107, 108, 109, 110] [(227, 5, [false, false, false, false])] 6 (by decide +kernel) h)

set_option maxRecDepth 20000 in
set_option maxHeartbeats 2000000 in
theorem j_fill_227_5 {n d : Nat} {l0 : Nat} {l1 : Int} {l2 : Int} {l3 : Int} {I : mI} {L : mL} {c : Nat} {K : mK2} (h : if l2 < l3 then (chk (Nat.beq (TY l0) 100) ((0 ≤ l2 ∧ l2 < (LN n l0 : Nat)) ∧ (W2 n d 227 5 [some (vr (some l0)), some (vi l1), some (vi (wr (l2 + 1))), some (vi l3)] [] (up2 I l0 l2.toNat l1) L c K))) else (K none I L c)) : W2 n d 227 5 [some (vr (some l0)), some (vi l1), some (vi l2), some (vi l3)] [] I L c K :=
  vc_W [31, 32, 57, 105, 106, 107, 108, 109, 110] [(227, 5, [false, false, false, false])] 10 (by decide +kernel) h
