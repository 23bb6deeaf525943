set_option maxRecDepth 20000 in
set_option maxHeartbeats 2000000 in
theorem m_seenAt {n d : Nat} {p : Int} {t : Int} {I : mI} {L : mL} {c : Nat} {K : mK2} (h : if p < 0 then (K (some (vi (-1))) I L c) else (if (wr ((I 104 0) - 1)) < p then (K (some (vi (-1))) I L c) else (if t < 0 then (K (some (vi (-2))) I L c) else (if 23 < t then (K (some (vi (-2))) I L c) else (C2 n (d + 8) 170 [vr (some 104), vi p, vi t] I L c (fun r1 I2 L3 c4 => ri r1 (fun x5 => K (some (vi x5)) I2 L3 c4))))))) : C2 n (d + 9) 171 [vr (some 104), vi p, vi t] I L c K :=
  vc_C (by decide +kernel) (vc_W [116, 118, 119, 120, 121, 122, 130, 133, 214] [] 22 (by decide +kernel) h)

set_option maxRecDepth 20000 in
set_option maxHeartbeats 2000000 in
theorem m_bestHour {n d : Nat} {p : Int} {I : mI} {L : mL} {c : Nat} {K : mK2} (h : W2 n (d + 9) 172 4 [some (vr (some 104)), some (vi p), some (vi 0), some (vi 1)] [] I L c K) : C2 n (d + 9) 172 [vr (some 104), vi p] I L c K :=
  vc_C (by decide +kernel) (vc_W [116, 118, 119, 120, 121, 122, 130, 133, 214] [(172, 4, [false, false, false, false])] 5 (by decide +kernel) h)

set_option maxRecDepth 20000 in
set_option maxHeartbeats 2000000 in
theorem m_bestHour_4 {n d : Nat} {l1 : Int} {l2 : Int} {l3 : Int} {I : mI} {L : mL} {c : Nat} {K : mK2} (h : if l3 < 24 then (C2 n (d + 8) 170 [vr (some 104), vi l1, vi l3] I L c (fun r1 I2 L3 c4 => ri r1 (fun x5 => C2 n (d + 8) 170 [vr (some 104), vi l1, vi l2] I2 L3 c4 (fun r6 I7 L8 c9 => ri r6 (fun x10 => if x5 < x10 then (W2 n (d + 9) 172 4 [some (vr (some 104)), some (vi l1), some (vi l3), some (vi (wr (l3 + 1)))] [] I7 L8 c9 K) else (W2 n (d + 9) 172 4 [some (vr (some 104)), some (vi l1), some (vi l2), some (vi (wr (l3 + 1)))] [] I7 L8 c9 K)))))) else (K (some (vi l2)) I L c)) : W2 n (d + 9) 172 4 [some (vr (some 104)), some (vi l1), some (vi l2), some (vi l3)] [] I L c K :=
  vc_W [116, 118, 119, 120, 121, 122, 130, 133, 214] [(172, 4, [false, false, false, false])] 17 (by decide +kernel) h

set_option maxRecDepth 20000 in
set_option maxHeartbeats 2000000 in
theorem m_rises {n d : Nat} {p : Int} {I : mI} {L : mL} {c : Nat} {K : mK2} (h : C2 n (d + 7) 167 [vr (some 104)] I L c (fun r1 I2 L3 c4 => rv r1 (C2 n (d + 7) 159 [vr (some 104), vi p] I2 L3 c4 (fun r5 I6 L7 c8 => ri r5 (fun x9 => W2 n (d + 8) 173 16 [some (vr (some 104)), some (vi p), some (vi (-5)), some (vi x9), some (vi 1), none] [] I6 L7 c8 K))))) : C2 n (d + 8) 173 [vr (some 104), vi p] I L c K :=
  vc_C (by decide +kernel) (vc_W [116, 118, 119, 120, 121, 122, 130, 133, 214] [(173, 16, [false, false, false, false, false, true])] 11 (by decide +kernel) h)

set_option maxRecDepth 20000 in
set_option maxHeartbeats 2000000 in
theorem m_rises_16 {n d : Nat} {l1 : Int} {l2 : Int} {l3 : Int} {l4 : Int} {I : mI} {L : mL} {c : Nat} {K : mK2} (h : if l4 < 61 then (if l2 < 0 then (C2 n (d + 7) 164 [vr (some 104)] I L c (fun r1 I2 L3 c4 => rv r1 (C2 n (d + 7) 159 [vr (some 104), vi l1] I2 L3 c4 (fun r5 I6 L7 c8 => ri r5 (fun x9 => if l3 < x9 then (W2 n (d + 8) 173 16 [some (vr (some 104)), some (vi l1), some (vi l4), some (vi x9), some (vi (wr (l4 + 1))), none] [] I6 L7 c8 K) else (W2 n (d + 8) 173 16 [some (vr (some 104)), some (vi l1), some (vi (-5)), some (vi x9), some (vi (wr (l4 + 1))), none] [] I6 L7 c8 K)))))) else (C2 n (d + 7) 168 [vr (some 104)] I L c (fun r10 I11 L12 c13 => rv r10 (K (some (vi l2)) I11 L12 c13)))) else (C2 n (d + 7) 168 [vr (some 104)] I L c (fun r14 I15 L16 c17 => rv r14 (K (some (vi l2)) I15 L16 c17)))) : W2 n (d + 8) 173 16 [some (vr (some 104)), some (vi l1), some (vi l2), some (vi l3), some (vi l4), none] [] I L c K :=
  vc_W [116, 118, 119, 120, 121, 122, 130, 133, 214] [(173, 16, [false, false, false, false, false, true])] 22 (by decide +kernel) h

set_option maxRecDepth 20000 in
set_option maxHeartbeats 2000000 in
theorem m_when {n d : Nat} {p : Int} {t : Int} {I : mI} {L : mL} {c : Nat} {K : mK2} (h : if p < 0 then (K (some (vi (-1))) I L c) else (if (wr ((I 104 0) - 1)) < p then (K (some (vi (-1))) I L c) else (if t < 0 then (K (some (vi (-1))) I L c) else (if 1 < t then (K (some (vi (-1))) I L c) else (if t = 0 then (C2 n (d + 9) 172 [vr (some 104), vi p] I L c (fun r1 I2 L3 c4 => ri r1 (fun x5 => K (some (vi x5)) I2 L3 c4))) else (C2 n (d + 9) 173 [vr (some 104), vi p] I L c (fun r6 I7 L8 c9 => ri r6 (fun x10 => K (some (vi x10)) I7 L8 c9)))))))) : C2 n (d + 10) 174 [vr (some 104), vi p, vi t] I L c K :=
  vc_C (by decide +kernel) (vc_W [116, 118, 119, 120, 121, 122, 130, 133, 214] [] 21 (by decide +kernel) h)

set_option maxRecDepth 20000 in
set_option maxHeartbeats 2000000 in
theorem m_layCosts {n d : Nat} {I : mI} {L : mL} {c : Nat} {K : mK2} (h : W2 n (d + 9) 175 7 [some (vr (some 104)), some (vi 0), none] [] (up2 I 104 36 0) L c K) : C2 n (d + 9) 175 [vr (some 104)] I L c K :=
  vc_C (by decide +kernel) (vc_W [116, 118, 119, 120, 121, 122, 130, 133, 214] [(175, 7, [false, false, true]), (175, 49, [false, false, true]), (175, 59, [false, false, false])] 6 (by decide +kernel) h)

set_option maxRecDepth 20000 in
set_option maxHeartbeats 2000000 in
theorem m_layCosts_7 {n d : Nat} {l1 : Int} {I : mI} {L : mL} {c : Nat} {K : mK2} (h : if l1 < (I 104 0) then (C2 n (d + 8) 117 [vr (some 104), vi (I 104 1), vi l1] I L c (fun r1 I2 L3 c4 => ri r1 (fun x5 => if x5 = 0 then (W2 n (d + 9) 175 7 [some (vr (some 104)), some (vi (wr (l1 + 1))), none] [] (up2 I2 104 36 (wr ((I 104 36) + 1))) L3 c4 K) else (W2 n (d + 9) 175 7 [some (vr (some 104)), some (vi (wr (l1 + 1))), none] [] (up2 I2 104 36 (wr ((I 104 36) + 0))) L3 c4 K)))) else (W2 n (d + 9) 175 49 [some (vr (some 104)), some (vi 0), none] [] I L c K)) : W2 n (d + 9) 175 7 [some (vr (some 104)), some (vi l1), none] [] I L c K :=
  vc_W [116, 118, 119, 120, 121, 122, 130, 133, 214] [(175, 7, [false, false, true]), (175, 49, [false, false, true]), (175, 59, [false, false, false])] 20 (by decide +kernel) h

set_option maxRecDepth 20000 in
set_option maxHeartbeats 2000000 in
theorem m_layCosts_49 {n d : Nat} {l1 : Int} {I : mI} {L : mL} {c : Nat} {K : mK2} (h : if l1 < (I 104 36) then (W2 n (d + 9) 175 59 [some (vr (some 104)), some (vi l1), some (vi 0)] [] I L c K) else (K none I L c)) : W2 n (d + 9) 175 49 [some (vr (some 104)), some (vi l1), none] [] I L c K :=
  vc_W [116, 118, 119, 120, 121, 122, 130, 133, 214] [(175, 7, [false, false, true]), (175, 49, [false, false, true]), (175, 59, [false, false, false])] 7 (by decide +kernel) h

set_option maxRecDepth 20000 in
set_option maxHeartbeats 2000000 in
theorem m_layCosts_59 {n d : Nat} {l1 : Int} {l2 : Int} {I : mI} {L : mL} {c : Nat} {K : mK2} (h : if l2 < (I 104 0) then (C2 n (d + 8) 170 [vr (some 104), vi l2, vi ((wr ((I 104 2) + l1)).tmod 24)] I L c (fun r1 I2 L3 c4 => ri r1 (fun x5 => (0 ≤ (wr ((wr (6 * l1)) + l2)) ∧ (wr ((wr (6 * l1)) + l2)) < 36) ∧ (W2 n (d + 9) 175 59 [some (vr (some 104)), some (vi l1), some (vi (wr (l2 + 1)))] [] (up2 I2 122 ((wr ((wr (6 * l1)) + l2)).toNat) x5) L3 c4 K)))) else (W2 n (d + 9) 175 49 [some (vr (some 104)), some (vi (wr (l1 + 1))), none] [] I L c K)) : W2 n (d + 9) 175 59 [some (vr (some 104)), some (vi l1), some (vi l2)] [] I L c K :=
  vc_W [116, 118, 119, 120, 121, 122, 130, 133, 214] [(175, 7, [false, false, true]), (175, 49, [false, false, true]), (175, 59, [false, false, false])] 24 (by decide +kernel) h

set_option maxRecDepth 20000 in
set_option maxHeartbeats 2000000 in
theorem m_layTurn {n d : Nat} {p : Int} {I : mI} {L : mL} {c : Nat} {K : mK2} (h : W2 n (d + 1) 176 15 [some (vr (some 104)), none, some (vi p), some (vi (I 104 1)), some (vi (wr ((I 104 36) - 1)))] [] I L c K) : C2 n (d + 1) 176 [vr (some 104), vi p] I L c K :=
  vc_C (by decide +kernel) (vc_W [116, 118, 119, 120, 121, 122, 130, 133, 214] [(176, 15, [false, true, false, false, false])] 11 (by decide +kernel) h)

set_option maxRecDepth 20000 in
set_option maxHeartbeats 2000000 in
theorem m_layTurn_15 {n d : Nat} {l2 : Int} {l3 : Int} {l4 : Int} {I : mI} {L : mL} {c : Nat} {K : mK2} (h : if l4 < 0 then (K (some (vi 1)) I L c) else ((0 ≤ l4 ∧ l4 < 6) ∧ ((0 ≤ l4 ∧ l4 < 6) ∧ (if ((up2 I 123 l4.toNat (l2.tmod 6)) 123 l4.toNat) < ((up2 I 123 l4.toNat (l2.tmod 6)) 104 0) then ((0 ≤ l4 ∧ l4 < 6) ∧ (C2 n d 117 [vr (some 104), vi l3, vi ((up2 I 123 l4.toNat (l2.tmod 6)) 123 l4.toNat)] (up2 I 123 l4.toNat (l2.tmod 6)) L c (fun r1 I2 L3 c4 => ri r1 (fun x5 => if x5 = 0 then ((0 ≤ l4 ∧ l4 < 6) ∧ (W2 n (d + 1) 176 15 [some (vr (some 104)), none, some (vi (wr (l2.tdiv 6))), some (vi (bior l3 (bshl 1 (I2 123 l4.toNat)))), some (vi (wr (l4 + (-1))))] [] I2 L3 c4 K)) else (K (some (vi 0)) I2 L3 c4))))) else (K (some (vi 0)) (up2 I 123 l4.toNat (l2.tmod 6)) L c))))) : W2 n (d + 1) 176 15 [some (vr (some 104)), none, some (vi l2), some (vi l3), some (vi l4)] [] I L c K :=
  vc_W [116, 118, 119, 120, 121, 122, 130, 133, 214] [(176, 15, [false, true, false, false, false])] 40 (by decide +kernel) h

set_option maxRecDepth 20000 in
set_option maxHeartbeats 2000000 in
theorem m_line {n d : Nat} {p : Int} {I : mI} {L : mL} {c : Nat} {K : mK2} (h : if p < (-1) then (K (some (vi (-1))) I L c) else (if 5 < p then (K (some (vi (-1))) I L c) else (C2 n (d + 9) 175 [vr (some 104)] I L c (fun r1 I2 L3 c4 => rv r1 (W2 n (d + 10) 177 20 [some (vr (some 104)), some (vi p), some (vi 1), some (vi 0), none, none, none] [] I2 L3 c4 K))))) : C2 n (d + 10) 177 [vr (some 104), vi p] I L c K :=
  vc_C (by decide +kernel) (vc_W [116, 118, 119, 120, 121, 122, 130, 133, 214] [(177, 20, [false, false, false, false, true, true, true]), (177, 44, [false, false, false, false, false, true, true]), (177, 68, [false, false, false, false, false, false, false]), (177, 125, [false, false, false, false, false, true, false])] 15 (by decide +kernel) h)

set_option maxRecDepth 20000 in
set_option maxHeartbeats 2000000 in
theorem m_line_20 {n d : Nat} {l1 : Int} {l2 : Int} {l3 : Int} {I : mI} {L : mL} {c : Nat} {K : mK2} (h : if l3 < (I 104 36) then (W2 n (d + 10) 177 20 [some (vr (some 104)), some (vi l1), some (vi (wr (l2 * 6))), some (vi (wr (l3 + 1))), none, none, none] [] I L c K) else (W2 n (d + 10) 177 44 [some (vr (some 104)), some (vi l1), some (vi l2), some (vi (-1)), some (vi 0), none, none] [] I L c K)) : W2 n (d + 10) 177 20 [some (vr (some 104)), some (vi l1), some (vi l2), some (vi l3), none, none, none] [] I L c K :=
  vc_W [116, 118, 119, 120, 121, 122, 130, 133, 214] [(177, 20, [false, false, false, false, true, true, true]), (177, 44, [false, false, false, false, false, true, true]), (177, 68, [false, false, false, false, false, false, false]), (177, 125, [false, false, false, false, false, true, false])] 11 (by decide +kernel) h

set_option maxRecDepth 20000 in
set_option maxHeartbeats 2000000 in
theorem m_line_44 {n d : Nat} {l1 : Int} {l2 : Int} {l3 : Int} {l4 : Int} {I : mI} {L : mL} {c : Nat} {K : mK2} (h : if l4 < l2 then (C2 n (d + 9) 176 [vr (some 104), vi l4] I L c (fun r1 I2 L3 c4 => ri r1 (fun x5 => if x5 = 0 then (W2 n (d + 10) 177 44 [some (vr (some 104)), some (vi l1), some (vi l2), some (vi l3), some (vi (wr (l4 + 1))), none, none] [] I2 L3 c4 K) else (W2 n (d + 10) 177 68 [some (vr (some 104)), some (vi l1), some (vi l2), some (vi l3), some (vi l4), some (vi 0), some (vi 0)] [] I2 L3 c4 K)))) else (if l1 < 0 then (K (some (vi l3)) I L c) else (if l1 < (I 104 36) then ((0 ≤ l1 ∧ l1 < 6) ∧ (K (some (vi (I 124 l1.toNat))) I L c)) else (K (some (vi (-5))) I L c)))) : W2 n (d + 10) 177 44 [some (vr (some 104)), some (vi l1), some (vi l2), some (vi l3), some (vi l4), none, none] [] I L c K :=
  vc_W [116, 118, 119, 120, 121, 122, 130, 133, 214] [(177, 20, [false, false, false, false, true, true, true]), (177, 44, [false, false, false, false, false, true, true]), (177, 68, [false, false, false, false, false, false, false]), (177, 125, [false, false, false, false, false, true, false])] 16 (by decide +kernel) h

set_option maxRecDepth 20000 in
set_option maxHeartbeats 2000000 in
theorem m_line_68 {n d : Nat} {l1 : Int} {l2 : Int} {l3 : Int} {l4 : Int} {l5 : Int} {l6 : Int} {I : mI} {L : mL} {c : Nat} {K : mK2} (h : if l6 < (I 104 36) then ((0 ≤ l6 ∧ l6 < 6) ∧ ((0 ≤ (wr ((wr (6 * l6)) + (I 123 l6.toNat))) ∧ (wr ((wr (6 * l6)) + (I 123 l6.toNat))) < 36) ∧ (W2 n (d + 10) 177 68 [some (vr (some 104)), some (vi l1), some (vi l2), some (vi l3), some (vi l4), some (vi (wr (l5 + (I 122 ((wr ((wr (6 * l6)) + (I 123 l6.toNat))).toNat))))), some (vi (wr (l6 + 1)))] [] I L c K))) else (if l3 < 0 then (W2 n (d + 10) 177 125 [some (vr (some 104)), some (vi l1), some (vi l2), some (vi l5), some (vi l4), none, some (vi 0)] [] I L c K) else (if l5 < l3 then (W2 n (d + 10) 177 125 [some (vr (some 104)), some (vi l1), some (vi l2), some (vi l5), some (vi l4), none, some (vi 0)] [] I L c K) else (W2 n (d + 10) 177 44 [some (vr (some 104)), some (vi l1), some (vi l2), some (vi l3), some (vi (wr (l4 + 1))), none, none] [] I L c K)))) : W2 n (d + 10) 177 68 [some (vr (some 104)), some (vi l1), some (vi l2), some (vi l3), some (vi l4), some (vi l5), some (vi l6)] [] I L c K :=
  vc_W [116, 118, 119, 120, 121, 122, 130, 133, 214] [(177, 20, [false, false, false, false, true, true, true]), (177, 44, [false, false, false, false, false, true, true]), (177, 68, [false, false, false, false, false, false, false]), (177, 125, [false, false, false, false, false, true, false])] 21 (by decide +kernel) h

set_option maxRecDepth 20000 in
set_option maxHeartbeats 2000000 in
theorem m_line_125 {n d : Nat} {l1 : Int} {l2 : Int} {l3 : Int} {l4 : Int} {l6 : Int} {I : mI} {L : mL} {c : Nat} {K : mK2} (h : if l6 < 6 then ((0 ≤ l6 ∧ l6 < 6) ∧ ((0 ≤ l6 ∧ l6 < 6) ∧ (W2 n (d + 10) 177 125 [some (vr (some 104)), some (vi l1), some (vi l2), some (vi l3), some (vi l4), none, some (vi (wr (l6 + 1)))] [] (up2 I 124 l6.toNat (I 123 l6.toNat)) L c K))) else (W2 n (d + 10) 177 44 [some (vr (some 104)), some (vi l1), some (vi l2), some (vi l3), some (vi (wr (l4 + 1))), none, none] [] I L c K)) : W2 n (d + 10) 177 125 [some (vr (some 104)), some (vi l1), some (vi l2), some (vi l3), some (vi l4), none, some (vi l6)] [] I L c K :=
  vc_W [116, 118, 119, 120, 121, 122, 130, 133, 214] [(177, 20, [false, false, false, false, true, true, true]), (177, 44, [false, false, false, false, false, true, true]), (177, 68, [false, false, false, false, false, false, false]), (177, 125, [false, false, false, false, false, true, false])] 14 (by decide +kernel) h

set_option maxRecDepth 20000 in
set_option maxHeartbeats 2000000 in
theorem m_jointlyOf {n d : Nat} {p : Int} {t : Int} {I : mI} {L : mL} {c : Nat} {K : mK2} (h : W2 n (d + 6) 178 5 [some (vr (some 104)), some (vi p), some (vi t), some (vi 0), some (vi 0)] [] I L c K) : C2 n (d + 6) 178 [vr (some 104), vi p, vi t] I L c K :=
  vc_C (by decide +kernel) (vc_W [116, 118, 119, 120, 121, 122, 130, 133, 214] [(178, 5, [false, false, false, false, false])] 5 (by decide +kernel) h)

set_option maxRecDepth 20000 in
set_option maxHeartbeats 2000000 in
theorem m_jointlyOf_5 {n d : Nat} {l1 : Int} {l2 : Int} {l3 : Int} {l4 : Int} {I : mI} {L : mL} {c : Nat} {K : mK2} (h : if l4 < 6 then (C2 n (d + 5) 156 [vr (some 104), vi l1, vi l4] I L c (fun r1 I2 L3 c4 => ri r1 (fun x5 => if x5 = 0 then (C2 n (d + 5) 156 [vr (some 104), vi l2, vi l4] I2 L3 c4 (fun r6 I7 L8 c9 => ri r6 (fun x10 => if x10 = 0 then (W2 n (d + 6) 178 5 [some (vr (some 104)), some (vi l1), some (vi l2), some (vi (wr (l3 + 1))), some (vi (wr (l4 + 1)))] [] I7 L8 c9 K) else (W2 n (d + 6) 178 5 [some (vr (some 104)), some (vi l1), some (vi l2), some (vi (wr (l3 + 0))), some (vi (wr (l4 + 1)))] [] I7 L8 c9 K)))) else (W2 n (d + 6) 178 5 [some (vr (some 104)), some (vi l1), some (vi l2), some (vi (wr (l3 + 0))), some (vi (wr (l4 + 1)))] [] I2 L3 c4 K)))) else (C2 n (d + 5) 150 [vr (some 104)] I L c (fun r11 I12 L13 c14 => ri r11 (fun x15 => K (some (vi (wr (x15 * l3)))) I12 L13 c14)))) : W2 n (d + 6) 178 5 [some (vr (some 104)), some (vi l1), some (vi l2), some (vi l3), some (vi l4)] [] I L c K :=
  vc_W [116, 118, 119, 120, 121, 122, 130, 133, 214] [(178, 5, [false, false, false, false, false])] 21 (by decide +kernel) h

set_option maxRecDepth 20000 in
set_option maxHeartbeats 2000000 in
theorem m_jointly {n d : Nat} {p : Int} {t : Int} {I : mI} {L : mL} {c : Nat} {K : mK2} (h : if p < 0 then (K (some (vi (-1))) I L c) else (if (wr ((I 104 0) - 1)) < p then (K (some (vi (-1))) I L c) else (if t < 0 then (K (some (vi (-1))) I L c) else (if (wr ((I 104 0) - 1)) < t then (K (some (vi (-1))) I L c) else (if p = t then (K (some (vi (-2))) I L c) else (C2 n (d + 6) 178 [vr (some 104), vi p, vi t] I L c (fun r1 I2 L3 c4 => ri r1 (fun x5 => K (some (vi x5)) I2 L3 c4)))))))) : C2 n (d + 7) 179 [vr (some 104), vi p, vi t] I L c K :=
  vc_C (by decide +kernel) (vc_W [116, 118, 119, 120, 121, 122, 130, 133, 214] [] 25 (by decide +kernel) h)

set_option maxRecDepth 20000 in
set_option maxHeartbeats 2000000 in
theorem m_layPairs {n d : Nat} {I : mI} {L : mL} {c : Nat} {K : mK2} (h : W2 n (d + 8) 180 2 [some (vr (some 104)), some (vi 0), none] [] I L c K) : C2 n (d + 8) 180 [vr (some 104)] I L c K :=
  vc_C (by decide +kernel) (vc_W [116, 118, 119, 120, 121, 122, 130, 133, 214] [(180, 2, [false, false, true]), (180, 23, [false, false, false])] 3 (by decide +kernel) h)

set_option maxRecDepth 20000 in
set_option maxHeartbeats 2000000 in
theorem m_layPairs_2 {n d : Nat} {l1 : Int} {I : mI} {L : mL} {c : Nat} {K : mK2} (h : if l1 < (I 104 0) then (C2 n (d + 7) 159 [vr (some 104), vi l1] I L c (fun r1 I2 L3 c4 => ri r1 (fun x5 => (0 ≤ l1 ∧ l1 < 6) ∧ (W2 n (d + 8) 180 23 [some (vr (some 104)), some (vi l1), some (vi 0)] [] (up2 I2 126 l1.toNat x5) L3 c4 K)))) else (K none I L c)) : W2 n (d + 8) 180 2 [some (vr (some 104)), some (vi l1), none] [] I L c K :=
  vc_W [116, 118, 119, 120, 121, 122, 130, 133, 214] [(180, 2, [false, false, true]), (180, 23, [false, false, false])] 14 (by decide +kernel) h

set_option maxRecDepth 20000 in
set_option maxHeartbeats 2000000 in
theorem m_layPairs_23 {n d : Nat} {l1 : Int} {l2 : Int} {I : mI} {L : mL} {c : Nat} {K : mK2} (h : if l2 < (I 104 0) then (if l1 = l2 then ((0 ≤ (wr ((wr (6 * l1)) + l2)) ∧ (wr ((wr (6 * l1)) + l2)) < 36) ∧ (W2 n (d + 8) 180 23 [some (vr (some 104)), some (vi l1), some (vi (wr (l2 + 1)))] [] (up2 I 125 ((wr ((wr (6 * l1)) + l2)).toNat) 0) L c K)) else (C2 n (d + 7) 178 [vr (some 104), vi l1, vi l2] I L c (fun r1 I2 L3 c4 => ri r1 (fun x5 => (0 ≤ (wr ((wr (6 * l1)) + l2)) ∧ (wr ((wr (6 * l1)) + l2)) < 36) ∧ (W2 n (d + 8) 180 23 [some (vr (some 104)), some (vi l1), some (vi (wr (l2 + 1)))] [] (up2 I2 125 ((wr ((wr (6 * l1)) + l2)).toNat) x5) L3 c4 K))))) else (W2 n (d + 8) 180 2 [some (vr (some 104)), some (vi (wr (l1 + 1))), none] [] I L c K)) : W2 n (d + 8) 180 23 [some (vr (some 104)), some (vi l1), some (vi l2)] [] I L c K :=
  vc_W [116, 118, 119, 120, 121, 122, 130, 133, 214] [(180, 2, [false, false, true]), (180, 23, [false, false, false])] 22 (by decide +kernel) h

set_option maxRecDepth 20000 in
set_option maxHeartbeats 2000000 in
theorem m_firstBad {n d : Nat} {I : mI} {L : mL} {c : Nat} {K : mK2} (h : W2 n (d + 1) 181 2 [some (vr (some 104)), some (vi 0), none, none, none, none] [] I L c K) : C2 n (d + 1) 181 [vr (some 104)] I L c K :=
  vc_C (by decide +kernel) (vc_W [116, 118, 119, 120, 121, 122, 130, 133, 214] [(181, 2, [false, false, true, true, true, true]), (181, 67, [false, false, false, false, false, false])] 3 (by decide +kernel) h)

set_option maxRecDepth 20000 in
set_option maxHeartbeats 2000000 in
theorem m_firstBad_2 {n d : Nat} {l1 : Int} {I : mI} {L : mL} {c : Nat} {K : mK2} (h : if l1 < (I 104 0) then ((0 ≤ l1 ∧ l1 < 6) ∧ (C2 n d 117 [vr (some 104), vi (I 104 1), vi l1] I L c (fun r1 I2 L3 c4 => ri r1 (fun x5 => if x5 = 0 then (if (I 127 l1.toNat) < (I2 104 0) then (if l1 < (I 127 l1.toNat) then (C2 n d 117 [vr (some 104), vi (I2 104 1), vi (I 127 l1.toNat)] I2 L3 c4 (fun r6 I7 L8 c9 => ri r6 (fun x10 => if x10 = 0 then (W2 n (d + 1) 181 67 [some (vr (some 104)), some (vi l1), some (vi (I 127 l1.toNat)), some (vi 6), some (vi 0), some (vi 0)] [] I7 L8 c9 K) else (W2 n (d + 1) 181 67 [some (vr (some 104)), some (vi l1), some (vi (I 127 l1.toNat)), some (vi 6), some (vi 1), some (vi 0)] [] I7 L8 c9 K)))) else (W2 n (d + 1) 181 67 [some (vr (some 104)), some (vi l1), some (vi (I 127 l1.toNat)), some (vi 6), some (vi 1), some (vi 0)] [] I2 L3 c4 K)) else (W2 n (d + 1) 181 67 [some (vr (some 104)), some (vi l1), some (vi (I 127 l1.toNat)), some (vi 6), some (vi 1), some (vi 0)] [] I2 L3 c4 K)) else (W2 n (d + 1) 181 67 [some (vr (some 104)), some (vi l1), some (vi (I 127 l1.toNat)), some (vi 6), some (vi 1), some (vi 0)] [] I2 L3 c4 K))))) else (K (some (vi (I 104 0))) I L c)) : W2 n (d + 1) 181 2 [some (vr (some 104)), some (vi l1), none, none, none, none] [] I L c K :=
  vc_W [116, 118, 119, 120, 121, 122, 130, 133, 214] [(181, 2, [false, false, true, true, true, true]), (181, 67, [false, false, false, false, false, false])] 36 (by decide +kernel) h

set_option maxRecDepth 20000 in
set_option maxHeartbeats 2000000 in
theorem m_firstBad_67 {n d : Nat} {l1 : Int} {l2 : Int} {l3 : Int} {l4 : Int} {l5 : Int} {I : mI} {L : mL} {c : Nat} {K : mK2} (h : if l5 < l1 then ((0 ≤ l5 ∧ l5 < 6) ∧ (if (I 127 l5.toNat) = l1 then (if l4 = 0 then ((0 ≤ l5 ∧ l5 < 6) ∧ (if (I 127 l5.toNat) = l2 then (W2 n (d + 1) 181 67 [some (vr (some 104)), some (vi l1), some (vi l2), some (vi l5), some (vi 1), some (vi (wr (l5 + 1)))] [] I L c K) else (W2 n (d + 1) 181 67 [some (vr (some 104)), some (vi l1), some (vi l2), some (vi l5), some (vi 0), some (vi (wr (l5 + 1)))] [] I L c K))) else (W2 n (d + 1) 181 67 [some (vr (some 104)), some (vi l1), some (vi l2), some (vi l5), some (vi 1), some (vi (wr (l5 + 1)))] [] I L c K)) else (if l4 = 0 then ((0 ≤ l5 ∧ l5 < 6) ∧ (if (I 127 l5.toNat) = l2 then (W2 n (d + 1) 181 67 [some (vr (some 104)), some (vi l1), some (vi l2), some (vi l3), some (vi 1), some (vi (wr (l5 + 1)))] [] I L c K) else (W2 n (d + 1) 181 67 [some (vr (some 104)), some (vi l1), some (vi l2), some (vi l3), some (vi 0), some (vi (wr (l5 + 1)))] [] I L c K))) else (W2 n (d + 1) 181 67 [some (vr (some 104)), some (vi l1), some (vi l2), some (vi l3), some (vi 1), some (vi (wr (l5 + 1)))] [] I L c K)))) else (if l3 < 6 then (if l2 = l3 then (W2 n (d + 1) 181 2 [some (vr (some 104)), some (vi (wr (l1 + 1))), none, none, none, none] [] I L c K) else (K (some (vi l1)) I L c)) else (if l2 < 6 then (if l4 = 0 then (W2 n (d + 1) 181 2 [some (vr (some 104)), some (vi (wr (l1 + 1))), none, none, none, none] [] I L c K) else (K (some (vi l1)) I L c)) else (W2 n (d + 1) 181 2 [some (vr (some 104)), some (vi (wr (l1 + 1))), none, none, none, none] [] I L c K)))) : W2 n (d + 1) 181 67 [some (vr (some 104)), some (vi l1), some (vi l2), some (vi l3), some (vi l4), some (vi l5)] [] I L c K :=
  vc_W [116, 118, 119, 120, 121, 122, 130, 133, 214] [(181, 2, [false, false, true, true, true, true]), (181, 67, [false, false, false, false, false, false])] 26 (by decide +kernel) h

set_option maxRecDepth 20000 in
set_option maxHeartbeats 2000000 in
theorem m_goesOn {n d : Nat} {p : Int} {I : mI} {L : mL} {c : Nat} {K : mK2} (h : W2 n d 182 2 [some (vr (some 104)), none, some (vi p), none] [] I L c K) : C2 n d 182 [vr (some 104), vi p] I L c K :=
  vc_C (by decide +kernel) (vc_W [116, 118, 119, 120, 121, 122, 130, 133, 214] [(182, 2, [false, true, false, true]), (182, 43, [false, true, true, false])] 3 (by decide +kernel) h)

set_option maxRecDepth 20000 in
set_option maxHeartbeats 2000000 in
theorem m_goesOn_2 {n d : Nat} {l2 : Int} {I : mI} {L : mL} {c : Nat} {K : mK2} (h : if l2 < 0 then (if l2 < 0 then (K (some (vi 0)) I L c) else ((0 ≤ l2 ∧ l2 < 6) ∧ ((0 ≤ l2 ∧ l2 < 6) ∧ (W2 n d 182 43 [some (vr (some 104)), none, none, some (vi (wr (l2 + 1)))] [] (up2 I 127 l2.toNat (wr ((I 127 l2.toNat) + 1))) L c K)))) else ((0 ≤ l2 ∧ l2 < 6) ∧ (if (I 127 l2.toNat) = 6 then (W2 n d 182 2 [some (vr (some 104)), none, some (vi (wr (l2 + (-1)))), none] [] I L c K) else (if l2 < 0 then (K (some (vi 0)) I L c) else ((0 ≤ l2 ∧ l2 < 6) ∧ ((0 ≤ l2 ∧ l2 < 6) ∧ (W2 n d 182 43 [some (vr (some 104)), none, none, some (vi (wr (l2 + 1)))] [] (up2 I 127 l2.toNat (wr ((I 127 l2.toNat) + 1))) L c K))))))) : W2 n d 182 2 [some (vr (some 104)), none, some (vi l2), none] [] I L c K :=
  vc_W [116, 118, 119, 120, 121, 122, 130, 133, 214] [(182, 2, [false, true, false, true]), (182, 43, [false, true, true, false])] 23 (by decide +kernel) h

set_option maxRecDepth 20000 in
set_option maxHeartbeats 2000000 in
theorem m_goesOn_43 {n d : Nat} {l3 : Int} {I : mI} {L : mL} {c : Nat} {K : mK2} (h : if l3 < (I 104 0) then ((0 ≤ l3 ∧ l3 < 6) ∧ (W2 n d 182 43 [some (vr (some 104)), none, none, some (vi (wr (l3 + 1)))] [] (up2 I 127 l3.toNat 0) L c K)) else (K (some (vi 1)) I L c)) : W2 n d 182 43 [some (vr (some 104)), none, none, some (vi l3)] [] I L c K :=
  vc_W [116, 118, 119, 120, 121, 122, 130, 133, 214] [(182, 2, [false, true, false, true]), (182, 43, [false, true, true, false])] 12 (by decide +kernel) h

set_option maxRecDepth 20000 in
set_option maxHeartbeats 2000000 in
theorem m_pairsCost {n d : Nat} {I : mI} {L : mL} {c : Nat} {K : mK2} (h : W2 n d 183 4 [some (vr (some 104)), some (vi 0), some (vi 0)] [] I L c K) : C2 n d 183 [vr (some 104)] I L c K :=
  vc_C (by decide +kernel) (vc_W [116, 118, 119, 120, 121, 122, 130, 133, 214] [(183, 4, [false, false, false])] 5 (by decide +kernel) h)

set_option maxRecDepth 20000 in
set_option maxHeartbeats 2000000 in
theorem m_pairsCost_4 {n d : Nat} {l1 : Int} {l2 : Int} {I : mI} {L : mL} {c : Nat} {K : mK2} (h : if l2 < (I 104 0) then ((0 ≤ l2 ∧ l2 < 6) ∧ (if (I 127 l2.toNat) = 6 then ((0 ≤ l2 ∧ l2 < 6) ∧ ((0 ≤ l2 ∧ l2 < 6) ∧ (if (I 127 l2.toNat) < l2 then ((0 ≤ l2 ∧ l2 < 6) ∧ ((0 ≤ (wr ((wr (6 * l2)) + (I 127 l2.toNat))) ∧ (wr ((wr (6 * l2)) + (I 127 l2.toNat))) < 36) ∧ (W2 n d 183 4 [some (vr (some 104)), some (vi (wr ((wr (l1 + (I 126 l2.toNat))) + (I 125 ((wr ((wr (6 * l2)) + (I 127 l2.toNat))).toNat))))), some (vi (wr (l2 + 1)))] [] I L c K))) else (W2 n d 183 4 [some (vr (some 104)), some (vi (wr (l1 + (I 126 l2.toNat)))), some (vi (wr (l2 + 1)))] [] I L c K)))) else ((0 ≤ l2 ∧ l2 < 6) ∧ (if (I 127 l2.toNat) < l2 then ((0 ≤ l2 ∧ l2 < 6) ∧ ((0 ≤ (wr ((wr (6 * l2)) + (I 127 l2.toNat))) ∧ (wr ((wr (6 * l2)) + (I 127 l2.toNat))) < 36) ∧ (W2 n d 183 4 [some (vr (some 104)), some (vi (wr (l1 + (I 125 ((wr ((wr (6 * l2)) + (I 127 l2.toNat))).toNat))))), some (vi (wr (l2 + 1)))] [] I L c K))) else (W2 n d 183 4 [some (vr (some 104)), some (vi l1), some (vi (wr (l2 + 1)))] [] I L c K))))) else (K (some (vi l1)) I L c)) : W2 n d 183 4 [some (vr (some 104)), some (vi l1), some (vi l2)] [] I L c K :=
  vc_W [116, 118, 119, 120, 121, 122, 130, 133, 214] [(183, 4, [false, false, false])] 40 (by decide +kernel) h

set_option maxRecDepth 20000 in
set_option maxHeartbeats 2000000 in
theorem m_pairs {n d : Nat} {p : Int} {I : mI} {L : mL} {c : Nat} {K : mK2} (h : if p = 0 then (C2 n (d + 8) 180 [vr (some 104)] I L c (fun r1 I2 L3 c4 => rv r1 (W2 n (d + 9) 184 29 [some (vr (some 104)), some (vi p), some (vi 0), none, none, none, none] [] I2 L3 c4 K))) else (if p < 10 then (K (some (vi (-1))) I L c) else (if (wr (9 + (I 104 0))) < p then (K (some (vi (-1))) I L c) else (C2 n (d + 8) 180 [vr (some 104)] I L c (fun r5 I6 L7 c8 => rv r5 (W2 n (d + 9) 184 29 [some (vr (some 104)), some (vi p), some (vi 0), none, none, none, none] [] I6 L7 c8 K)))))) : C2 n (d + 9) 184 [vr (some 104), vi p] I L c K :=
  vc_C (by decide +kernel) (vc_W [116, 118, 119, 120, 121, 122, 130, 133, 214] [(184, 29, [false, false, false, true, true, true, true]), (184, 52, [false, false, false, false, true, true, true]), (184, 103, [false, false, false, true, true, true, false])] 20 (by decide +kernel) h)

set_option maxRecDepth 20000 in
set_option maxHeartbeats 2000000 in
theorem m_pairs_29 {n d : Nat} {l1 : Int} {l2 : Int} {I : mI} {L : mL} {c : Nat} {K : mK2} (h : if l2 < 6 then ((0 ≤ l2 ∧ l2 < 6) ∧ (W2 n (d + 9) 184 29 [some (vr (some 104)), some (vi l1), some (vi (wr (l2 + 1))), none, none, none, none] [] (up2 I 127 l2.toNat 0) L c K)) else (W2 n (d + 9) 184 52 [some (vr (some 104)), some (vi l1), some (vi (-1)), some (vi 1), none, none, none] [] I L c K)) : W2 n (d + 9) 184 29 [some (vr (some 104)), some (vi l1), some (vi l2), none, none, none, none] [] I L c K :=
  vc_W [116, 118, 119, 120, 121, 122, 130, 133, 214] [(184, 29, [false, false, false, true, true, true, true]), (184, 52, [false, false, false, false, true, true, true]), (184, 103, [false, false, false, true, true, true, false])] 11 (by decide +kernel) h

set_option maxRecDepth 20000 in
set_option maxHeartbeats 2000000 in
theorem m_pairs_52 {n d : Nat} {l1 : Int} {l2 : Int} {l3 : Int} {I : mI} {L : mL} {c : Nat} {K : mK2} (h : if l3 = 0 then (if l1 = 0 then (K (some (vi l2)) I L c) else ((0 ≤ (wr (l1 - 10)) ∧ (wr (l1 - 10)) < 6) ∧ (if (I 128 ((wr (l1 - 10)).toNat)) = 6 then (K (some (vi (-5))) I L c) else ((0 ≤ (wr (l1 - 10)) ∧ (wr (l1 - 10)) < 6) ∧ (K (some (vi (I 128 ((wr (l1 - 10)).toNat)))) I L c))))) else (C2 n (d + 8) 181 [vr (some 104)] I L c (fun r1 I2 L3 c4 => ri r1 (fun x5 => if x5 < (I2 104 0) then (C2 n (d + 8) 182 [vr (some 104), vi x5] I2 L3 c4 (fun r6 I7 L8 c9 => ri r6 (fun x10 => W2 n (d + 9) 184 52 [some (vr (some 104)), some (vi l1), some (vi l2), some (vi x10), none, none, none] [] I7 L8 c9 K))) else (C2 n (d + 8) 183 [vr (some 104)] I2 L3 c4 (fun r11 I12 L13 c14 => ri r11 (fun x15 => if l2 < 0 then (W2 n (d + 9) 184 103 [some (vr (some 104)), some (vi l1), some (vi x15), none, none, none, some (vi 0)] [] I12 L13 c14 K) else (if x15 < l2 then (W2 n (d + 9) 184 103 [some (vr (some 104)), some (vi l1), some (vi x15), none, none, none, some (vi 0)] [] I12 L13 c14 K) else (C2 n (d + 8) 182 [vr (some 104), vi (wr ((I12 104 0) - 1))] I12 L13 c14 (fun r16 I17 L18 c19 => ri r16 (fun x20 => W2 n (d + 9) 184 52 [some (vr (some 104)), some (vi l1), some (vi l2), some (vi x20), none, none, none] [] I17 L18 c19 K))))))))))) : W2 n (d + 9) 184 52 [some (vr (some 104)), some (vi l1), some (vi l2), some (vi l3), none, none, none] [] I L c K :=
  vc_W [116, 118, 119, 120, 121, 122, 130, 133, 214] [(184, 29, [false, false, false, true, true, true, true]), (184, 52, [false, false, false, false, true, true, true]), (184, 103, [false, false, false, true, true, true, false])] 26 (by decide +kernel) h

set_option maxRecDepth 20000 in
set_option maxHeartbeats 2000000 in
theorem m_pairs_103 {n d : Nat} {l1 : Int} {l2 : Int} {l6 : Int} {I : mI} {L : mL} {c : Nat} {K : mK2} (h : if l6 < 6 then ((0 ≤ l6 ∧ l6 < 6) ∧ ((0 ≤ l6 ∧ l6 < 6) ∧ (W2 n (d + 9) 184 103 [some (vr (some 104)), some (vi l1), some (vi l2), none, none, none, some (vi (wr (l6 + 1)))] [] (up2 I 128 l6.toNat (I 127 l6.toNat)) L c K))) else (C2 n (d + 8) 182 [vr (some 104), vi (wr ((I 104 0) - 1))] I L c (fun r1 I2 L3 c4 => ri r1 (fun x5 => W2 n (d + 9) 184 52 [some (vr (some 104)), some (vi l1), some (vi l2), some (vi x5), none, none, none] [] I2 L3 c4 K)))) : W2 n (d + 9) 184 103 [some (vr (some 104)), some (vi l1), some (vi l2), none, none, none, some (vi l6)] [] I L c K :=
  vc_W [116, 118, 119, 120, 121, 122, 130, 133, 214] [(184, 29, [false, false, false, true, true, true, true]), (184, 52, [false, false, false, false, true, true, true]), (184, 103, [false, false, false, true, true, true, false])] 14 (by decide +kernel) h

set_option maxRecDepth 20000 in
set_option maxHeartbeats 2000000 in
theorem m_raises {n d : Nat} {p : Int} {I : mI} {L : mL} {c : Nat} {K : mK2} (h : if p < 0 then (K (some (vi (-2))) I L c) else (if 9999 < p then (K (some (vi (-2))) I L c) else (W2 n (d + 9) 185 20 [some (vr (some 104)), some (vi p), some (vi (-5)), some (vi 0)] [] I L c K))) : C2 n (d + 9) 185 [vr (some 104), vi p] I L c K :=
  vc_C (by decide +kernel) (vc_W [116, 118, 119, 120, 121, 122, 130, 133, 214] [(185, 20, [false, false, false, false])] 15 (by decide +kernel) h)

set_option maxRecDepth 20000 in
set_option maxHeartbeats 2000000 in
theorem m_raises_20 {n d : Nat} {l1 : Int} {l2 : Int} {l3 : Int} {I : mI} {L : mL} {c : Nat} {K : mK2} (h : if l3 < 61 then (if l2 < 0 then (C2 n (d + 8) 160 [vr (some 104)] (up2 I 104 26 l3) L c (fun r1 I2 L3 c4 => ri r1 (fun x5 => if x5 < l1 then (W2 n (d + 9) 185 20 [some (vr (some 104)), some (vi l1), some (vi (-5)), some (vi (wr (l3 + 1)))] [] I2 L3 c4 K) else (W2 n (d + 9) 185 20 [some (vr (some 104)), some (vi l1), some (vi l3), some (vi (wr (l3 + 1)))] [] I2 L3 c4 K)))) else (K (some (vi l2)) (up2 I 104 26 (-1)) L c)) else (K (some (vi l2)) (up2 I 104 26 (-1)) L c)) : W2 n (d + 9) 185 20 [some (vr (some 104)), some (vi l1), some (vi l2), some (vi l3)] [] I L c K :=
  vc_W [116, 118, 119, 120, 121, 122, 130, 133, 214] [(185, 20, [false, false, false, false])] 18 (by decide +kernel) h

set_option maxRecDepth 20000 in
set_option maxHeartbeats 2000000 in
theorem m_see {n d : Nat} {p : Int} {t : Int} {x : Int} {y1 : Int} {I : mI} {L : mL} {c : Nat} {K : mK2} (h : if p = (-1) then (K (some (vi 0)) (up2 I 104 41 0) L c) else (if p < 0 then (K (some (vi (-1))) I L c) else (if (wr ((I 104 0) - 1)) < p then (K (some (vi (-1))) I L c) else (if t < 0 then (K (some (vi (-1))) I L c) else (if 5 < t then (K (some (vi (-1))) I L c) else (if y1 < 0 then (K (some (vi (-2))) I L c) else (if 20 < y1 then (K (some (vi (-2))) I L c) else (if (I 104 41) = 6 then (K (some (vi (-4))) I L c) else ((0 ≤ (I 104 41) ∧ (I 104 41) < 6) ∧ ((0 ≤ ((up2 I 129 ((I 104 41).toNat) p) 104 41) ∧ ((up2 I 129 ((I 104 41).toNat) p) 104 41) < 6) ∧ ((0 ≤ ((up2 (up2 I 129 ((I 104 41).toNat) p) 130 (((up2 I 129 ((I 104 41).toNat) p) 104 41).toNat) t) 104 41) ∧ ((up2 (up2 I 129 ((I 104 41).toNat) p) 130 (((up2 I 129 ((I 104 41).toNat) p) 104 41).toNat) t) 104 41) < 6) ∧ (b01W x ((0 ≤ ((up2 (up2 (up2 I 129 ((I 104 41).toNat) p) 130 (((up2 I 129 ((I 104 41).toNat) p) 104 41).toNat) t) 132 (((up2 (up2 I 129 ((I 104 41).toNat) p) 130 (((up2 I 129 ((I 104 41).toNat) p) 104 41).toNat) t) 104 41).toNat) x) 104 41) ∧ ((up2 (up2 (up2 I 129 ((I 104 41).toNat) p) 130 (((up2 I 129 ((I 104 41).toNat) p) 104 41).toNat) t) 132 (((up2 (up2 I 129 ((I 104 41).toNat) p) 130 (((up2 I 129 ((I 104 41).toNat) p) 104 41).toNat) t) 104 41).toNat) x) 104 41) < 6) ∧ (K (some (vi ((up2 (up2 (up2 (up2 (up2 I 129 ((I 104 41).toNat) p) 130 (((up2 I 129 ((I 104 41).toNat) p) 104 41).toNat) t) 132 (((up2 (up2 I 129 ((I 104 41).toNat) p) 130 (((up2 I 129 ((I 104 41).toNat) p) 104 41).toNat) t) 104 41).toNat) x) 131 (((up2 (up2 (up2 I 129 ((I 104 41).toNat) p) 130 (((up2 I 129 ((I 104 41).toNat) p) 104 41).toNat) t) 132 (((up2 (up2 I 129 ((I 104 41).toNat) p) 130 (((up2 I 129 ((I 104 41).toNat) p) 104 41).toNat) t) 104 41).toNat) x) 104 41).toNat) y1) 104 41 (wr (((up2 (up2 (up2 (up2 I 129 ((I 104 41).toNat) p) 130 (((up2 I 129 ((I 104 41).toNat) p) 104 41).toNat) t) 132 (((up2 (up2 I 129 ((I 104 41).toNat) p) 130 (((up2 I 129 ((I 104 41).toNat) p) 104 41).toNat) t) 104 41).toNat) x) 131 (((up2 (up2 (up2 I 129 ((I 104 41).toNat) p) 130 (((up2 I 129 ((I 104 41).toNat) p) 104 41).toNat) t) 132 (((up2 (up2 I 129 ((I 104 41).toNat) p) 130 (((up2 I 129 ((I 104 41).toNat) p) 104 41).toNat) t) 104 41).toNat) x) 104 41).toNat) y1) 104 41) + 1))) 104 41))) (up2 (up2 (up2 (up2 (up2 I 129 ((I 104 41).toNat) p) 130 (((up2 I 129 ((I 104 41).toNat) p) 104 41).toNat) t) 132 (((up2 (up2 I 129 ((I 104 41).toNat) p) 130 (((up2 I 129 ((I 104 41).toNat) p) 104 41).toNat) t) 104 41).toNat) x) 131 (((up2 (up2 (up2 I 129 ((I 104 41).toNat) p) 130 (((up2 I 129 ((I 104 41).toNat) p) 104 41).toNat) t) 132 (((up2 (up2 I 129 ((I 104 41).toNat) p) 130 (((up2 I 129 ((I 104 41).toNat) p) 104 41).toNat) t) 104 41).toNat) x) 104 41).toNat) y1) 104 41 (wr (((up2 (up2 (up2 (up2 I 129 ((I 104 41).toNat) p) 130 (((up2 I 129 ((I 104 41).toNat) p) 104 41).toNat) t) 132 (((up2 (up2 I 129 ((I 104 41).toNat) p) 130 (((up2 I 129 ((I 104 41).toNat) p) 104 41).toNat) t) 104 41).toNat) x) 131 (((up2 (up2 (up2 I 129 ((I 104 41).toNat) p) 130 (((up2 I 129 ((I 104 41).toNat) p) 104 41).toNat) t) 132 (((up2 (up2 I 129 ((I 104 41).toNat) p) 130 (((up2 I 129 ((I 104 41).toNat) p) 104 41).toNat) t) 104 41).toNat) x) 104 41).toNat) y1) 104 41) + 1))) L c)))))))))))))) : C2 n (d + 2) 186 [vr (some 104), vi p, vi t, vi x, vi y1] I L c K :=
  vc_C (by decide +kernel) (vc_W [116, 118, 119, 120, 121, 122, 130, 133, 214] [] 55 (by decide +kernel) h)

set_option maxRecDepth 20000 in
set_option maxHeartbeats 2000000 in
theorem m_isLooked {n d : Nat} {I : mI} {L : mL} {c : Nat} {K : mK2} (h : W2 n (d + 6) 187 4 [some (vr (some 104)), some (vi 1), some (vi 0)] [] I L c K) : C2 n (d + 6) 187 [vr (some 104)] I L c K :=
  vc_C (by decide +kernel) (vc_W [116, 118, 119, 120, 121, 122, 130, 133, 214] [(187, 4, [false, false, false])] 5 (by decide +kernel) h)

set_option maxRecDepth 20000 in
set_option maxHeartbeats 2000000 in
theorem m_isLooked_4 {n d : Nat} {l1 : Int} {l2 : Int} {I : mI} {L : mL} {c : Nat} {K : mK2} (h : if l2 < (I 104 41) then (if l1 = 0 then (b01W l1 (K (some (vi l1)) I L c)) else (C2 n (d + 5) 167 [vr (some 104)] I L c (fun r1 I2 L3 c4 => rv r1 ((0 ≤ l2 ∧ l2 < 6) ∧ (C2 n (d + 5) 165 [vr (some 104), vi (I2 131 l2.toNat)] I2 L3 c4 (fun r5 I6 L7 c8 => rv r5 ((0 ≤ l2 ∧ l2 < 6) ∧ ((0 ≤ l2 ∧ l2 < 6) ∧ (C2 n (d + 5) 156 [vr (some 104), vi (I6 129 l2.toNat), vi (I6 130 l2.toNat)] I6 L7 c8 (fun r9 I10 L11 c12 => ri r9 (fun x13 => (0 ≤ l2 ∧ l2 < 6) ∧ (if x13 = (I10 132 l2.toNat) then (C2 n (d + 5) 168 [vr (some 104)] I10 L11 c12 (fun r14 I15 L16 c17 => rv r14 (W2 n (d + 6) 187 4 [some (vr (some 104)), some (vi 1), some (vi (wr (l2 + 1)))] [] I15 L16 c17 K))) else (C2 n (d + 5) 168 [vr (some 104)] I10 L11 c12 (fun r18 I19 L20 c21 => rv r18 (W2 n (d + 6) 187 4 [some (vr (some 104)), some (vi 0), some (vi (wr (l2 + 1)))] [] I19 L20 c21 K))))))))))))))) else (b01W l1 (K (some (vi l1)) I L c))) : W2 n (d + 6) 187 4 [some (vr (some 104)), some (vi l1), some (vi l2)] [] I L c K :=
  vc_W [116, 118, 119, 120, 121, 122, 130, 133, 214] [(187, 4, [false, false, false])] 37 (by decide +kernel) h

set_option maxRecDepth 20000 in
set_option maxHeartbeats 2000000 in
theorem m_tastes {n d : Nat} {p : Int} {I : mI} {L : mL} {c : Nat} {K : mK2} (h : if p < 0 then (K (some (vi (-1))) I L c) else (if 1 < p then (K (some (vi (-1))) I L c) else (W2 n (d + 7) 188 21 [some (vr (some 104)), some (vi p), some (vi 0), some (vi (-5)), some (vi 60)] [] I L c K))) : C2 n (d + 7) 188 [vr (some 104), vi p] I L c K :=
  vc_C (by decide +kernel) (vc_W [116, 118, 119, 120, 121, 122, 130, 133, 214] [(188, 21, [false, false, false, false, false])] 15 (by decide +kernel) h)

set_option maxRecDepth 20000 in
set_option maxHeartbeats 2000000 in
theorem m_tastes_21 {n d : Nat} {l1 : Int} {l2 : Int} {l3 : Int} {l4 : Int} {I : mI} {L : mL} {c : Nat} {K : mK2} (h : if l4 < 0 then (if l1 = 0 then (K (some (vi l2)) (up2 I 104 26 (-1)) L c) else (K (some (vi l3)) (up2 I 104 26 (-1)) L c)) else (C2 n (d + 6) 187 [vr (some 104)] (up2 I 104 26 l4) L c (fun r1 I2 L3 c4 => ri r1 (fun x5 => if x5 = 0 then (W2 n (d + 7) 188 21 [some (vr (some 104)), some (vi l1), some (vi l2), some (vi l3), some (vi (wr (l4 + (-1))))] [] I2 L3 c4 K) else (W2 n (d + 7) 188 21 [some (vr (some 104)), some (vi l1), some (vi (wr (l2 + 1))), some (vi l4), some (vi (wr (l4 + (-1))))] [] I2 L3 c4 K))))) : W2 n (d + 7) 188 21 [some (vr (some 104)), some (vi l1), some (vi l2), some (vi l3), some (vi l4)] [] I L c K :=
  vc_W [116, 118, 119, 120, 121, 122, 130, 133, 214] [(188, 21, [false, false, false, false, false])] 14 (by decide +kernel) h

set_option maxRecDepth 20000 in
set_option maxHeartbeats 2000000 in
theorem m_graces {n d : Nat} {p : Int} {t : Int} {x : Int} {I : mI} {L : mL} {c : Nat} {K : mK2} (h : if p < 0 then (K (some (vi (-1))) I L c) else (if (wr ((I 104 0) - 1)) < p then (K (some (vi (-1))) I L c) else (if t < 0 then (K (some (vi (-1))) I L c) else (if 5 < t then (K (some (vi (-1))) I L c) else (if x < 0 then (K (some (vi (-1))) I L c) else (if 1 < x then (K (some (vi (-1))) I L c) else ((0 ≤ (wr ((wr (6 * p)) + t)) ∧ (wr ((wr (6 * p)) + t)) < 36) ∧ (W2 n (d + 7) 189 52 [some (vr (some 104)), some (vi p), some (vi t), some (vi x), some (vi (I 108 ((wr ((wr (6 * p)) + t)).toNat))), some (vi 0), some (vi (-5)), some (vi 9)] [] I L c K)))))))) : C2 n (d + 7) 189 [vr (some 104), vi p, vi t, vi x] I L c K :=
  vc_C (by decide +kernel) (vc_W [116, 118, 119, 120, 121, 122, 130, 133, 214] [(189, 52, [false, false, false, false, false, false, false, false])] 30 (by decide +kernel) h)

set_option maxRecDepth 20000 in
set_option maxHeartbeats 2000000 in
theorem m_graces_52 {n d : Nat} {l1 : Int} {l2 : Int} {l3 : Int} {l4 : Int} {l5 : Int} {l6 : Int} {l7 : Int} {I : mI} {L : mL} {c : Nat} {K : mK2} (h : if l7 < 0 then ((0 ≤ (wr ((wr (6 * l1)) + l2)) ∧ (wr ((wr (6 * l1)) + l2)) < 36) ∧ (if l3 = 0 then (K (some (vi l5)) (up2 I 108 ((wr ((wr (6 * l1)) + l2)).toNat) l4) L c) else (K (some (vi l6)) (up2 I 108 ((wr ((wr (6 * l1)) + l2)).toNat) l4) L c))) else ((0 ≤ (wr ((wr (6 * l1)) + l2)) ∧ (wr ((wr (6 * l1)) + l2)) < 36) ∧ (C2 n (d + 6) 187 [vr (some 104)] (up2 I 108 ((wr ((wr (6 * l1)) + l2)).toNat) l7) L c (fun r1 I2 L3 c4 => ri r1 (fun x5 => if x5 = 0 then (W2 n (d + 7) 189 52 [some (vr (some 104)), some (vi l1), some (vi l2), some (vi l3), some (vi l4), some (vi l5), some (vi l6), some (vi (wr (l7 + (-1))))] [] I2 L3 c4 K) else (W2 n (d + 7) 189 52 [some (vr (some 104)), some (vi l1), some (vi l2), some (vi l3), some (vi l4), some (vi (wr (l5 + 1))), some (vi l7), some (vi (wr (l7 + (-1))))] [] I2 L3 c4 K)))))) : W2 n (d + 7) 189 52 [some (vr (some 104)), some (vi l1), some (vi l2), some (vi l3), some (vi l4), some (vi l5), some (vi l6), some (vi l7)] [] I L c K :=
  vc_W [116, 118, 119, 120, 121, 122, 130, 133, 214] [(189, 52, [false, false, false, false, false, false, false, false])] 20 (by decide +kernel) h

set_option maxRecDepth 20000 in
set_option maxHeartbeats 2000000 in
theorem m_can {n d : Nat} {p : Int} {t : Int} {I : mI} {L : mL} {c : Nat} {K : mK2} (h : if p < 0 then (K (some (vi (-1))) I L c) else (if (wr ((I 104 0) - 1)) < p then (K (some (vi (-1))) I L c) else (if t < 0 then (K (some (vi (-1))) I L c) else (if 1 < t then (K (some (vi (-1))) I L c) else ((0 ≤ p ∧ p < 6) ∧ (W2 n (d + 7) 190 38 [some (vr (some 104)), some (vi p), some (vi t), some (vi (I 106 p.toNat)), some (vi 0), some (vi (-5)), some (vi 9)] [] I L c K)))))) : C2 n (d + 7) 190 [vr (some 104), vi p, vi t] I L c K :=
  vc_C (by decide +kernel) (vc_W [116, 118, 119, 120, 121, 122, 130, 133, 214] [(190, 38, [false, false, false, false, false, false, false])] 22 (by decide +kernel) h)

set_option maxRecDepth 20000 in
set_option maxHeartbeats 2000000 in
theorem m_can_38 {n d : Nat} {l1 : Int} {l2 : Int} {l3 : Int} {l4 : Int} {l5 : Int} {l6 : Int} {I : mI} {L : mL} {c : Nat} {K : mK2} (h : if l6 < 0 then ((0 ≤ l1 ∧ l1 < 6) ∧ (if l2 = 0 then (K (some (vi l4)) (up2 I 106 l1.toNat l3) L c) else (K (some (vi l5)) (up2 I 106 l1.toNat l3) L c))) else ((0 ≤ l1 ∧ l1 < 6) ∧ (C2 n (d + 6) 187 [vr (some 104)] (up2 I 106 l1.toNat l6) L c (fun r1 I2 L3 c4 => ri r1 (fun x5 => if x5 = 0 then (W2 n (d + 7) 190 38 [some (vr (some 104)), some (vi l1), some (vi l2), some (vi l3), some (vi l4), some (vi l5), some (vi (wr (l6 + (-1))))] [] I2 L3 c4 K) else (W2 n (d + 7) 190 38 [some (vr (some 104)), some (vi l1), some (vi l2), some (vi l3), some (vi (wr (l4 + 1))), some (vi l6), some (vi (wr (l6 + (-1))))] [] I2 L3 c4 K)))))) : W2 n (d + 7) 190 38 [some (vr (some 104)), some (vi l1), some (vi l2), some (vi l3), some (vi l4), some (vi l5), some (vi l6)] [] I L c K :=
  vc_W [116, 118, 119, 120, 121, 122, 130, 133, 214] [(190, 38, [false, false, false, false, false, false, false])] 16 (by decide +kernel) h

set_option maxRecDepth 20000 in
set_option maxHeartbeats 2000000 in
theorem m_divisor {n d : Nat} {p : Int} {t : Int} {I : mI} {L : mL} {c : Nat} {K : mK2} (h : W2 n d 191 5 [none, none, none, some (vi p), some (vi t), none] [] I L c K) : C2 n d 191 [vr (some 104), vi p, vi t] I L c K :=
  vc_C (by decide +kernel) (vc_W [116, 118, 119, 120, 121, 122, 130, 133, 214] [(191, 5, [true, true, true, false, false, true])] 5 (by decide +kernel) h)

set_option maxRecDepth 20000 in
set_option maxHeartbeats 2000000 in
theorem m_divisor_5 {n d : Nat} {l3 : Int} {l4 : Int} {I : mI} {L : mL} {c : Nat} {K : mK2} (h : if l4 = 0 then (K (some (vi l3)) I L c) else (nzW l4 (W2 n d 191 5 [none, none, none, some (vi l4), some (vi (l3.tmod l4)), none] [] I L c K))) : W2 n d 191 5 [none, none, none, some (vi l3), some (vi l4), none] [] I L c K :=
  vc_W [116, 118, 119, 120, 121, 122, 130, 133, 214] [(191, 5, [true, true, true, false, false, true])] 12 (by decide +kernel) h

set_option maxRecDepth 20000 in
set_option maxHeartbeats 2000000 in
theorem m_lowest {n d : Nat} {p : Int} {t : Int} {x : Int} {I : mI} {L : mL} {c : Nat} {K : mK2} (h : C2 n d 191 [vr (some 104), vi p, vi t] I L c (fun r1 I2 L3 c4 => ri r1 (fun x5 => if x = 0 then (nzW x5 (K (some (vl (Int64.ofInt (wr (p.tdiv x5))))) I2 L3 c4)) else (nzW x5 (K (some (vl (Int64.ofInt (wr (t.tdiv x5))))) I2 L3 c4))))) : C2 n (d + 1) 192 [vr (some 104), vi p, vi t, vi x] I L c K :=
  vc_C (by decide +kernel) (vc_W [116, 118, 119, 120, 121, 122, 130, 133, 214] [] 14 (by decide +kernel) h)

set_option maxRecDepth 20000 in
set_option maxHeartbeats 2000000 in
theorem m_odds {n d : Nat} {p : Int} {t : Int} {x : Int} {I : mI} {L : mL} {c : Nat} {K : mK2} (h : if p < 0 then (K (some (vl (Int64.ofInt (-9223372036854775808)))) I L c) else (if (wr ((I 104 0) - 1)) < p then (K (some (vl (Int64.ofInt (-9223372036854775808)))) I L c) else (if t < 0 then (K (some (vl (Int64.ofInt (-9223372036854775808)))) I L c) else (if 5 < t then (K (some (vl (Int64.ofInt (-9223372036854775808)))) I L c) else (if x < 0 then (K (some (vl (Int64.ofInt (-9223372036854775808)))) I L c) else (if 1 < x then (K (some (vl (Int64.ofInt (-9223372036854775808)))) I L c) else (W2 n (d + 6) 193 42 [some (vr (some 104)), some (vi p), some (vi t), some (vi x), some (vi (I 104 2)), some (vi 0), some (vi 0)] [] I L c K))))))) : C2 n (d + 6) 193 [vr (some 104), vi p, vi t, vi x] I L c K :=
  vc_C (by decide +kernel) (vc_W [116, 118, 119, 120, 121, 122, 130, 133, 214] [(193, 42, [false, false, false, false, false, false, false])] 23 (by decide +kernel) h)

set_option maxRecDepth 20000 in
set_option maxHeartbeats 2000000 in
theorem m_odds_42 {n d : Nat} {l1 : Int} {l2 : Int} {l3 : Int} {l4 : Int} {l5 : Int} {l6 : Int} {I : mI} {L : mL} {c : Nat} {K : mK2} (h : if l6 < 24 then (C2 n (d + 5) 156 [vr (some 104), vi l1, vi l2] (up2 I 104 2 l6) L c (fun r1 I2 L3 c4 => ri r1 (fun x5 => if x5 = 0 then (W2 n (d + 6) 193 42 [some (vr (some 104)), some (vi l1), some (vi l2), some (vi l3), some (vi l4), some (vi (wr (l5 + 0))), some (vi (wr (l6 + 1)))] [] I2 L3 c4 K) else (W2 n (d + 6) 193 42 [some (vr (some 104)), some (vi l1), some (vi l2), some (vi l3), some (vi l4), some (vi (wr (l5 + 1))), some (vi (wr (l6 + 1)))] [] I2 L3 c4 K)))) else (C2 n (d + 5) 192 [vr (some 104), vi l5, vi 24, vi l3] (up2 I 104 2 l4) L c (fun r6 I7 L8 c9 => rl r6 (fun x10 => K (some (vl x10)) I7 L8 c9)))) : W2 n (d + 6) 193 42 [some (vr (some 104)), some (vi l1), some (vi l2), some (vi l3), some (vi l4), some (vi l5), some (vi l6)] [] I L c K :=
  vc_W [116, 118, 119, 120, 121, 122, 130, 133, 214] [(193, 42, [false, false, false, false, false, false, false])] 19 (by decide +kernel) h

set_option maxRecDepth 20000 in
set_option maxHeartbeats 2000000 in
theorem m_mean {n d : Nat} {p : Int} {t : Int} {I : mI} {L : mL} {c : Nat} {K : mK2} (h : if p < 0 then (K (some (vl (Int64.ofInt (-9223372036854775808)))) I L c) else (if 23 < p then (K (some (vl (Int64.ofInt (-9223372036854775808)))) I L c) else (if t < 0 then (K (some (vl (Int64.ofInt (-9223372036854775808)))) I L c) else (if 1 < t then (K (some (vl (Int64.ofInt (-9223372036854775808)))) I L c) else (if (I 104 0) = 0 then (K (some (vl (Int64.ofInt (-9223372036854775808)))) I L c) else (W2 n (d + 9) 194 34 [some (vr (some 104)), some (vi p), some (vi t), some (vi 0), some (vi 0)] [] I L c K)))))) : C2 n (d + 9) 194 [vr (some 104), vi p, vi t] I L c K :=
  vc_C (by decide +kernel) (vc_W [116, 118, 119, 120, 121, 122, 130, 133, 214] [(194, 34, [false, false, false, false, false])] 19 (by decide +kernel) h)

set_option maxRecDepth 20000 in
set_option maxHeartbeats 2000000 in
theorem m_mean_34 {n d : Nat} {l1 : Int} {l2 : Int} {l3 : Int} {l4 : Int} {I : mI} {L : mL} {c : Nat} {K : mK2} (h : if l4 < (I 104 0) then (C2 n (d + 8) 170 [vr (some 104), vi l4, vi l1] I L c (fun r1 I2 L3 c4 => ri r1 (fun x5 => W2 n (d + 9) 194 34 [some (vr (some 104)), some (vi l1), some (vi l2), some (vi (wr (l3 + x5))), some (vi (wr (l4 + 1)))] [] I2 L3 c4 K))) else (C2 n (d + 8) 192 [vr (some 104), vi l3, vi (I 104 0), vi l2] I L c (fun r6 I7 L8 c9 => rl r6 (fun x10 => K (some (vl x10)) I7 L8 c9)))) : W2 n (d + 9) 194 34 [some (vr (some 104)), some (vi l1), some (vi l2), some (vi l3), some (vi l4)] [] I L c K :=
  vc_W [116, 118, 119, 120, 121, 122, 130, 133, 214] [(194, 34, [false, false, false, false, false])] 14 (by decide +kernel) h
