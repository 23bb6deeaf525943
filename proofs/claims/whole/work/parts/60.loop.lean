/-! ===== the law: its loop ===== -/
set_option maxRecDepth 100000 in
set_option maxHeartbeats 20000000 in
theorem lw_head0 {n d kc ks : Nat} {x : Int} {H : mH} {K : mK} (h : if wr (((n : Nat) : Int) - 6) < x then (K (some (vi 1)) H) else (Wm n d 228 27 kc ks [some (vr (some 0)), some (vr (some 16)), some (vr (some 104)), some (vi x)] [] H K)) : Wm n d 228 18 kc ks [some (vr (some 0)), some (vr (some 16)), some (vr (some 104)), some (vi x)] [] H K :=
  wpU_sound mCode_ok n [] [(228, 27)] 12 [] (fun v hv => by cases hv) _ _ _ _ _ _ _ _ K K (fun _ _ q => q) h
set_option maxRecDepth 100000 in
set_option maxHeartbeats 20000000 in
theorem lw_head1 {n d kc ks : Nat} {x : Int} {H : mH} {K : mK} (b : 0 ≤ x ∧ x < ((n : Nat) : Int)) (h : if band (H.1 0 x.toNat) 63 = 0 then (Wm n d 228 200 kc ks [some (vr (some 0)), some (vr (some 16)), some (vr (some 104)), some (vi x)] [] H K) else (if band (H.1 0 x.toNat) 63 = 1 then (Wm n d 228 243 kc ks [some (vr (some 0)), some (vr (some 16)), some (vr (some 104)), some (vi x)] [] H K) else (if band (H.1 0 x.toNat) 63 = 2 then (Wm n d 228 276 kc ks [some (vr (some 0)), some (vr (some 16)), some (vr (some 104)), some (vi x)] [] H K) else (if band (H.1 0 x.toNat) 63 = 3 then (Wm n d 228 319 kc ks [some (vr (some 0)), some (vr (some 16)), some (vr (some 104)), some (vi x)] [] H K) else (if band (H.1 0 x.toNat) 63 = 4 then (Wm n d 228 368 kc ks [some (vr (some 0)), some (vr (some 16)), some (vr (some 104)), some (vi x)] [] H K) else (if band (H.1 0 x.toNat) 63 = 5 then (Wm n d 228 411 kc ks [some (vr (some 0)), some (vr (some 16)), some (vr (some 104)), some (vi x)] [] H K) else (if band (H.1 0 x.toNat) 63 = 6 then (Wm n d 228 434 kc ks [some (vr (some 0)), some (vr (some 16)), some (vr (some 104)), some (vi x)] [] H K) else (if band (H.1 0 x.toNat) 63 = 7 then (Wm n d 228 457 kc ks [some (vr (some 0)), some (vr (some 16)), some (vr (some 104)), some (vi x)] [] H K) else (if band (H.1 0 x.toNat) 63 = 8 then (Wm n d 228 470 kc ks [some (vr (some 0)), some (vr (some 16)), some (vr (some 104)), some (vi x)] [] H K) else (if band (H.1 0 x.toNat) 63 = 9 then (Wm n d 228 493 kc ks [some (vr (some 0)), some (vr (some 16)), some (vr (some 104)), some (vi x)] [] H K) else (if band (H.1 0 x.toNat) 63 = 10 then (Wm n d 228 516 kc ks [some (vr (some 0)), some (vr (some 16)), some (vr (some 104)), some (vi x)] [] H K) else (if band (H.1 0 x.toNat) 63 = 11 then (Wm n d 228 549 kc ks [some (vr (some 0)), some (vr (some 16)), some (vr (some 104)), some (vi x)] [] H K) else (if band (H.1 0 x.toNat) 63 = 12 then (Wm n d 228 582 kc ks [some (vr (some 0)), some (vr (some 16)), some (vr (some 104)), some (vi x)] [] H K) else (if band (H.1 0 x.toNat) 63 = 13 then (Wm n d 228 615 kc ks [some (vr (some 0)), some (vr (some 16)), some (vr (some 104)), some (vi x)] [] H K) else (if band (H.1 0 x.toNat) 63 = 14 then (Wm n d 228 638 kc ks [some (vr (some 0)), some (vr (some 16)), some (vr (some 104)), some (vi x)] [] H K) else (if band (H.1 0 x.toNat) 63 = 15 then (Wm n d 228 671 kc ks [some (vr (some 0)), some (vr (some 16)), some (vr (some 104)), some (vi x)] [] H K) else (if band (H.1 0 x.toNat) 63 = 16 then (Wm n d 228 694 kc ks [some (vr (some 0)), some (vr (some 16)), some (vr (some 104)), some (vi x)] [] H K) else (if band (H.1 0 x.toNat) 63 = 17 then (Wm n d 228 717 kc ks [some (vr (some 0)), some (vr (some 16)), some (vr (some 104)), some (vi x)] [] H K) else (if band (H.1 0 x.toNat) 63 = 18 then (Wm n d 228 786 kc ks [some (vr (some 0)), some (vr (some 16)), some (vr (some 104)), some (vi x)] [] H K) else (if band (H.1 0 x.toNat) 63 = 19 then (Wm n d 228 809 kc ks [some (vr (some 0)), some (vr (some 16)), some (vr (some 104)), some (vi x)] [] H K) else (if band (H.1 0 x.toNat) 63 = 20 then (Wm n d 228 852 kc ks [some (vr (some 0)), some (vr (some 16)), some (vr (some 104)), some (vi x)] [] H K) else (if band (H.1 0 x.toNat) 63 = 21 then (Wm n d 228 885 kc ks [some (vr (some 0)), some (vr (some 16)), some (vr (some 104)), some (vi x)] [] H K) else (if band (H.1 0 x.toNat) 63 = 22 then (Wm n d 228 929 kc ks [some (vr (some 0)), some (vr (some 16)), some (vr (some 104)), some (vi x)] [] H K) else (if band (H.1 0 x.toNat) 63 = 23 then (Wm n d 228 963 kc ks [some (vr (some 0)), some (vr (some 16)), some (vr (some 104)), some (vi x)] [] H K) else (if band (H.1 0 x.toNat) 63 = 24 then (Wm n d 228 996 kc ks [some (vr (some 0)), some (vr (some 16)), some (vr (some 104)), some (vi x)] [] H K) else (if band (H.1 0 x.toNat) 63 = 25 then (Wm n d 228 1019 kc ks [some (vr (some 0)), some (vr (some 16)), some (vr (some 104)), some (vi x)] [] H K) else (if band (H.1 0 x.toNat) 63 = 26 then (Wm n d 228 1052 kc ks [some (vr (some 0)), some (vr (some 16)), some (vr (some 104)), some (vi x)] [] H K) else (if band (H.1 0 x.toNat) 63 = 27 then (Wm n d 228 1065 kc ks [some (vr (some 0)), some (vr (some 16)), some (vr (some 104)), some (vi x)] [] H K) else (if band (H.1 0 x.toNat) 63 = 28 then (Wm n d 228 1098 kc ks [some (vr (some 0)), some (vr (some 16)), some (vr (some 104)), some (vi x)] [] H K) else (if band (H.1 0 x.toNat) 63 = 29 then (Wm n d 228 1111 kc ks [some (vr (some 0)), some (vr (some 16)), some (vr (some 104)), some (vi x)] [] H K) else (if band (H.1 0 x.toNat) 63 = 30 then (Wm n d 228 1124 kc ks [some (vr (some 0)), some (vr (some 16)), some (vr (some 104)), some (vi x)] [] H K) else (if band (H.1 0 x.toNat) 63 = 31 then (Wm n d 228 1167 kc ks [some (vr (some 0)), some (vr (some 16)), some (vr (some 104)), some (vi x)] [] H K) else (if band (H.1 0 x.toNat) 63 = 32 then (Wm n d 228 1190 kc ks [some (vr (some 0)), some (vr (some 16)), some (vr (some 104)), some (vi x)] [] H K) else (if band (H.1 0 x.toNat) 63 = 33 then (Wm n d 228 1223 kc ks [some (vr (some 0)), some (vr (some 16)), some (vr (some 104)), some (vi x)] [] H K) else (if band (H.1 0 x.toNat) 63 = 34 then (Wm n d 228 1246 kc ks [some (vr (some 0)), some (vr (some 16)), some (vr (some 104)), some (vi x)] [] H K) else (if band (H.1 0 x.toNat) 63 = 35 then (Wm n d 228 1289 kc ks [some (vr (some 0)), some (vr (some 16)), some (vr (some 104)), some (vi x)] [] H K) else (if band (H.1 0 x.toNat) 63 = 36 then (Wm n d 228 1362 kc ks [some (vr (some 0)), some (vr (some 16)), some (vr (some 104)), some (vi x)] [] H K) else (if band (H.1 0 x.toNat) 63 = 37 then (Wm n d 228 1396 kc ks [some (vr (some 0)), some (vr (some 16)), some (vr (some 104)), some (vi x)] [] H K) else (Wm n d 228 1459 kc ks [some (vr (some 0)), some (vr (some 16)), some (vr (some 104)), some (vi x)] [] H K))))))))))))))))))))))))))))))))))))))) : Wm n d 228 27 kc ks [some (vr (some 0)), some (vr (some 16)), some (vr (some 104)), some (vi x)] [] H K :=
  wpU_sound mCode_ok n [] [(228, 200), (228, 243), (228, 276), (228, 319), (228, 368), (228, 411), (228, 434), (228, 457), (228, 470), (228, 493), (228, 516), (228, 549), (228, 582), (228, 615), (228, 638), (228, 671), (228, 694), (228, 717), (228, 786), (228, 809), (228, 852), (228, 885), (228, 929), (228, 963), (228, 996), (228, 1019), (228, 1052), (228, 1065), (228, 1098), (228, 1111), (228, 1124), (228, 1167), (228, 1190), (228, 1223), (228, 1246), (228, 1289), (228, 1362), (228, 1396), (228, 1459)] 12 [] (fun v hv => by cases hv) _ _ _ _ _ _ _ _ K K (fun _ _ q => q) (And.intro b h)
set_option maxRecDepth 100000 in
set_option maxHeartbeats 20000000 in
theorem lw_tail {n d kc ks : Nat} {x : Int} {H : mH} {K : mK} (h : Wm n d 228 18 kc ks [some (vr (some 0)), some (vr (some 16)), some (vr (some 104)), some (vi (wr (x + 6)))] [] H K) : Wm n d 228 1459 kc ks [some (vr (some 0)), some (vr (some 16)), some (vr (some 104)), some (vi x)] [] H K :=
  wpU_sound mCode_ok n [] [(228, 18)] 4 [] (fun v hv => by cases hv) _ _ _ _ _ _ _ _ K K (fun _ _ q => q) h
theorem b01_v (x : Int) : 0 ≤ (if x = 0 then (0 : Int) else 1) ∧ (if x = 0 then (0 : Int) else 1) ≤ 1 := by
  split <;> exact ⟨by decide, by decide⟩
set_option maxHeartbeats 8000000 in
theorem law_loop {n e : Nat} (hn : n ≤ 3072) {scr : Nat → Int} (hscr : ∀ k, rg (scr k)) {K : mK} (hK : ∀ H, K (some (vi 1)) H) : ∀ (m x kc ks c : Nat) (I : mI) (L : mL), n < x + 6 * m + 6 → x ≤ 3072 → 4 * m + 1 ≤ kc → 128 * m + 1 ≤ ks → RC I L c → I 0 = scr → Wm n (e + 24) 228 18 kc ks [some (vr (some 0)), some (vr (some 16)), some (vr (some 104)), some (vi ((x : Nat) : Int))] [] (hs I L c) K := by
  intro m
  induction m with
  | zero =>
    intro x kc ks c I L h1 h2 h3 h4 r h0
    refine lw_head0 ?_
    rw [if_pos (by rw [wri (by omega)]; omega)]
    exact hK _
  | succ m ih =>
    intro x kc ks c I L h1 h2 h3 h4 r h0
    refine lw_head0 ?_
    rw [wri (show -2147483648 ≤ ((n : Nat) : Int) - 6 ∧ ((n : Nat) : Int) - 6 < 2147483648 by omega)]
    by_cases hx : ((n : Nat) : Int) - 6 < ((x : Nat) : Int)
    · rw [if_pos hx]
      exact hK _
    · rw [if_neg hx]
      obtain ⟨a, rfl⟩ : ∃ a, kc = a + 5 := ⟨kc - 5, by omega⟩
      obtain ⟨b, rfl⟩ : ∃ b, ks = b + 129 := ⟨ks - 129, by omega⟩
      have g1 : n < x + 6 + 6 * m + 6 := by omega
      have g2 : x + 6 ≤ 3072 := by omega
      have g3 : 4 * m + 1 ≤ a + 4 + 1 := by omega
      have g4 : 128 * m + 1 ≤ b + 128 + 1 := by omega
      have g5 : 4 * m + 1 ≤ a + 1 := by omega
      have g6 : 128 * m + 1 ≤ b + 1 := by omega
      have g7 : 0 ≤ ((x : Nat) : Int) ∧ ((x : Nat) : Int) < ((n : Nat) : Int) := by omega
      have bd : ∀ j : Int, 0 ≤ j → j < 6 → 0 ≤ wr (((x : Nat) : Int) + j) ∧ wr (((x : Nat) : Int) + j) < ((n : Nat) : Int) := by
        intro j j1 j2
        rw [wri (by omega)]
        omega
      have w6 : wr (((x : Nat) : Int) + 6) = (((x + 6 : Nat) : Nat) : Int) := by rw [wri (by omega)]; rfl
      have b1 := bd 1 (by decide) (by decide)
      have b2 := bd 2 (by decide) (by decide)
      have b3 := bd 3 (by decide) (by decide)
      have b4 := bd 4 (by decide) (by decide)
      have b5 := bd 5 (by decide) (by decide)
      clear bd
      have nx : ∀ I' L' c', RC I' L' c' → I' 0 = I 0 → Wm n (e + 24) 228 18 (a + 4 + 1) (b + 128 + 1) [some (vr (some 0)), some (vr (some 16)), some (vr (some 104)), some (vi (wr (((x : Nat) : Int) + 6)))] [] (hs I' L' c') K := by
        intro I' L' c' r' e0
        rw [w6]
        exact ih (x + 6) _ _ _ _ _ g1 g2 g3 g4 r' (e0.trans h0)
      have nxo : ∀ I' L' c', RC I' L' c' → I' 0 = I 0 → Wm n (e + 24) 228 18 (a + 1) (b + 1) [some (vr (some 0)), some (vr (some 16)), some (vr (some 104)), some (vi (wr (((x : Nat) : Int) + 6)))] [] (hs I' L' c') K := by
        intro I' L' c' r' e0
        rw [w6]
        exact ih (x + 6) _ _ _ _ _ g1 g2 g5 g6 r' (e0.trans h0)
      have rgI : ∀ k, rg (I 0 k) := fun k => by rw [h0]; exact hscr k
      have qq : ∀ I' L' c', RC I' L' c' → RC I' L' c' := fun _ _ _ q => q
      refine lw_head1 g7 ?_
      refine ite_b (fun _ => lw_o0 (kc := a + 4) (ks := b + 128) b1 b2 b3 (law_call (p_person (d := e + 3) r (fun _ _ q => q)) (fun H1 e1 => by rw [e1]; try rfl) nx)) (fun _ => ?_)
      refine ite_b (fun _ => lw_o1 (kc := a + 4) (ks := b + 128) b1 b2 (law_call (p_of (d := e + 3) r (rgI _) (fun _ _ q => q)) (fun H1 e1 => by rw [e1]; try rfl) nx)) (fun _ => ?_)
      refine ite_b (fun _ => lw_o2 (kc := a + 4) (ks := b + 128) b1 b2 b3 (law_call (p_grace (d := e + 3) r (fun _ _ q => q)) (fun H1 e1 => by rw [e1]; try rfl) nx)) (fun _ => ?_)
      refine ite_b (fun _ => lw_o3 (kc := a + 4) (ks := b + 128) b1 b2 (law_call (p_leave (d := e + 3) r (b01_v _) (fun _ _ q => q)) (fun H1 e1 => by rw [e1]; try rfl) nx)) (fun _ => ?_)
      refine ite_b (fun _ => lw_o4 (kc := a + 4) (ks := b + 128) b1 b2 b3 (law_call (p_row (d := e + 3) r (fun _ _ q => q)) (fun H1 e1 => by rw [e1]; try rfl) nx)) (fun _ => ?_)
      refine ite_b (fun _ => lw_o5 (kc := a + 4) (ks := b + 128) b1 (law_call (p_hour (d := e + 3) r (fun _ _ q => q)) (fun H1 e1 => by rw [e1]; try rfl) nx)) (fun _ => ?_)
      refine ite_b (fun _ => lw_o6 (kc := a + 4) (ks := b + 128) b1 (law_call (p_feed (d := e + 3) r (fun _ _ q => q)) (fun H1 e1 => by rw [e1]; try rfl) nx)) (fun _ => ?_)
      refine ite_b (fun _ => lw_o7 (kc := a) (ks := b) (law_office (e := e) r nxo)) (fun _ => ?_)
      refine ite_b (fun _ => lw_o8 (kc := a + 4) (ks := b + 128) b1 (law_call (p_told (d := e + 3) r (fun _ _ q => q)) (fun H1 e1 => by rw [e1]; try rfl) nx)) (fun _ => ?_)
      refine ite_b (fun _ => lw_o9 (kc := a + 4) (ks := b + 128) b1 (law_call (p_pass (d := e + 3) r (fun _ _ q => q)) (fun H1 e1 => by rw [e1]; try rfl) nx)) (fun _ => ?_)
      refine ite_b (fun _ => lw_o10 (kc := a + 4) (ks := b + 128) b1 b2 (law_call (p_on (d := e + 3) r (rgI _) (fun _ _ q => q)) (fun H1 e1 => by rw [e1]; try rfl) nx)) (fun _ => ?_)
      refine ite_b (fun _ => lw_o11 (kc := a + 4) (ks := b + 128) b1 b2 (law_call (p_seenAt (d := e + 3) r (fun _ _ q => q)) (fun H1 e1 => by rw [e1]; try rfl) nx)) (fun _ => ?_)
      refine ite_b (fun _ => lw_o12 (kc := a + 4) (ks := b + 128) b1 b2 (law_call (p_when (d := e + 3) r (fun _ _ q => q)) (fun H1 e1 => by rw [e1]; try rfl) nx)) (fun _ => ?_)
      refine ite_b (fun _ => lw_o13 (kc := a + 4) (ks := b + 128) b1 (law_call (p_line (d := e + 3) r (fun _ _ q => q)) (fun H1 e1 => by rw [e1]; try rfl) nx)) (fun _ => ?_)
      refine ite_b (fun _ => lw_o14 (kc := a + 4) (ks := b + 128) b1 b2 (law_call (p_jointly (d := e + 3) r (fun _ _ q => q)) (fun H1 e1 => by rw [e1]; try rfl) nx)) (fun _ => ?_)
      refine ite_b (fun _ => lw_o15 (kc := a + 4) (ks := b + 128) b1 (law_call (p_pairs (d := e + 3) r (rgI _) (fun _ _ q => q)) (fun H1 e1 => by rw [e1]; try rfl) nx)) (fun _ => ?_)
      refine ite_b (fun _ => lw_o16 (kc := a + 4) (ks := b + 128) b1 (law_call (p_raises (d := e + 3) r (fun _ _ q => q)) (fun H1 e1 => by rw [e1]; try rfl) nx)) (fun _ => ?_)
      refine ite_b (fun _ => lw_o17 (kc := a + 4) (ks := b + 128) b1 b2 b3 b4 (law_call (p_see (d := e + 3) r (b01_v _) (fun _ _ q => q)) (fun H1 e1 => by rw [e1]; try rfl) nx)) (fun _ => ?_)
      refine ite_b (fun _ => lw_o18 (kc := a + 4) (ks := b + 128) b1 (law_call (p_tastes (d := e + 3) r (fun _ _ q => q)) (fun H1 e1 => by rw [e1]; try rfl) nx)) (fun _ => ?_)
      refine ite_b (fun _ => lw_o19 (kc := a + 4) (ks := b + 128) b1 b2 b3 (law_call (p_graces (d := e + 3) r (fun _ _ q => q)) (fun H1 e1 => by rw [e1]; try rfl) nx)) (fun _ => ?_)
      refine ite_b (fun _ => lw_o20 (kc := a + 4) (ks := b + 128) b1 b2 (law_call (p_can (d := e + 3) r (fun _ _ q => q)) (fun H1 e1 => by rw [e1]; try rfl) nx)) (fun _ => ?_)
      refine ite_b (fun _ => lw_o21 (kc := a + 4) (ks := b + 128) b1 b2 b3 (law_callL (p_odds (d := e + 3) r (fun _ _ q => q)) (fun H1 e1 => by rw [e1]; try rfl) nx)) (fun _ => ?_)
      refine ite_b (fun _ => lw_o22 (kc := a + 4) (ks := b + 128) b1 b2 (law_callL (p_mean (d := e + 3) r (fun _ _ q => q)) (fun H1 e1 => by rw [e1]; try rfl) nx)) (fun _ => ?_)
      refine ite_b (fun _ => lw_o23 (kc := a + 4) (ks := b + 128) b1 b2 (law_call (p_plan (d := e + 3) r (fun _ _ q => q)) (fun H1 e1 => by rw [e1]; try rfl) nx)) (fun _ => ?_)
      refine ite_b (fun _ => lw_o24 (kc := a + 4) (ks := b + 128) b1 (law_call (p_ends (d := e + 3) r (fun _ _ q => q)) (fun H1 e1 => by rw [e1]; try rfl) nx)) (fun _ => ?_)
      refine ite_b (fun _ => lw_o25 (kc := a + 4) (ks := b + 128) b1 b2 (law_call (p_book (d := e + 3) r (fun _ _ q => q)) (fun H1 e1 => by rw [e1]; try rfl) nx)) (fun _ => ?_)
      refine ite_b (fun _ => lw_o26 (kc := a + 4) (ks := b + 128)  (law_call (p_looked (d := e + 3) r (fun _ _ q => q)) (fun _ _ => rfl) nx)) (fun _ => ?_)
      refine ite_b (fun _ => lw_o27 (kc := a + 4) (ks := b + 128) b1 b2 (law_call (p_judge (d := e + 3) r (rgI _) (fun _ _ q => q)) (fun H1 e1 => by rw [e1]; try rfl) nx)) (fun _ => ?_)
      refine ite_b (fun _ => lw_o28 (kc := a + 4) (ks := b + 128)  (law_call (p_image (d := e + 3) r (fun _ _ q => q)) (fun _ _ => rfl) nx)) (fun _ => ?_)
      refine ite_b (fun _ => lw_o29 (kc := a + 4) (ks := b + 128)  (law_call (p_undo (d := e + 3) r (fun _ _ q => q)) (fun _ _ => rfl) nx)) (fun _ => ?_)
      refine ite_b (fun _ => lw_o30 (kc := a + 4) (ks := b + 128) b1 b2 b3 (law_call (p_act (d := e + 3) r (fun _ _ q => q)) (fun H1 e1 => by rw [e1]; try rfl) nx)) (fun _ => ?_)
      refine ite_b (fun _ => lw_o31 (kc := a + 4) (ks := b + 128) b1 (law_call (p_trace (d := e + 3) r (fun _ _ q => q)) (fun H1 e1 => by rw [e1]; try rfl) nx)) (fun _ => ?_)
      refine ite_b (fun _ => lw_o32 (kc := a + 4) (ks := b + 128) b1 b2 (law_call (p_taken (d := e + 3) r (fun _ _ q => q)) (fun H1 e1 => by rw [e1]; try rfl) nx)) (fun _ => ?_)
      refine ite_b (fun _ => lw_o33 (kc := a + 4) (ks := b + 128) b1 (law_call (p_count (d := e + 3) r (fun _ _ q => q)) (fun H1 e1 => by rw [e1]; try rfl) nx)) (fun _ => ?_)
      refine ite_b (fun _ => lw_o34 (kc := a + 4) (ks := b + 128) b1 b2 b3 (law_call (p_tape (d := e + 3) r (rgI _) (fun _ _ q => q)) (fun H1 e1 => by rw [e1]; try rfl) nx)) (fun _ => ?_)
      refine ite_b (fun _ => lw_o35 (kc := a + 4) (ks := b + 128) b1 b2 b3 b4 (law_call (p_item (d := e + 3) r (fun _ _ q => q)) (fun H1 e1 => by rw [e1]; try rfl) nx)) (fun _ => ?_)
      refine ite_b (fun _ => lw_o36 (kc := a + 4) (ks := b + 128) b1 b2 (law_callL (p_read (d := e + 3) r (fun _ _ q => q)) (fun H1 e1 => by rw [e1]; try rfl) nx)) (fun _ => ?_)
      refine ite_b (fun _ => lw_o37 (kc := a + 4) (ks := b + 128) b1 b2 b3 b4 b5 (law_call (p_shift (d := e + 3) r (rgI _) (fun _ _ q => q)) (fun H1 e1 => by rw [e1]; try rfl) nx)) (fun _ => ?_)
      refine lw_tail ?_
      exact nx I L c r rfl
