/-! ===== a line: both answer alike ===== -/
abbrev lLU : List Nat := [84, 85, 86]
def TVall (I : mI) (N : Nat) (g : Nat → Bool) (C : Nat → Nat → Int) : Prop := ∀ s, s < 2 ^ (whL g N).length → ∃ l, TV N g C s = some (I 84 s, l)
def lstT (N : Nat) (g : Nat → Bool) (C : Nat → Nat → Int) (s : Nat) : List Nat := ((TV N g C s).map Prod.snd).getD []
theorem TV_lst {N : Nat} {g : Nat → Bool} {C : Nat → Nat → Int} {s : Nat} {v : Int} (h : ∃ l, TV N g C s = some (v, l)) : TV N g C s = some (v, lstT N g C s) := by
  obtain ⟨l, e⟩ := h
  unfold lstT
  rw [e]
  rfl
theorem TV_pf {N : Nat} {g : Nat → Bool} {C : Nat → Nat → Int} {I : mI} {s w : Nat} (hN : N ≤ 6) (hC : ∀ k p, 0 ≤ C k p ∧ C k p ≤ 594) (hL : LU I N g C) (hs : s < 2 ^ (whL g N).length - 1) (hw : w < (whL g N).length) (h : ∃ l, TV N g C (sb s w) = some (I 84 (sb s w), l)) : -100000 ≤ pfN I s w ∧ pfN I s w ≤ 100000 := by
  have hm := whL_len g N
  have h64 : 2 ^ (whL g N).length ≤ 2 ^ 6 := Nat.pow_le_pow_right (by decide) (by omega)
  have hb := bc_m ⟨(whL g N).length, by omega⟩ ⟨s, by omega⟩ hs
  dsimp only at hb
  obtain ⟨l, e⟩ := h
  have b1 := (tree_bd hC _ _ _ e).1
  have b2 := hC (bcN s) ((whL g N).getD w 0)
  unfold pfN
  rw [hL.2 _ hb _ hw]
  omega
set_option maxHeartbeats 1000000 in
theorem x_lineUp {n d h N : Nat} {g : Nat → Bool} {C : Nat → Nat → Int} {I : mI} {L : mL} {c : Nat} {K : mK2} (ho : oOk n c h) (hr : h = 69 ∨ h = 76 ∨ 155 ≤ h) (oc : oC I h) (hP : cP I) (hN : N = (I 17 1).toNat) (hg : g = fun p => decide (p < N) && decide (perN I p 4 = 1)) (hC : C = fun (k p : Nat) => if p < N then paysS (offC I h) (perN I p) ((I 17 2 + (k : Int)) % 24) else 0)
    (k : ∀ I', eqx lLU I I' → LU I' N g C → TVall I' N g C → K (some (vi (((whL g N).length : Nat) : Int))) I' L c) : C2 n (d + 6) 9 [vr (some 80), vr (some 17), vr (some h)] I L c K := by
  obtain ⟨p1, p2, p3, p4⟩ := hP
  have hN6 : N ≤ 6 := by omega
  have hm := whL_len g N
  have hCb : ∀ k p, 0 ≤ C k p ∧ C k p ≤ 594 := by
    intro k p
    rw [hC]
    by_cases w : p < N
    · simp only [if_pos w]; exact pays_bd oc.1
    · simp only [if_neg w]; omega
  have hgN : ∀ p, N ≤ p → g p = false := fun p hp => by
    rw [hg]
    show (decide (p < N) && decide (perN I p 4 = 1)) = false
    rw [decide_eq_false (by omega)]
    rfl
  refine As_lineUp ?_
  have loop1 := loopN (N := N) (P := fun j => ∀ I1, eqx lLU I I1 → (∀ w, w < (whL g j).length → I1 85 w = (((whL g j).getD w 0 : Nat) : Int)) → W2 n (d + 6) 9 5 [some (vr (some 80)), some (vr (some 17)), some (vr (some h)), some (vi (((whL g j).length : Nat) : Int)), some (vi (j : Int)), none, none] [] I1 L c K) ?_ ?_ 0 (Nat.zero_le _)
  · exact loop1 I (eqx_rf _ _) (fun w hw => absurd hw (Nat.not_lt_zero _))
  · intro I1 x1 z1
    refine As_lineUp_5 ?_
    rw [chkE (show TY 17 = 7 from rfl), x1 17 1 rfl, if_neg (by omega)]
    generalize hmm : (whL g N).length = m at *
    have loop2 := loopN (N := m) (P := fun j => ∀ I2, eqx lLU I I2 → (∀ w, w < m → I2 85 w = (((whL g N).getD w 0 : Nat) : Int)) → (∀ k, k < j → ∀ w, w < m → I2 86 (6 * k + w) = C k ((whL g N).getD w 0)) → W2 n (d + 6) 9 54 [some (vr (some 80)), some (vr (some 17)), some (vr (some h)), some (vi (m : Int)), some (vi (j : Int)), none, none] [] I2 L c K) ?_ ?_ 0 (Nat.zero_le _)
    · exact loop2 I1 x1 z1 (fun k hk => absurd hk (Nat.not_lt_zero _))
    · intro I2 x2 z2 w2
      refine As_lineUp_54 ?_
      rw [if_neg (by omega)]
      obtain ⟨f1, f2⟩ := bc_full ⟨m, by omega⟩
      dsimp only at f1 f2
      have h64 : 2 ^ m ≤ 2 ^ 6 := Nat.pow_le_pow_right (by decide) (by omega)
      have hp := Nat.pow_pos (a := 2) (n := m) (by decide)
      rw [f2, Int.toNat_natCast]
      refine ⟨by omega, ?_⟩
      have loop4 := loopN (N := 2 ^ m - 1) (P := fun j => ∀ I3, eqx lLU I I3 → LU I3 N g C → (∀ s, 2 ^ m - 1 - j ≤ s → s < 2 ^ m → ∃ l, TV N g C s = some (I3 84 s, l)) → W2 n (d + 6) 9 145 [some (vr (some 80)), none, none, some (vi (m : Int)), none, some (vi (((2 ^ m - 1 : Nat) : Int) - 1 - (j : Int))), none] [] I3 L c K) ?_ ?_ 0 (Nat.zero_le _)
      · have e0 : wr (((2 ^ m - 1 : Nat) : Int) - 1) = ((2 ^ m - 1 : Nat) : Int) - 1 - ((0 : Nat) : Int) := by rw [wri (by omega)]; omega
        rw [e0]
        refine loop4 _ (eqx_up x2 rfl) ⟨?_, ?_⟩ ?_
        · intro w hw
          rw [up2_ne (by decide)]; exact z2 w (by omega)
        · intro k hk w hw
          rw [up2_ne (by decide)]; exact w2 k (by omega) w (by omega)
        · intro s h1 h2
          obtain rfl : s = 2 ^ m - 1 := by omega
          refine ⟨[], ?_⟩
          rw [up2_same]
          unfold TV
          rw [hmm, f1, Nat.sub_self]
          rfl
      · intro I3 x3 l3 t3
        refine As_lineUp_145 ?_
        rw [if_pos (by omega)]
        exact k I3 x3 l3 (fun s hs => t3 s (by omega) (by rw [hmm] at hs; exact hs))
      · intro j hj ih I3 x3 l3 t3
        have es : ((2 ^ m - 1 : Nat) : Int) - 1 - (j : Int) = ((2 ^ m - 2 - j : Nat) : Int) := by omega
        rw [es]
        have hs : 2 ^ m - 2 - j < 2 ^ m - 1 := by omega
        generalize hsd : 2 ^ m - 2 - j = s at *
        have ts : ∀ w, w < m → Nat.testBit s w = false → ∃ l, TV N g C (sb s w) = some (I3 84 (sb s w), l) := by
          intro w hw hb
          obtain ⟨_, _, q3⟩ := sb_all ⟨s, by omega⟩ ⟨w, by omega⟩
          have q4 := sb_m ⟨m, by omega⟩ ⟨s, by omega⟩ ⟨w, by omega⟩ (by dsimp only; omega) hw
          have q3 := q3 hb
          dsimp only at q3 q4
          exact t3 _ (by omega) q4
        refine As_lineUp_145 ?_
        rw [if_neg (by omega)]
        refine x_nextInLine (m := m) hs (by omega) (fun w hw hb => TV_pf hN6 hCb l3 (by rw [hmm]; exact hs) (by rw [hmm]; exact hw) (ts w hw hb)) ?_
        intro v i e1 e2 e3 e4
        rw [ri_vi]
        obtain ⟨_, _, q3⟩ := sb_all ⟨s, by omega⟩ ⟨i, by omega⟩
        have q3 := q3 e3
        dsimp only at q3
        refine x_paidFrom (by omega) (by omega) q3.2.2 (TV_pf hN6 hCb l3 (by rw [hmm]; exact hs) (by rw [hmm]; exact e2) (ts i e2 e3)) ?_
        rw [ri_vi, ← e4, Int.toNat_natCast]
        refine ⟨by omega, ?_⟩
        rw [show wr ((s : Int) + -1) = ((2 ^ m - 1 : Nat) : Int) - 1 - ((j + 1 : Nat) : Int) by rw [wri (by omega)]; omega]
        have l4 : LU (up2 I3 84 s v) N g C := ⟨fun w hw => by rw [up2_ne (by decide)]; exact l3.1 w hw, fun k hk w hw => by rw [up2_ne (by decide)]; exact l3.2 k hk w hw⟩
        refine ih _ (eqx_up x3 rfl) l4 ?_
        intro t h1 h2
        by_cases w : t = s
        · rw [w, up2_same]
          have st := TV_step (I := I3) hN6 hgN l3 (by rw [hmm]; exact hs) (fun w => lstT N g C (sb s w)) (fun w hw hb => TV_lst (ts w (by rw [hmm] at hw; exact hw) hb))
          rw [hmm, e1] at st
          exact ⟨_, st⟩
        · rw [up2_at w]
          exact t3 t (by omega) h2
    · intro j hj ih I2 x2 z2 w2
      refine As_lineUp_54 ?_
      rw [if_pos (by omega), chkE (show TY 17 = 7 from rfl), x2 17 2 rfl]
      have loop3 := loopN (N := m) (P := fun i => ∀ I3, eqx lLU I I3 → (∀ w, w < m → I3 85 w = (((whL g N).getD w 0 : Nat) : Int)) → (∀ k, k < j → ∀ w, w < m → I3 86 (6 * k + w) = C k ((whL g N).getD w 0)) → (∀ w, w < i → I3 86 (6 * j + w) = C j ((whL g N).getD w 0)) → W2 n (d + 6) 9 75 [some (vr (some 80)), some (vr (some 17)), some (vr (some h)), some (vi (m : Int)), some (vi (j : Int)), some (vi ((wr (I 17 2 + (j : Int))).tmod 24)), some (vi (i : Int))] [] I3 L c K) ?_ ?_ 0 (Nat.zero_le _)
      · exact loop3 I2 x2 z2 w2 (fun w hw => absurd hw (Nat.not_lt_zero _))
      · intro I3 x3 z3 w3 v3
        refine As_lineUp_75 ?_
        rw [if_neg (by omega), wr_nat (by omega)]
        refine ih I3 x3 z3 (fun k hk w hw => ?_)
        by_cases e : k = j
        · rw [e]; exact v3 w hw
        · exact w3 k (by omega) w hw
      · intro i hi ih3 I3 x3 z3 w3 v3
        have hmem : (whL g N).getD i 0 ∈ whL g N := getD_mem (by omega)
        have hlt := ((whL_mem g N _).mp hmem).1
        have zi := z3 i hi
        generalize hq : (whL g N).getD i 0 = p at *
        have pe : perC I3 (25 + 3 * p) = perC I (25 + 3 * p) := perN_n x3 rfl (by omega)
        have okp : okP (perC I3 (25 + 3 * p)) := by rw [pe]; exact (p3 p (by omega)).1
        have h24 : 0 ≤ (I 17 2 + (j : Int)) % 24 ∧ (I 17 2 + (j : Int)) % 24 < 24 := by omega
        have i6 : i < 6 := by omega
        have p6 : p < 6 := by omega
        have b36 : 0 ≤ ((6 * j + i : Nat) : Int) ∧ ((6 * j + i : Nat) : Int) < 36 := by omega
        have bp : 0 ≤ ((p : Nat) : Int) ∧ ((p : Nat) : Int) < ((6 : Nat) : Int) := by omega
        have bi : 0 ≤ ((i : Nat) : Int) ∧ ((i : Nat) : Int) < 6 := by omega
        have im : (i : Int) < (m : Int) := by omega
        have hh : (wr (I 17 2 + (j : Int))).tmod 24 = (I 17 2 + (j : Int)) % 24 := by rw [wri (by omega), tmod_nn (by omega)]
        have e1 : wr (wr ((j : Int) * 6) + (i : Int)) = ((6 * j + i : Nat) : Int) := by rw [wri (x := (j : Int) * 6) (by omega), wri (by omega)]; omega
        rw [hh] at ih3 ⊢
        have cp : C j p = paysS (offC I h) (perC I (25 + 3 * p)) ((I 17 2 + (j : Int)) % 24) := by rw [hC]; exact if_pos hlt
        refine As_lineUp_75 ?_
        rw [if_pos im, chkE (show TY 17 = 7 from rfl), show Rs c 17 0 = some 18 from rfl, drf_s, Int.toNat_natCast, zi, Int.toNat_natCast, Rs18 (p := p) p6, chkE ho.1, e1, Int.toNat_natCast, wr_nat (show i < 1000000 from Nat.lt_trans i6 (by decide))]
        clear e1 hh
        refine ⟨bi, chk_i rfl ⟨bp, ?_⟩⟩
        refine x_pays ho (pOk_now p6) (oC_s x3 rfl hr oc) okp h24 ?_
        rw [ri_vi, pe, off_s x3 rfl hr, ← cp]
        refine ⟨b36, ?_⟩
        clear cp b36
        refine ih3 _ (eqx_up x3 rfl) ?_ ?_ ?_
        · intro w hw; rw [up2_ne (by decide)]; exact z3 w hw
        · intro k hk w hw
          rw [up2_at (by omega)]; exact w3 k hk w hw
        · intro w hw
          by_cases e : w = i
          · rw [e, up2_same, hq]
          · rw [up2_at (by omega)]; exact v3 w (by omega)
  · intro j hj ih I1 x1 z1
    have wj := whL_len g j
    have po := pOk_now (n := n) (c := c) (show j < 6 by omega)
    have g4 := p4 j (by omega)
    refine As_lineUp_5 ?_
    rw [chkE (show TY 17 = 7 from rfl), x1 17 1 rfl, if_pos (by omega), if_pos (by omega), chkE (show TY 17 = 7 from rfl), show Rs c 17 0 = some 18 from rfl, drf_s]
    refine chk_i rfl ⟨by rw [show LN n 18 = 6 from rfl]; omega, ?_⟩
    rw [Int.toNat_natCast, Rs18 (by omega), drf_s, chkE po.1, Int.toNat_natCast, cell_n x1 (a := 25 + 3 * j) (by omega) (by simp; omega)]
    have gj : g j = decide (perN I j 4 = 1) := by
      rw [hg]
      show (decide (j < N) && decide (perN I j 4 = 1)) = _
      rw [decide_eq_true hj]
      rfl
    have p4e : perN I j 4 = I (25 + 3 * j) 4 := rfl
    by_cases w : I (25 + 3 * j) 4 = 0
    · have gf : ¬ g j = true := by rw [gj, decide_eq_true_eq, p4e]; omega
      rw [if_pos w, wr_nat (show (whL g j).length < 1000000 by omega), wr_nat (show j < 1000000 by omega)]
      rw [whL_f gf, List.length_append, List.length_singleton] at ih
      refine ⟨by omega, ih _ (eqx_up x1 rfl) ?_⟩
      intro v hv
      by_cases e : v = (whL g j).length
      · rw [e, up2_same, List.getD_eq_getElem?_getD, List.getElem?_append_right (Nat.le_refl _), Nat.sub_self]
        rfl
      · rw [up2_at e, List.getD_eq_getElem?_getD, List.getElem?_append_left (by omega), ← List.getD_eq_getElem?_getD]
        exact z1 v (by omega)
    · have gt : g j = true := by rw [gj, decide_eq_true_eq, p4e]; omega
      rw [if_neg w, wr_nat (show j < 1000000 by omega)]
      rw [whL_t gt] at ih
      exact ih I1 x1 z1
theorem getD_drop {l : List Nat} {j x : Nat} {r : List Nat} (h : l.drop j = x :: r) : l.getD j 0 = x ∧ l.drop (j + 1) = r := by
  have h1 : (l.drop j)[0]? = some x := by rw [h]; rfl
  rw [List.getElem?_drop, Nat.add_zero] at h1
  refine ⟨by rw [List.getD_eq_getElem?_getD, h1]; rfl, ?_⟩
  rw [← List.drop_drop, h]
  rfl
theorem x_inLine {n d N : Nat} {k : Int} {g : Nat → Bool} {C : Nat → Nat → Int} {l : List Nat} {I : mI} {L : mL} {c : Nat} {K : mK2} (hN6 : N ≤ 6) (hCb : ∀ k p, 0 ≤ C k p ∧ C k p ≤ 594) (hgN : ∀ p, N ≤ p → g p = false) (hL : LU I N g C) (hT : TVall I N g C) (hl : ∃ v, TV N g C 0 = some (v, l)) (hk : 0 ≤ k)
    (kk : K (some (vi (if k < ((whL g N).length : Int) then ((l.getD k.toNat 0 : Nat) : Int) else -5))) I L c) : C2 n (d + 3) 12 [vr (some 80), vi k, vi (((whL g N).length : Nat) : Int)] I L c K := by
  have hm := whL_len g N
  have h64 : 2 ^ (whL g N).length ≤ 2 ^ 6 := Nat.pow_le_pow_right (by decide) (by omega)
  have hp := Nat.pow_pos (a := 2) (n := (whL g N).length) (by decide)
  refine As_inLine ?_
  have loop := loopN (N := (whL g N).length) (P := fun j => ∀ s, s < 2 ^ (whL g N).length → bcN s = j → (∃ v, TV N g C s = some (v, l.drop j)) → ¬ (0 ≤ k ∧ k < (j : Int)) → W2 n (d + 3) 12 5 [some (vr (some 80)), some (vi k), some (vi (((whL g N).length : Nat) : Int)), some (vi (s : Int)), some (vi (j : Int)), none] [] I L c K) ?_ ?_ 0 (Nat.zero_le _)
  · exact loop 0 hp rfl (by rw [List.drop_zero]; exact hl) (by omega)
  · intro s hs hb ht hj
    refine As_inLine_5 ?_
    rw [if_neg (by omega)]
    rw [if_neg (by omega)] at kk
    exact kk
  · intro j hj ih s hs hb ht hjk
    have hs1 : s < 2 ^ (whL g N).length - 1 := by
      have := (bc_full ⟨(whL g N).length, by omega⟩).1
      dsimp only at this
      by_cases w : s = 2 ^ (whL g N).length - 1
      · rw [w, this] at hb; omega
      · omega
    have ts : ∀ w, w < (whL g N).length → Nat.testBit s w = false → ∃ l, TV N g C (sb s w) = some (I 84 (sb s w), l) := by
      intro w hw hb2
      have q4 := sb_m ⟨(whL g N).length, by omega⟩ ⟨s, by omega⟩ ⟨w, by omega⟩ hs hw
      exact hT _ q4
    refine As_inLine_5 ?_
    rw [if_pos (by omega)]
    refine x_nextInLine hs1 (by omega) (fun w hw hb2 => TV_pf hN6 hCb hL hs1 hw (ts w hw hb2)) ?_
    intro v i e1 e2 e3 e4
    have st := TV_step (I := I) hN6 hgN hL hs1 (fun w => lstT N g C (sb s w)) (fun w hw hb2 => TV_lst (ts w hw hb2))
    rw [e1] at st
    obtain ⟨v0, hv0⟩ := ht
    rw [hv0] at st
    have st2 : l.drop j = (whL g N).getD i 0 :: lstT N g C (sb s i) := congrArg Prod.snd (Option.some.inj st)
    obtain ⟨g1, g2⟩ := getD_drop st2
    rw [ri_vi, Int.toNat_natCast]
    by_cases w : (j : Int) = k
    · rw [if_pos w, hL.1 i e2]
      rw [if_pos (by omega), ← w, Int.toNat_natCast, g1] at kk
      exact ⟨by omega, kk⟩
    · rw [if_neg w]
      obtain ⟨q1, q2, q3⟩ := sb_all ⟨s, by omega⟩ ⟨i, by omega⟩
      have q3 := q3 e3
      have q4 := sb_m ⟨(whL g N).length, by omega⟩ ⟨s, by omega⟩ ⟨i, by omega⟩ hs e2
      dsimp only at q1 q2 q3 q4
      rw [q1, wr_nat (by omega)]
      refine ih (sb s i) q4 (by omega) ⟨I 84 (sb s i), ?_⟩ (by omega)
      rw [g2]
      exact TV_lst (ts i e2 e3)
