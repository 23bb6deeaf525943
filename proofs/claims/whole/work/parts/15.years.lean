/-! ===== the reference: a new person, bytes, years ===== -/
theorem c_person {n d : Nat} {p t x : Int} {I : mI} {L : mL} {c : Nat} {K : mK2} (hI : pI I)
    (k1 : ¬ (0 ≤ p ∧ p ≤ 6) → K (some (vi (-1))) I L c)
    (k2 : 0 ≤ p ∧ p ≤ 6 → ¬ ((0 ≤ t ∧ t ≤ 9) ∧ 0 ≤ x ∧ x ≤ 99) → K (some (vi (-2))) I L c)
    (k4 : 0 ≤ p ∧ p ≤ 6 → (0 ≤ t ∧ t ≤ 9) ∧ 0 ≤ x ∧ x ≤ 99 → I 104 0 = 6 → K (some (vi (-4))) I L c)
    (k3 : 0 ≤ p ∧ p ≤ 6 → (0 ≤ t ∧ t ≤ 9) ∧ 0 ≤ x ∧ x ≤ 99 → I 104 0 < 6 → ∀ I', eqx [105, 106, 107, 108, 109, 1000, 1001] I I' → pI I' → perM I' = updP (perM I) (nM I) (newP (nM I : Int) p t x) → I' 104 0 = I 104 0 + 1 → K (some (vi (I 104 0))) I' L c) : C2 n (d + 1) 123 [vr (some 104), vi p, vi t, vi x] I L c K := by
  have hn := hI.1
  refine m_person ?_
  by_cases q : 0 ≤ p ∧ p ≤ 6
  · rw [if_neg (by omega), if_neg (by omega)]
    by_cases r : (0 ≤ t ∧ t ≤ 9) ∧ 0 ≤ x ∧ x ≤ 99
    · rw [if_neg (by omega), if_neg (by omega), if_neg (by omega), if_neg (by omega)]
      by_cases s : I 104 0 = 6
      · rw [if_pos s]; exact k4 q r s
      · rw [if_neg s]
        have e0 : I 104 0 = ((nM I : Nat) : Int) := by unfold nM; omega
        have hm : nM I < 6 := by omega
        simp (disch := omega) only [up2_ne]
        simp only [e0, Int.toNat_natCast]
        refine ⟨by omega, by omega, by omega, ?_⟩
        obtain ⟨a, b⟩ := clr_all hI.2.1 hm
        have kk := fun I' (h : eqx [105, 106, 107, 108, 109, 1000, 1001] I I') (h2 : pI I') (h3 : I' 104 0 = I 104 0 + 1) (h4 : perM I' = _) => k3 q r (by omega) I' h h2 h4 h3
        generalize hm' : nM I = m at *
        have start : ∀ I1 : mI, I1 = up2 (up2 (up2 (up2 I 105 m p) 106 m t) 107 m x) 104 1 (band (I 104 1) (bxor (bshl 1 (m : Int)) (-1))) → W2 n (d + 1) 123 100 [some (vr (some 104)), none, some (vi t), none, some (vi 0)] [] I1 L c K := by
          intro I1 h1
          have x1 : eqx [105, 106, 107, 1001] I I1 := by
            rw [h1]
            exact eqx_up (eqx_up (eqx_up (eqx_up (eqx_rf _ _) rfl) rfl) rfl) rfl
          have y1 : pI I1 := by
            rw [h1]
            refine pI_up (pI_up (pI_up (pI_up hI ?_ ?_ ?_ ?_ ?_ ?_) ?_ ?_ ?_ ?_ ?_ ?_) ?_ ?_ ?_ ?_ ?_ ?_) ?_ ?_ ?_ ?_ ?_ ?_
            all_goals first | omega | (intro _; omega) | exact fun _ => ⟨by omega, fun _ => a, by omega⟩
          have z1 : perM I1 = updP (perM I) m (setP (setP (setP (setP (perM I m) 1 p) 2 t) 3 x) 4 0) := by
            have hb := per_gone (up2 (up2 (up2 I 105 m p) 106 m t) 107 m x) m (band (I 104 1) (bxor (bshl 1 (m : Int)) (-1))) false b
            rw [h1, hb, per_107, per_106, per_105]
            funext j i
            unfold updP
            by_cases hj : j = m
            · simp only [if_pos hj, if_pos]; rfl
            · simp only [if_neg hj]
          clear h1 b a
          have loop1 := loopN (N := 6) (P := fun j => ∀ I2, eqx [105, 106, 107, 108, 1001] I I2 → pI I2 → (∀ i, perM I2 m i = if 5 ≤ i ∧ i < 5 + j then t else setP (setP (setP (setP (perM I m) 1 p) 2 t) 3 x) 4 0 i) → (∀ p, p ≠ m → perM I2 p = perM I p) → W2 n (d + 1) 123 100 [some (vr (some 104)), none, some (vi t), none, some (vi (j : Int))] [] I2 L c K) ?_ ?_ 0 (Nat.zero_le _)
          · refine loop1 I1 (eqx_wk rfl x1) y1 ?_ ?_
            · intro i
              rw [z1, if_neg (by omega)]
              unfold updP
              rw [if_pos rfl]
            · intro j hj
              rw [z1]
              unfold updP
              rw [if_neg hj]
          · intro I2 x2 y2 z2 w2
            refine m_person_100 ?_
            rw [if_neg (by omega)]
            have loop2 := loopN (N := 4) (P := fun j => ∀ I3, eqx [105, 106, 107, 108, 109, 1001] I I3 → pI I3 → (∀ i, perM I3 m i = if 11 ≤ i ∧ i < 11 + j then 0 else perM I2 m i) → (∀ p, p ≠ m → perM I3 p = perM I p) → W2 n (d + 1) 123 132 [some (vr (some 104)), none, none, none, some (vi (j : Int))] [] I3 L c K) ?_ ?_ 0 (Nat.zero_le _)
            · refine loop2 I2 (eqx_wk rfl x2) y2 ?_ w2
              intro i
              rw [if_neg (by omega)]
            · intro I3 x3 y3 z3 w3
              refine m_person_132 ?_
              rw [if_neg (by omega), up2_same, x3 104 0 rfl, e0, wri (x := (m : Int) + 1) (by omega), wri (by omega), show (m : Int) + 1 - 1 = m by omega]
              rw [e0] at kk
              refine kk (up2 I3 104 0 ((m : Int) + 1)) (eqx_up (eqx_wk rfl x3) rfl) (pI_up y3 (by omega) (by omega) (by omega) (by omega) (by omega) (fun _ => ⟨fun _ => by omega, by omega, by omega⟩)) up2_same ?_
              rw [show perM (up2 I3 104 0 ((m : Int) + 1)) = perM I3 from funext fun j => perM_e (l := [1000]) (eqx_up (eqx_rf _ _) rfl) rfl j]
              funext j i
              unfold updP
              by_cases hj : j = m
              · rw [if_pos hj, hj, z3, z2]
                rcases i with _ | _ | _ | _ | _ | i
                · rfl
                · rfl
                · rfl
                · rfl
                · rfl
                · show _ = if i < 6 then t else 0
                  by_cases r1 : i < 6
                  · rw [if_pos r1, if_neg (by omega), if_pos (by omega)]
                  · rw [if_neg r1]
                    by_cases r2 : i < 10
                    · rw [if_pos (by omega)]
                    · rw [if_neg (by omega), if_neg (by omega)]
                      show (if i < 6 then _ else if i < 10 then _ else _) = (0 : Int)
                      rw [if_neg r1, if_neg r2]
              · rw [if_neg hj, w3 j hj]
            · intro j hj ih I3 x3 y3 z3 w3
              refine m_person_132 ?_
              have e1 : wr (wr (4 * (m : Int)) + (j : Int)) = ((4 * m + j : Nat) : Int) := by rw [wri (x := 4 * (m : Int)) (by omega), wri (by omega)]; omega
              rw [if_pos (by omega), x3 104 0 rfl, e0, e1, wr_nat (by omega), Int.toNat_natCast]
              refine ⟨by omega, ?_⟩
              have u := per_109 I3 m j 0 hj
              refine ih _ (eqx_up x3 rfl) (pI_up y3 (by omega) (by omega) (by omega) (by omega) (fun _ => by omega) (by omega)) ?_ ?_
              · intro i
                rw [u]
                unfold updP setP
                rw [if_pos rfl]
                by_cases r1 : i = 11 + j
                · rw [if_pos r1, if_pos (by omega)]
                · rw [if_neg r1, z3]
                  by_cases r2 : 11 ≤ i ∧ i < 11 + j
                  · rw [if_pos r2, if_pos (by omega)]
                  · rw [if_neg r2, if_neg (by omega)]
              · intro q hq
                rw [u]
                unfold updP
                rw [if_neg hq, w3 q hq]
          · intro j hj ih I2 x2 y2 z2 w2
            refine m_person_100 ?_
            have e1 : wr (wr (6 * (m : Int)) + (j : Int)) = ((6 * m + j : Nat) : Int) := by rw [wri (x := 6 * (m : Int)) (by omega), wri (by omega)]; omega
            rw [if_pos (by omega), x2 104 0 rfl, e0, e1, wr_nat (by omega), Int.toNat_natCast]
            refine ⟨by omega, ?_⟩
            have u := per_108 I2 m j t hj
            refine ih _ (eqx_up x2 rfl) (pI_up y2 (by omega) (by omega) (by omega) (fun _ => by omega) (by omega) (by omega)) ?_ ?_
            · intro i
              rw [u]
              unfold updP setP
              rw [if_pos rfl]
              by_cases r1 : i = 5 + j
              · rw [if_pos r1, if_pos (by omega)]
              · rw [if_neg r1, z2]
                by_cases r2 : 5 ≤ i ∧ i < 5 + j
                · rw [if_pos r2, if_pos (by omega)]
                · rw [if_neg r2, if_neg (by omega)]
                  rfl
            · intro q hq
              rw [u]
              unfold updP
              rw [if_neg hq, w2 q hq]
        exact start _ rfl
    · have kk := k2 q r
      repeat' (first | exact kk | (exfalso; omega) | refine ite_i (fun _ => ?_) (fun _ => ?_))
  · have kk := k1 q
    repeat' (first | exact kk | (exfalso; omega) | refine ite_i (fun _ => ?_) (fun _ => ?_))
theorem c_feed {n d : Nat} {p : Int} {I : mI} {L : mL} {c : Nat} {K : mK2} (hf : 0 ≤ I 104 11 ∧ I 104 11 ≤ 100)
    (k1 : ¬ (0 ≤ p ∧ p ≤ 127) → K (some (vi (-2))) I L c)
    (k2 : 0 ≤ p ∧ p ≤ 127 → I 104 11 = 100 → K (some (vi (-4))) I L c)
    (k3 : 0 ≤ p ∧ p ≤ 127 → I 104 11 < 100 → K (some (vi (I 104 11 + 1))) (up2 (up2 I 110 (I 104 11).toNat p) 104 11 (I 104 11 + 1)) L c) : C2 n (d + 1) 129 [vr (some 104), vi p] I L c K := by
  refine m_feed ?_
  by_cases q : 0 ≤ p ∧ p ≤ 127
  · rw [if_neg (by omega), if_neg (by omega)]
    by_cases s : I 104 11 = 100
    · rw [if_pos s]; exact k2 q s
    · rw [if_neg s]
      refine ⟨by omega, ?_⟩
      rw [up2_same, up2_ne (by decide), wri (by omega)]
      exact k3 q (by omega)
  · have kk := k1 q
    repeat' (first | exact kk | (exfalso; omega) | refine ite_i (fun _ => ?_) (fun _ => ?_))
/-- behind the last place nothing changes -/
def outI (I I' : mI) : Prop := (∀ k, 6 ≤ k → I' 107 k = I 107 k) ∧ (∀ k, 36 ≤ k → I' 108 k = I 108 k)
theorem out_tr {I I' I'' : mI} (h1 : outI I I') (h2 : outI I' I'') : outI I I'' := ⟨fun k hk => (h2.1 k hk).trans (h1.1 k hk), fun k hk => (h2.2 k hk).trans (h1.2 k hk)⟩
theorem out_e {l : List Nat} {I I' : mI} (e : eqx l I I') (h7 : elm l 107 = false) (h8 : elm l 108 = false) : outI I I' := ⟨fun k _ => by rw [cell_e e rfl h7], fun k _ => by rw [cell_e e rfl h8]⟩
def allY (n : Nat) (y : Nat) (Ps : Nat → mP) : Nat → mP := fun p => if p < n then ageS (Ps p) y else Ps p
theorem c_goYear {n d : Nat} {I : mI} {L : mL} {c : Nat} {K : mK2} (hI : pI I) (hy : 0 ≤ I 104 3 ∧ I 104 3 < 100000)
    (k : ∀ I', eqx [107, 108, 1003] I I' → outI I I' → pI I' → perM I' = allY (nM I) 1 (perM I) → I' 104 3 = I 104 3 + 1 → K none I' L c) : C2 n d 164 [vr (some 104)] I L c K := by
  have hn := hI.1
  have e0 : I 104 0 = ((nM I : Nat) : Int) := by unfold nM; omega
  have hm : nM I ≤ 6 := by omega
  refine m_goYear ?_
  have loop := loopN (N := nM I) (P := fun j => ∀ I1, eqx [107, 108] I I1 → outI I I1 → pI I1 → perM I1 = allY j 1 (perM I) → W2 n d 164 2 [some (vr (some 104)), some (vi (j : Int))] [] I1 L c K) ?_ ?_ 0 (Nat.zero_le _)
  · exact loop I (eqx_rf _ _) ⟨fun _ _ => rfl, fun _ _ => rfl⟩ hI (funext fun p => by unfold allY; rw [if_neg (by omega)])
  · intro I1 x1 o1 y1 z1
    refine m_goYear_2 ?_
    rw [x1 104 0 rfl, if_neg (by omega), x1 104 3 rfl, wri (by omega)]
    have xx : eqx [1003] I1 (up2 I1 104 3 (I 104 3 + 1)) := eqx_up (eqx_rf _ _) rfl
    exact k _ (eqx_up (eqx_wk rfl x1) rfl) (out_tr o1 (out_e xx rfl rfl)) (pI_e xx rfl y1) (by rw [← z1]; exact funext fun j => perM_e xx rfl j) up2_same
  · intro j hj ih I1 x1 o1 y1 z1
    refine m_goYear_2 ?_
    rw [x1 104 0 rfl, if_pos (by omega)]
    obtain ⟨b1, b2, b3⟩ := y1.2.2.2.1 j (by omega)
    have e1 : wr (wr (6 * (j : Int)) + (I1 106 j).tmod 6) = ((6 * j + (I1 106 j % 6).toNat : Nat) : Int) := by rw [tmod_nn b2.1, wri (x := 6 * (j : Int)) (by omega), wri (by omega)]; omega
    have q7 : perM I1 j = perM I j := by rw [z1]; unfold allY; rw [if_neg (by omega)]
    have nx : ∀ I2, perM I2 = updP (perM I1) j (yearS (perM I1 j)) → perM I2 = allY (j + 1) 1 (perM I) := by
      intro I2 h
      rw [h, q7, z1]
      funext p
      unfold updP allY
      by_cases r : p = j
      · rw [if_pos r, if_pos (by omega), r]; rfl
      · rw [if_neg r]
        by_cases s : p < j
        · rw [if_pos s, if_pos (by omega)]
        · rw [if_neg s, if_neg (by omega)]
    have e3 : perM I1 j 3 = I1 107 j := rfl
    have e2 : perM I1 j 2 = I1 106 j := rfl
    simp only [Int.toNat_natCast, up2_same, up2_ne (show 106 ≠ 107 by decide), e1, wr_nat (show j < 1000000 by omega)]
    rw [wri (x := I1 107 j + 1) (by omega)]
    refine ⟨by omega, ?_⟩
    by_cases r : I1 107 j = 99
    · rw [if_pos r]
      refine ih I1 x1 o1 y1 (nx _ ?_)
      unfold yearS
      rw [e3, if_pos r]
      funext p
      unfold updP
      by_cases s : p = j
      · rw [if_pos s, s]
      · rw [if_neg s]
    · rw [if_neg r]
      refine ⟨by omega, by omega, by omega, ?_⟩
      have y2 : pI (up2 I1 107 j (I1 107 j + 1)) := pI_up y1 (by omega) (by omega) (fun _ => by omega) (by omega) (by omega) (by omega)
      have o2 : outI I (up2 I1 107 j (I1 107 j + 1)) := ⟨fun k hk => by rw [up2_at (by omega)]; exact o1.1 k hk, fun k hk => by rw [up2_ne (by decide)]; exact o1.2 k hk⟩
      by_cases s : I1 107 j + 1 = 40
      · rw [if_pos s]
        refine ⟨by omega, by omega, ?_⟩
        refine ih _ (eqx_up (eqx_up x1 rfl) rfl) ⟨fun k hk => by rw [up2_ne (by decide)]; exact o2.1 k hk, fun k hk => by rw [up2_at (by omega)]; exact o2.2 k hk⟩ (pI_up y2 (by omega) (by omega) (by omega) (fun _ => by omega) (by omega) (by omega)) (nx _ ?_)
        rw [per_108 _ j _ 0 (by omega), per_107]
        unfold yearS
        rw [e3, e2, if_neg r, if_pos s]
        funext p
        unfold updP
        by_cases s : p = j
        · rw [if_pos s, if_pos rfl, if_pos s]
        · rw [if_neg s, if_neg s, if_neg s]
      · rw [if_neg s]
        refine ih _ (eqx_up x1 rfl) o2 y2 (nx _ ?_)
        rw [per_107]
        unfold yearS
        rw [e3, if_neg r, if_neg s]
theorem allY_0 (n : Nat) (Ps : Nat → mP) : allY n 0 Ps = Ps := funext fun p => by
  unfold allY
  split <;> rfl
theorem allY_1 (n y : Nat) (Ps : Nat → mP) : allY n 1 (allY n y Ps) = allY n (y + 1) Ps := funext fun p => by
  unfold allY
  by_cases h : p < n
  · simp only [if_pos h]; rfl
  · simp only [if_neg h]
theorem c_goYears {n d : Nat} {m : Nat} {I : mI} {L : mL} {c : Nat} {K : mK2} (hI : pI I) (hy : 0 ≤ I 104 3 ∧ I 104 3 < 50000) (hm : m ≤ 1000)
    (k : ∀ I', eqx [107, 108, 1003] I I' → outI I I' → pI I' → perM I' = allY (nM I) m (perM I) → I' 104 3 = I 104 3 + m → K none I' L c) : C2 n (d + 1) 165 [vr (some 104), vi (m : Int)] I L c K := by
  refine m_goYears ?_
  have loop := loopN (N := m) (P := fun j => ∀ I1, eqx [107, 108, 1003] I I1 → outI I I1 → pI I1 → perM I1 = allY (nM I) j (perM I) → I1 104 3 = I 104 3 + j → W2 n (d + 1) 165 2 [some (vr (some 104)), some (vi (m : Int)), some (vi (j : Int))] [] I1 L c K) ?_ ?_ 0 (Nat.zero_le _)
  · exact loop I (eqx_rf _ _) ⟨fun _ _ => rfl, fun _ _ => rfl⟩ hI (allY_0 _ _).symm (by omega)
  · intro I1 x1 o1 y1 z1 w1
    refine m_goYears_2 ?_
    rw [if_neg (by omega)]
    exact k I1 x1 o1 y1 z1 w1
  · intro j hj ih I1 x1 o1 y1 z1 w1
    refine m_goYears_2 ?_
    rw [if_pos (by omega)]
    refine c_goYear y1 (by omega) ?_
    intro I2 x2 o2 y2 z2 w2
    rw [rv_no, wr_nat (by omega)]
    refine ih I2 (eqx_tr x1 x2) (out_tr o1 o2) y2 ?_ (by omega)
    rw [z2, z1, show nM I1 = nM I by unfold nM; rw [x1 104 0 rfl], allY_1]
theorem c_pass {n d : Nat} {p : Int} {I : mI} {L : mL} {c : Nat} {K : mK2} (hI : pI I) (hy : 0 ≤ I 104 3 ∧ I 104 3 ≤ 9999)
    (k1 : ¬ (0 ≤ p ∧ p ≤ 60) → K (some (vi (-2))) I L c)
    (k2 : 0 ≤ p ∧ p ≤ 60 → 9999 < I 104 3 + p → K (some (vi (-3))) I L c)
    (k3 : 0 ≤ p ∧ p ≤ 60 → I 104 3 + p ≤ 9999 → ∀ I', eqx [107, 108, 1003] I I' → pI I' → perM I' = allY (nM I) p.toNat (perM I) → I' 104 3 = I 104 3 + p → K (some (vi (I 104 3 + p))) I' L c) : C2 n (d + 2) 166 [vr (some 104), vi p] I L c K := by
  refine m_pass ?_
  by_cases q : 0 ≤ p ∧ p ≤ 60
  · rw [if_neg (by omega), if_neg (by omega), wri (by omega)]
    by_cases s : 9999 < I 104 3 + p
    · rw [if_pos s]; exact k2 q s
    · rw [if_neg s]
      obtain ⟨m, rfl⟩ : ∃ m : Nat, p = m := ⟨p.toNat, by omega⟩
      refine c_goYears hI (by omega) (by omega) ?_
      intro I1 x1 o1 y1 z1 w1
      rw [rv_no, w1]
      refine k3 q (by omega) I1 x1 y1 ?_ w1
      rw [Int.toNat_natCast]; exact z1
  · have kk := k1 q
    repeat' (first | exact kk | (exfalso; omega) | refine ite_i (fun _ => ?_) (fun _ => ?_))
