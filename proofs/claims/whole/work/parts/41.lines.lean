/-! ===== a line: the reference, all orders ===== -/
abbrev gM (I : mI) : Nat → Bool := fun p => decide (p < nM I) && gonM I p
abbrev cM (I : mI) : Nat → Nat → Int := fun (k p : Nat) => if p < nM I then paysS (offM I) (perM I p) ((I 104 2 + (k : Int)) % 24) else 0
abbrev lLC : List Nat := [119, 122, 1036]
theorem c_layCosts {n d : Nat} {I : mI} {L : mL} {c : Nat} {K : mK2} (ho : rI I) (k : ∀ I', eqx lLC I I' → I' 104 36 = (((whL (gM I) (nM I)).length : Nat) : Int) → (∀ k, k < (whL (gM I) (nM I)).length → ∀ p, p < nM I → I' 122 (6 * k + p) = cM I k p) → K none I' L c) : C2 n (d + 9) 175 [vr (some 104)] I L c K := by
  have hn := ho.2.1
  have e0 : I 104 0 = ((nM I : Nat) : Int) := by unfold nM; omega
  have n6 : nM I ≤ 6 := by omega
  have hm := whL_len (gM I) (nM I)
  have hh := ho.2.2.2.1
  refine m_layCosts ?_
  have loop1 := loopN (N := nM I) (P := fun j => ∀ I1, eqx lLC I I1 → I1 104 36 = (((whL (gM I) j).length : Nat) : Int) → W2 n (d + 9) 175 7 [some (vr (some 104)), some (vi (j : Int)), none] [] I1 L c K) ?_ ?_ 0 (Nat.zero_le _)
  · exact loop1 _ (eqx_up (eqx_rf _ _) rfl) up2_same
  · intro I1 x1 z1
    refine m_layCosts_7 ?_
    rw [x1 104 0 rfl, if_neg (by omega)]
    generalize hmm : (whL (gM I) (nM I)).length = m at *
    have loop2 := loopN (N := m) (P := fun j => ∀ I2, eqx lLC I I2 → I2 104 36 = (m : Int) → (∀ k, k < j → ∀ p, p < nM I → I2 122 (6 * k + p) = cM I k p) → W2 n (d + 9) 175 49 [some (vr (some 104)), some (vi (j : Int)), none] [] I2 L c K) ?_ ?_ 0 (Nat.zero_le _)
    · exact loop2 I1 x1 z1 (fun k hk => absurd hk (Nat.not_lt_zero _))
    · intro I2 x2 z2 w2
      refine m_layCosts_49 ?_
      rw [if_neg (by omega)]
      exact k I2 x2 z2 w2
    · intro j hj ih I2 x2 z2 w2
      refine m_layCosts_49 ?_
      rw [if_pos (by omega)]
      have loop3 := loopN (N := nM I) (P := fun i => ∀ I3, eqx lLC I I3 → I3 104 36 = (m : Int) → (∀ k, k < j → ∀ p, p < nM I → I3 122 (6 * k + p) = cM I k p) → (∀ p, p < i → I3 122 (6 * j + p) = cM I j p) → W2 n (d + 9) 175 59 [some (vr (some 104)), some (vi (j : Int)), some (vi (i : Int))] [] I3 L c K) ?_ ?_ 0 (Nat.zero_le _)
      · exact loop3 I2 x2 z2 w2 (fun p hp => absurd hp (Nat.not_lt_zero _))
      · intro I3 x3 z3 w3 v3
        refine m_layCosts_59 ?_
        rw [x3 104 0 rfl, if_neg (by omega), wr_nat (by omega)]
        refine ih I3 x3 z3 (fun k hk p hp => ?_)
        by_cases e : k = j
        · rw [e]; exact v3 p hp
        · exact w3 k (by omega) p hp
      · intro i hi ih3 I3 x3 z3 w3 v3
        have h24 : 0 ≤ (I 104 2 + (j : Int)) % 24 ∧ (I 104 2 + (j : Int)) % 24 < 24 := by omega
        have b36 : 0 ≤ ((6 * j + i : Nat) : Int) ∧ ((6 * j + i : Nat) : Int) < 36 := by omega
        have i6 : i < 6 := by omega
        have im : (i : Int) < I 104 0 := by omega
        have e1 : wr (wr (6 * (j : Int)) + (i : Int)) = ((6 * j + i : Nat) : Int) := by rw [wri (x := 6 * (j : Int)) (by omega), wri (by omega)]; omega
        have e2 : (wr (I 104 2 + (j : Int))).tmod 24 = (I 104 2 + (j : Int)) % 24 := by rw [wri (by omega), tmod_nn (by omega)]
        have cp : cM I j i = paysS (offM I) (perM I i) ((I 104 2 + (j : Int)) % 24) := if_pos hi
        refine m_layCosts_59 ?_
        rw [x3 104 0 rfl, if_pos im, x3 104 2 rfl, e2]
        refine c_paysAt (rI_e x3 rfl rfl ho) i6 h24 ?_
        intro I4 x4
        have x5 : eqx lLC I I4 := eqx_tr x3 (eqx_wk rfl x4)
        rw [ri_vi, offM_e x3 rfl, perM_e x3 rfl, ← cp, e1, Int.toNat_natCast, wr_nat (show i < 1000000 from Nat.lt_trans i6 (by decide))]
        clear cp e1 e2
        refine ⟨b36, ih3 _ (eqx_up x5 rfl) ?_ ?_ ?_⟩
        · rw [up2_ne (by decide), x4 104 36 rfl]; exact z3
        · intro k hk p hp
          rw [up2_at (by omega), x4 122 _ rfl]; exact w3 k hk p hp
        · intro p hp
          by_cases e : p = i
          · rw [e, up2_same]
          · rw [up2_at (by omega), x4 122 _ rfl]; exact v3 p (by omega)
  · intro j hj ih I1 x1 z1
    have hl := whL_len (gM I) j
    refine m_layCosts_7 ?_
    rw [x1 104 0 rfl, if_pos (by omega), x1 104 1 rfl]
    refine c_has ho.2.2.1 (by omega) ?_
    rw [ri_vi, z1, wr_nat (show j < 1000000 by omega)]
    have gj : gM I j = Nat.testBit (I 104 1).toNat j := by
      show (decide (j < nM I) && gonM I j) = _
      rw [decide_eq_true hj]
      rfl
    by_cases w : Nat.testBit (I 104 1).toNat j = true
    · rw [if_pos w, if_neg (by decide), wri (by omega), Int.add_zero]
      rw [whL_t (by rw [gj]; exact w)] at ih
      exact ih _ (eqx_up x1 rfl) up2_same
    · rw [if_neg w, if_pos rfl, wr_nat (by omega)]
      rw [whL_f (by rw [gj]; exact w), List.length_append, List.length_singleton] at ih
      exact ih _ (eqx_up x1 rfl) up2_same
/-- the row told is one of them -/
def rowP (I : mI) (ds : List Nat) : Prop := (∀ d, d ∈ ds → d < nM I ∧ gonM I d = false) ∧ ds.Nodup
theorem c_layTurn {n d m N : Nat} {I : mI} {L : mL} {c : Nat} {K : mK2} (ho : pI I) (hm : m ≤ 6) (h36 : I 104 36 = (m : Int)) (hN : N < 6 ^ m)
    (kt : rowP I (dg 6 m N) → ∀ I', eqx [123] I I' → (∀ i, i < m → I' 123 i = (((dg 6 m N).getD i 0 : Nat) : Int)) → K (some (vi 1)) I' L c)
    (kf : ¬ rowP I (dg 6 m N) → ∀ I', eqx [123] I I' → K (some (vi 0)) I' L c) : C2 n (d + 1) 176 [vr (some 104), vi (N : Int)] I L c K := by
  have hn := ho.1
  have e0 : I 104 0 = ((nM I : Nat) : Int) := by unfold nM; omega
  have n6 : nM I ≤ 6 := by omega
  refine m_layTurn ?_
  rw [h36]
  have go : ∀ (j R g : Nat) (T : List Nat) (I1 : mI), j + T.length = m → eqx [123] I I1 → (∀ i, i < T.length → I1 123 (j + i) = ((T.getD i 0 : Nat) : Int)) → g < 64 → (∀ d, d < 6 → Nat.testBit g d = (gonM I d || decide (d ∈ T))) → rowP I T → R < 6 ^ j →
      (rowP I (dg 6 j R ++ T) → ∀ I', eqx [123] I I' → (∀ i, i < m → I' 123 i = (((dg 6 j R ++ T).getD i 0 : Nat) : Int)) → K (some (vi 1)) I' L c) → (¬ rowP I (dg 6 j R ++ T) → ∀ I', eqx [123] I I' → K (some (vi 0)) I' L c) →
      W2 n (d + 1) 176 15 [some (vr (some 104)), none, some (vi (R : Int)), some (vi (g : Int)), some (vi ((j : Int) - 1))] [] I1 L c K := by
    intro j
    induction j with
    | zero =>
      intro R g T I1 hj x1 z1 hg hb hT hR k1 k2
      refine m_layTurn_15 ?_
      rw [if_pos (by omega)]
      refine k1 hT I1 x1 ?_
      intro i hi
      have := z1 i (by omega)
      rw [Nat.zero_add] at this
      exact this
    | succ j ih =>
      intro R g T I1 hj x1 z1 hg hb hT hR k1 k2
      have q6 : R % 6 < 6 := Nat.mod_lt _ (by decide)
      have R6 : R / 6 < 6 ^ j := by
        rw [Nat.pow_succ] at hR
        exact Nat.div_lt_of_lt_mul (by rw [Nat.mul_comm]; exact hR)
      rw [dg_low (by decide) j R hR] at k1 k2
      rw [List.append_assoc] at k1 k2
      have ej : ((j + 1 : Nat) : Int) - 1 = (j : Int) := by omega
      have em : (R : Int).tmod 6 = ((R % 6 : Nat) : Int) := by rw [tmod_nn (by omega)]; omega
      have ed : wr ((R : Int).tdiv 6) = ((R / 6 : Nat) : Int) := by
        have : R < 6 ^ 6 := Nat.lt_of_lt_of_le hR (Nat.pow_le_pow_right (by decide) (by omega))
        rw [tdiv_nn (by omega), wri (by omega)]; omega
      have j6 : 0 ≤ (j : Int) ∧ (j : Int) < 6 := by omega
      have bj : ¬ ((j : Int) < 0) := by omega
      have ew : wr ((j : Int) + -1) = (j : Int) - 1 := by rw [wri (by omega)]; omega
      generalize hdd : R % 6 = q at *
      refine m_layTurn_15 ?_
      rw [ej, if_neg bj, em, Int.toNat_natCast, up2_same, up2_ne (show (104 : Nat) ≠ 123 by decide), x1 104 0 rfl, e0, ed]
      clear em ed ej
      refine ⟨j6, j6, ?_⟩
      have x2 : eqx [123] I (up2 I1 123 j (q : Int)) := eqx_up x1 rfl
      have bad : ¬ (q < nM I ∧ gonM I q = false ∧ q ∉ T) → ¬ rowP I (dg 6 j (R / 6) ++ (q :: T)) := by
        intro hb2 hP
        have h1 := hP.1 q (List.mem_append_right _ List.mem_cons_self)
        have h2 := (List.nodup_append.mp hP.2).2.1
        rw [List.nodup_cons] at h2
        exact hb2 ⟨h1.1, h1.2, h2.1⟩
      by_cases a1 : q < nM I
      · rw [if_pos (by omega)]
        refine ⟨j6, c_has (g := (g : Int)) (p := q) (by omega) q6 ?_⟩
        rw [ri_vi, Int.toNat_natCast]
        by_cases a2 : Nat.testBit g q = true
        · rw [if_pos a2, if_neg (by decide)]
          refine k2 (bad (fun hx => ?_)) _ x2
          rw [hb q q6, hx.2.1, Bool.false_or, decide_eq_true_eq] at a2
          exact hx.2.2 a2
        · have a3 := hb q q6
          rw [Bool.eq_false_iff.mpr a2] at a3
          have a4 := Bool.or_eq_false_iff.mp a3.symm
          rw [decide_eq_false_iff_not] at a4
          obtain ⟨s1, s2⟩ := set_all (g := (g : Int)) (p := q) (by omega) q6
          have eg : bior (g : Int) (bshl 1 (q : Int)) = (((bior (g : Int) (bshl 1 (q : Int))).toNat : Nat) : Int) := by omega
          rw [if_neg a2, if_pos rfl, up2_same, eg, ew]
          have g64 : (bior (g : Int) (bshl 1 (q : Int))).toNat < 64 := by omega
          clear eg ew
          refine ⟨j6, ?_⟩
          refine ih (R / 6) _ (q :: T) _ (by rw [List.length_cons]; omega) x2 ?_ g64 ?_ ?_ R6 k1 k2
          · intro i hi
            cases i with
            | zero => rw [Nat.add_zero, up2_same]; rfl
            | succ i =>
              rw [up2_at (by omega), show j + (i + 1) = j + 1 + i by omega, z1 i (by rw [List.length_cons] at hi; omega)]
              rfl
          · intro e he
            rw [s2 e, Int.toNat_natCast]
            by_cases w : e = q
            · rw [if_pos w, w, decide_eq_true List.mem_cons_self, Bool.or_true]
            · rw [if_neg w, hb e he]
              congr 1
              rw [decide_eq_decide, List.mem_cons]
              exact ⟨Or.inr, fun h => h.resolve_left w⟩
          · refine ⟨fun e he => ?_, List.nodup_cons.mpr ⟨a4.2, hT.2⟩⟩
            rw [List.mem_cons] at he
            rcases he with rfl | he
            · exact ⟨a1, a4.1⟩
            · exact hT.1 e he
      · rw [if_neg (by omega)]
        exact k2 (bad (fun hx => a1 hx.1)) _ x2
  have hl : wr ((m : Int) - 1) = (m : Int) - 1 := wri (by omega)
  rw [hl]
  obtain ⟨g, hg⟩ : ∃ g : Nat, I 104 1 = g := ⟨(I 104 1).toNat, by have := ho.2.1; omega⟩
  have h64 := ho.2.1
  rw [hg]
  refine go m N g [] I (Nat.add_zero m) (eqx_rf _ _) (fun i hi => absurd hi (Nat.not_lt_zero _)) (by omega) ?_ ⟨fun d hd => absurd hd List.not_mem_nil, List.nodup_nil⟩ hN ?_ ?_
  · intro d _
    unfold gonM
    rw [hg, Int.toNat_natCast]
    simp
  · rw [List.append_nil]; exact kt
  · rw [List.append_nil]; exact kf
theorem rowP_v {I : mI} {ds : List Nat} : rowP I ds ↔ vrow (okl (nM I)) nxl (gM I, 0) ds = true := by
  rw [vrow_iff]
  unfold rowP
  constructor
  · rintro ⟨h1, h2⟩
    refine ⟨fun d hd => ⟨(h1 d hd).1, ?_⟩, h2⟩
    show (decide (d < nM I) && gonM I d) = false
    rw [(h1 d hd).2, Bool.and_false]
  · rintro ⟨h1, h2⟩
    refine ⟨fun d hd => ⟨(h1 d hd).1, ?_⟩, h2⟩
    have : (decide (d < nM I) && gonM I d) = false := (h1 d hd).2
    rw [decide_eq_true (h1 d hd).1, Bool.true_and] at this
    exact this
abbrev lLn : List Nat := [119, 122, 123, 124, 1036]
abbrev bestL (I : mI) : Option (Int × List Nat) := tree (okl (nM I)) nxl (csl (cM I)) 6 (whL (gM I) (nM I)).length (gM I, 0)
theorem cM_bd {I : mI} (ho : rI I) : ∀ k p, 0 ≤ cM I k p ∧ cM I k p ≤ 594 := by
  intro k p
  show 0 ≤ (if p < nM I then paysS (offM I) (perM I p) ((I 104 2 + (k : Int)) % 24) else 0) ∧ (if p < nM I then paysS (offM I) (perM I p) ((I 104 2 + (k : Int)) % 24) else 0) ≤ 594
  by_cases w : p < nM I
  · rw [if_pos w]; exact pays_bd (okO_M ho.1)
  · rw [if_neg w]; decide
def lowIs (I1 : mI) (m : Nat) (low : Int) : Option (Int × List Nat) → Prop
  | none => low = -1
  | some q => low = q.1 ∧ (0 ≤ q.1 ∧ q.1 ≤ 3564) ∧ ∀ i, i < m → I1 124 i = ((q.2.getD i 0 : Nat) : Int)
theorem lowIs_e {I1 I2 : mI} {m : Nat} {low : Int} (e : I2 124 = I1 124) : ∀ {o : Option (Int × List Nat)}, lowIs I1 m low o → lowIs I2 m low o
  | none, h => h
  | some q, h => ⟨h.1, h.2.1, by rw [e]; exact h.2.2⟩
theorem c_line {n d : Nat} {t : Int} {I : mI} {L : mL} {c : Nat} {K : mK2} (ho : rI I)
    (k1 : ¬ (-1 ≤ t ∧ t ≤ 5) → K (some (vi (-1))) I L c)
    (k3 : -1 ≤ t ∧ t ≤ 5 → ∀ I' low, eqx lLn I I' → lowIs I' (whL (gM I) (nM I)).length low (bestL I) → K (some (vi (if t < 0 then low else if t < ((whL (gM I) (nM I)).length : Int) then I' 124 t.toNat else -5))) I' L c) : C2 n (d + 10) 177 [vr (some 104), vi t] I L c K := by
  have hn := ho.2.1
  have n6 : nM I ≤ 6 := by unfold nM; omega
  have hm := whL_len (gM I) (nM I)
  refine m_line ?_
  by_cases h : -1 ≤ t ∧ t ≤ 5
  · have kk := k3 h
    clear k1 k3
    rw [if_neg (by omega), if_neg (by omega)]
    refine c_layCosts ho ?_
    intro I1 x1 h36 hc
    rw [rv_no]
    unfold bestL at kk
    generalize hmm : (whL (gM I) (nM I)).length = m at *
    have p6 : ∀ j, 0 < 6 ^ j := fun j => Nat.pow_pos (by decide)
    have q6 : ∀ j, j ≤ 6 → 6 ^ j ≤ 6 ^ 6 := fun j hj => Nat.pow_le_pow_right (by decide) hj
    have main : ∀ I2, eqx lLn I I2 → I2 104 36 = (m : Int) → (∀ k, k < m → ∀ p, p < nM I → I2 122 (6 * k + p) = cM I k p) → W2 n (d + 10) 177 44 [some (vr (some 104)), some (vi t), some (vi ((6 ^ m : Nat) : Int)), some (vi (-1)), some (vi 0), none, none] [] I2 L c K := by
      intro I2 x2 h36 hc
      have loop := loopN (N := 6 ^ m) (P := fun j => ∀ I3 low, eqx lLn I I3 → I3 104 36 = (m : Int) → (∀ k, k < m → ∀ p, p < nM I → I3 122 (6 * k + p) = cM I k p) → lowIs I3 m low (fo (cand (okl (nM I)) nxl (csl (cM I)) 6 m (gM I, 0)) j) → W2 n (d + 10) 177 44 [some (vr (some 104)), some (vi t), some (vi ((6 ^ m : Nat) : Int)), some (vi low), some (vi (j : Int)), none, none] [] I3 L c K) ?_ ?_ 0 (Nat.zero_le _)
      · exact loop I2 (-1) x2 h36 hc rfl
      · intro I3 low x3 h36 hc hl
        rw [scan _ _ _ (by decide)] at hl
        refine m_line_44 ?_
        rw [if_neg (by omega), h36]
        have k4 := kk I3 low x3 hl
        by_cases w1 : t < 0
        · rw [if_pos w1] at k4 ⊢; exact k4
        rw [if_neg w1] at k4 ⊢
        by_cases w2 : t < (m : Int)
        · rw [if_pos w2] at k4 ⊢; exact ⟨by omega, k4⟩
        · rw [if_neg w2] at k4 ⊢; exact k4
      · intro j hj ih I3 low x3 h36 hc hl
        have jl : (j : Int) < ((6 ^ m : Nat) : Int) := by omega
        have j7 : j < 1000000 := by have := q6 m (by omega); omega
        refine m_line_44 ?_
        rw [if_pos jl]
        refine c_layTurn (m := m) (pI_e x3 rfl ho.2) (by omega) h36 hj ?_ ?_
        · intro hP I4 x4 z4
          have hn3 : nM I3 = nM I := nM_e x3 rfl
          have hg3 : gonM I3 = gonM I := by funext p; unfold gonM; rw [x3 104 1 rfl]
          have hP' : vrow (okl (nM I)) nxl (gM I, 0) (dg 6 m j) = true := by
            rw [← rowP_v]
            unfold rowP at hP ⊢
            rw [hn3, hg3] at hP
            exact hP
          have hPI := rowP_v.mpr hP'
          have x34 : eqx lLn I I4 := eqx_tr x3 (eqx_wk rfl x4)
          have c122 : I4 122 = I3 122 := cell_n x4 (by decide) (by decide)
          have c124 : I4 124 = I3 124 := cell_n x4 (by decide) (by decide)
          have f36 : I4 104 36 = (m : Int) := by rw [x4 104 36 rfl]; exact h36
          have ec : cand (okl (nM I)) nxl (csl (cM I)) 6 m (gM I, 0) j = some (crow nxl (csl (cM I)) (gM I, 0) (dg 6 m j), dg 6 m j) := if_pos hP'
          have es := crow_sum (cM I) (dg 6 m j) (gM I, 0)
          rw [dg_len] at es
          have es2 : crow nxl (csl (cM I)) (gM I, 0) (dg 6 m j) = sumS (fun i => cM I i ((dg 6 m j).getD i 0)) m := by rw [es]; exact sum_cg (fun i _ => by rw [Nat.zero_add])
          have sb := fun i => sum_bd (f := fun i => cM I i ((dg 6 m j).getD i 0)) (B := 594) i (fun i _ => cM_bd ho _ _)
          have stp : fo (cand (okl (nM I)) nxl (csl (cM I)) 6 m (gM I, 0)) (j + 1) = bet (fo (cand (okl (nM I)) nxl (csl (cM I)) 6 m (gM I, 0)) j) (some (sumS (fun i => cM I i ((dg 6 m j).getD i 0)) m, dg 6 m j)) := by rw [← es2, ← ec]; rfl
          rw [stp] at ih
          clear stp es es2 ec
          rw [ri_vi, if_neg (by decide)]
          have bds := sb m
          have loop2 := loopN (N := m) (P := fun i => W2 n (d + 10) 177 68 [some (vr (some 104)), some (vi t), some (vi ((6 ^ m : Nat) : Int)), some (vi low), some (vi (j : Int)), some (vi (sumS (fun i => cM I i ((dg 6 m j).getD i 0)) i)), some (vi (i : Int))] [] I4 L c K) ?_ ?_ 0 (Nat.zero_le _)
          · exact loop2
          · refine m_line_68 ?_
            rw [f36, if_neg (by omega)]
            generalize hS : sumS (fun i => cM I i ((dg 6 m j).getD i 0)) m = S at *
            have copy : W2 n (d + 10) 177 125 [some (vr (some 104)), some (vi t), some (vi ((6 ^ m : Nat) : Int)), some (vi S), some (vi (j : Int)), none, some (vi 0)] [] I4 L c K ∨ True := Or.inr trivial
            have copy : (bet (fo (cand (okl (nM I)) nxl (csl (cM I)) 6 m (gM I, 0)) j) (some (S, dg 6 m j)) = some (S, dg 6 m j)) → W2 n (d + 10) 177 125 [some (vr (some 104)), some (vi t), some (vi ((6 ^ m : Nat) : Int)), some (vi S), some (vi (j : Int)), none, some (vi 0)] [] I4 L c K := by
              intro hb
              rw [hb] at ih
              have loop3 := loopN (N := 6) (P := fun i => ∀ I5, eqx [124] I4 I5 → (∀ k, k < i → I5 124 k = I4 123 k) → W2 n (d + 10) 177 125 [some (vr (some 104)), some (vi t), some (vi ((6 ^ m : Nat) : Int)), some (vi S), some (vi (j : Int)), none, some (vi (i : Int))] [] I5 L c K) ?_ ?_ 0 (Nat.zero_le _)
              · exact loop3 I4 (eqx_rf _ _) (fun k hk => absurd hk (Nat.not_lt_zero _))
              · intro I5 x5 z5
                refine m_line_125 ?_
                rw [if_neg (by decide), wr_nat j7]
                refine ih I5 S (eqx_tr x34 (eqx_wk rfl x5)) (by rw [x5 104 36 rfl]; exact f36) ?_ ⟨rfl, by omega, fun i hi => ?_⟩
                · intro k hk p hp; rw [x5 122 _ rfl, c122]; exact hc k hk p hp
                · rw [z5 i (by omega), z4 i hi]
              · intro i hi ih5 I5 x5 z5
                refine m_line_125 ?_
                rw [if_pos (by omega), Int.toNat_natCast, wr_nat (by omega)]
                refine ⟨by omega, by omega, ih5 _ (eqx_up x5 rfl) ?_⟩
                intro k hk
                by_cases e : k = i
                · rw [e, up2_same, x5 123 _ rfl]
                · rw [up2_at e]; exact z5 k (by omega)
            cases ho2 : fo (cand (okl (nM I)) nxl (csl (cM I)) 6 m (gM I, 0)) j with
            | none =>
              rw [ho2] at hl copy
              have hl' : low = -1 := hl
              rw [if_pos (by omega)]
              exact copy rfl
            | some q =>
              rw [ho2] at hl copy ih
              obtain ⟨l1, l2, l3⟩ := hl
              rw [if_neg (by omega)]
              by_cases w : S < low
              · rw [if_pos w]
                refine copy ?_
                show (if S < q.1 then some (S, dg 6 m j) else some q) = _
                rw [if_pos (by omega)]
              · rw [if_neg w, wr_nat j7]
                have e : bet (some q) (some (S, dg 6 m j)) = some q := by
                  show (if S < q.1 then some (S, dg 6 m j) else some q) = _
                  rw [if_neg (by omega)]
                rw [e] at ih
                exact ih I4 low x34 f36 (fun k hk p hp => by rw [c122]; exact hc k hk p hp) ⟨l1, l2, fun i hi => by rw [c124]; exact l3 i hi⟩
          · intro i hi ih2
            have hlt := (hPI.1 _ (getD_mem (l := dg 6 m j) (w := i) (by rw [dg_len]; exact hi))).1
            have s1 := sb i
            have cb := cM_bd ho i ((dg 6 m j).getD i 0)
            have ss : sumS (fun i => cM I i ((dg 6 m j).getD i 0)) (i + 1) = sumS (fun i => cM I i ((dg 6 m j).getD i 0)) i + cM I i ((dg 6 m j).getD i 0) := rfl
            have hci := hc i hi ((dg 6 m j).getD i 0) hlt
            have zi := z4 i hi
            have i6 : 0 ≤ (i : Int) ∧ (i : Int) < 6 := by omega
            have im : (i : Int) < (m : Int) := by omega
            have i7 : i < 1000000 := by omega
            rw [ss] at ih2
            clear ss
            generalize (dg 6 m j).getD i 0 = q at *
            have b36 : 0 ≤ ((6 * i + q : Nat) : Int) ∧ ((6 * i + q : Nat) : Int) < 36 := by omega
            have e1 : wr (wr (6 * (i : Int)) + (q : Int)) = ((6 * i + q : Nat) : Int) := by rw [wri (x := 6 * (i : Int)) (by omega), wri (by omega)]; omega
            refine m_line_68 ?_
            rw [f36, if_pos im, Int.toNat_natCast, zi, e1, Int.toNat_natCast, c122, hci, wr_nat i7]
            clear e1
            refine ⟨i6, b36, ?_⟩
            generalize sumS _ i = Si at *
            rw [wri (by omega)]
            exact ih2
        · intro hP I4 x4
          have hn3 : nM I3 = nM I := nM_e x3 rfl
          have hg3 : gonM I3 = gonM I := by funext p; unfold gonM; rw [x3 104 1 rfl]
          have ec : cand (okl (nM I)) nxl (csl (cM I)) 6 m (gM I, 0) j = none := by
            refine if_neg (fun hv => hP ?_)
            have := rowP_v.mpr hv
            unfold rowP at this ⊢
            rw [hn3, hg3]
            exact this
          have stp : fo (cand (okl (nM I)) nxl (csl (cM I)) 6 m (gM I, 0)) (j + 1) = fo (cand (okl (nM I)) nxl (csl (cM I)) 6 m (gM I, 0)) j := by
            show bet _ (cand (okl (nM I)) nxl (csl (cM I)) 6 m (gM I, 0) j) = _
            rw [ec, bet_none]
          rw [stp] at ih
          rw [ri_vi, if_pos rfl, wr_nat j7]
          exact ih I4 low (eqx_tr x3 (eqx_wk rfl x4)) (by rw [x4 104 36 rfl]; exact h36) (fun k hk p hp => by rw [x4 122 _ rfl]; exact hc k hk p hp) (lowIs_e (cell_n x4 (by decide) (by decide)) hl)
    have loop0 := loopN (N := m) (P := fun j => W2 n (d + 10) 177 20 [some (vr (some 104)), some (vi t), some (vi ((6 ^ j : Nat) : Int)), some (vi (j : Int)), none, none, none] [] I1 L c K) ?_ ?_ 0 (Nat.zero_le _)
    · exact loop0
    · refine m_line_20 ?_
      rw [h36, if_neg (by omega)]
      exact main I1 (eqx_wk rfl x1) h36 hc
    · intro j hj ih
      refine m_line_20 ?_
      have h6 := q6 j (by omega)
      rw [h36, if_pos (by omega), wr_nat (by omega)]
      rw [Nat.pow_succ] at ih
      rw [show wr (((6 ^ j : Nat) : Int) * 6) = ((6 ^ j * 6 : Nat) : Int) by generalize 6 ^ j = X at h6 ⊢; rw [wri (by omega)]; omega]
      exact ih
  · have kk := k1 h
    clear k1 k3
    repeat' (first | exact kk | (exfalso; omega) | refine ite_i (fun _ => ?_) (fun _ => ?_))
theorem nn_line : nol lLU lAll = true ∧ nol lLn lAll = true := by decide +kernel
theorem p_line {n d : Nat} {t : Int} {I : mI} {L : mL} {c : Nat} {Q : mI → mL → Nat → Prop} (r : RC I L c) (q : ∀ I' L', RC I' L' c → Q I' L' c) : PT n (d + 20) 80 [vr (some 16), vi t] 177 [vr (some 104), vi t] I L c Q := by
  obtain ⟨e1, e2, e3⟩ := rc_17 r
  have hn := rc_n r
  have hO := rc_cO r
  obtain ⟨ho, oc⟩ := cO_h (n := n) hO
  obtain ⟨n1, n2⟩ := nn_line
  have ref : ∀ (J : mI) (v : Int), RC J L c → ((¬ (-1 ≤ t ∧ t ≤ 5) → v = -1) ∧ (-1 ≤ t ∧ t ≤ 5 → ∀ I' low, lowIs I' (whL (gM J) (nM J)).length low (bestL J) → v = (if t < 0 then low else if t < ((whL (gM J) (nM J)).length : Int) then I' 124 t.toNat else -5))) → C2 n (d + 20) 177 [vr (some 104), vi t] J L c (fun rr I' L' c' => ri rr (fun w => v = w ∧ Q I' L' c')) := by
    intro J v rJ hv
    refine c_line (d := d + 10) (rc_rI rJ) ?_ ?_
    · intro h; rw [ri_vi]; exact ⟨hv.1 h, q _ _ rJ⟩
    · intro h I' low x1 hl; rw [ri_vi]; exact ⟨hv.2 h I' low hl, q _ _ (RC_s x1 n2 rfl rJ)⟩
  refine x_line (d := d + 13) ?_
  by_cases h : -1 ≤ t ∧ t ≤ 5
  · rw [if_neg (by omega), if_pos (by omega)]
    refine x_hold hO ?_
    rw [rr_vr]
    have gg : (fun p => decide (p < nM I) && decide (perN I p 4 = 1)) = gM I := by
      funext p
      show (decide (p < nM I) && decide (perN I p 4 = 1)) = (decide (p < nM I) && gonM I p)
      by_cases w : p < nM I
      · rw [decide_eq_true w, rc_per r w, Bool.true_and, Bool.true_and]
        show decide ((if gonM I p = true then (1 : Int) else 0) = 1) = gonM I p
        cases gonM I p <;> rfl
      · rw [decide_eq_false w]; rfl
    have cc : (fun (k p : Nat) => if p < nM I then paysS (offC I (hH I)) (perN I p) ((I 17 2 + (k : Int)) % 24) else 0) = cM I := by
      funext k p
      show (if p < nM I then paysS (offC I (hH I)) (perN I p) ((I 17 2 + (k : Int)) % 24) else 0) = (if p < nM I then paysS (offM I) (perM I p) ((I 104 2 + (k : Int)) % 24) else 0)
      by_cases w : p < nM I
      · rw [if_pos w, if_pos w, (rc_o r).2, e2, rc_per r w]
      · rw [if_neg w, if_neg w]
    refine x_lineUp (N := nM I) (d := d + 13) ho (hH_r I) oc (rc_cP r) hn.1.symm rfl rfl ?_
    rw [gg, cc]
    intro I1 x1 lu tv
    have r1 : RC I1 L c := RC_s x1 n1 rfl r
    obtain ⟨k1, k2, k3, k4, k5, k6⟩ := keep x1 n1
    have gI : gM I1 = gM I := by
      funext p
      show (decide (p < nM I1) && gonM I1 p) = (decide (p < nM I) && gonM I p)
      rw [k6]
      unfold gonM
      rw [x1 104 1 rfl]
    have cI : cM I1 = cM I := by
      funext k p
      show (if p < nM I1 then paysS (offM I1) (perM I1 p) ((I1 104 2 + (k : Int)) % 24) else 0) = (if p < nM I then paysS (offM I) (perM I p) ((I 104 2 + (k : Int)) % 24) else 0)
      rw [k6, k1, k2, k4]
    have bI : bestL I1 = bestL I := by unfold bestL; rw [gI, cI, k6]
    have hm := whL_len (gM I) (nM I)
    have hp := Nat.pow_pos (a := 2) (n := (whL (gM I) (nM I)).length) (by decide)
    obtain ⟨l, hl⟩ := tv 0 hp
    have hb : bestL I = some (I1 84 0, l) := by
      rw [← hl]
      show tree _ _ _ 6 _ (gM I, 0) = tree _ _ _ 6 _ (ug (gM I) (whL (gM I) (nM I)) 0, bcN 0)
      rw [ug_0]
      rfl
    rw [ri_vi]
    have fin : ∀ v : Int, v = (if t < 0 then I1 84 0 else if t < ((whL (gM I) (nM I)).length : Int) then ((l.getD t.toNat 0 : Nat) : Int) else -5) → C2 n (d + 20) 177 [vr (some 104), vi t] I1 L c (fun rr I' L' c' => ri rr (fun w => v = w ∧ Q I' L' c')) := by
      intro v hv
      refine ref I1 v r1 ⟨fun a => absurd h a, fun _ I' low hl2 => ?_⟩
      rw [bI, gI, k6, hb] at hl2
      rw [gI, k6, hv]
      obtain ⟨l1, _, l3⟩ := hl2
      by_cases w1 : t < 0
      · rw [if_pos w1, if_pos w1, l1]
      rw [if_neg w1, if_neg w1]
      by_cases w2 : t < ((whL (gM I) (nM I)).length : Int)
      · rw [if_pos w2, if_pos w2, l3 _ (by omega)]
      · rw [if_neg w2, if_neg w2]
    by_cases w1 : t < 0
    · rw [if_pos w1]
      refine ⟨by decide, ?_⟩
      rw [ri_vi]
      exact fin _ (by rw [if_pos w1])
    · rw [if_neg w1]
      refine x_inLine (d := d + 16) hn.2.2 (cM_bd (rc_rI r)) (fun p hp => ?_) lu tv ⟨_, hl⟩ (by omega) ?_
      · show (decide (p < nM I) && gonM I p) = false
        rw [decide_eq_false (by omega)]
        rfl
      · rw [ri_vi, ri_vi]
        exact fin _ (by rw [if_neg w1])
  · have kk := ref I (-1) r ⟨fun _ => rfl, fun a => absurd a h⟩
    repeat' (first | (rw [ri_vi]; exact kk) | (exfalso; omega) | refine ite_i (fun _ => ?_) (fun _ => ?_))
