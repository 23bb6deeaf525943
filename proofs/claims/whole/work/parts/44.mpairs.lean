/-! ===== pairs: the reference, all rows ===== -/
def dgt (n N i : Nat) : Nat := N / 7 ^ (n - 1 - i) % 7
theorem dg_get : ∀ m r i, r < 7 ^ m → i < m → (dg 7 m r).getD i 0 = r / 7 ^ (m - 1 - i) % 7
  | 0, r, i, h, hi => absurd hi (Nat.not_lt_zero _)
  | m + 1, r, 0, h, hi => by
    show r / 7 ^ m = r / 7 ^ (m + 1 - 1 - 0) % 7
    rw [show m + 1 - 1 - 0 = m by omega, Nat.mod_eq_of_lt]
    rw [Nat.pow_succ] at h
    exact Nat.div_lt_of_lt_mul h
  | m + 1, r, i + 1, h, hi => by
    have hp := Nat.pow_pos (a := 7) (n := m) (by decide)
    have ih := dg_get m (r % 7 ^ m) i (Nat.mod_lt _ hp) (by omega)
    show (dg 7 m (r % 7 ^ m)).getD i 0 = _
    rw [ih, show m + 1 - 1 - (i + 1) = m - 1 - i by omega]
    obtain ⟨k, hk⟩ : ∃ k, m = (m - 1 - i) + 1 + k := ⟨i, by omega⟩
    generalize m - 1 - i = e at *
    have he := Nat.pow_pos (a := 7) (n := e) (by decide)
    rw [hk, show 7 ^ (e + 1 + k) = 7 ^ e * (7 * 7 ^ k) by rw [Nat.pow_add, Nat.pow_succ, Nat.mul_assoc], Nat.mod_mul_right_div_self, Nat.mod_mod_of_dvd _ ⟨7 ^ k, rfl⟩]
theorem vrow_okp {n : Nat} {g : Nat → Bool} (F : Nat → Nat) : ∀ (ds : List Nat) (k : Nat) (f : Nat → Nat), (∀ q, q < k → f q = F q) → (∀ i, i < ds.length → ds.getD i 0 = F (k + i)) → (vrow (okp n g) nxp (k, f) ds = true ↔ ∀ i, i < ds.length → okp n g (k + i, F) (F (k + i)) = true)
  | [], k, f, h1, h2 => by
    refine ⟨fun _ i hi => absurd hi (Nat.not_lt_zero _), fun _ => rfl⟩
  | o :: r, k, f, h1, h2 => by
    have e0 : o = F k := h2 0 (by rw [List.length_cons]; omega)
    have ce : ∀ t, chs f t k = chs F t k := fun t => chs_cg h1
    have oe : okp n g (k, f) o = okp n g (k, F) (F k) := by
      unfold okp
      simp only [ce, e0]
    have ih := vrow_okp (n := n) (g := g) F r (k + 1) (nxp (k, f) o).2 (fun q hq => by
      show (if q = k then o else f q) = F q
      by_cases w : q = k
      · rw [if_pos w, e0, w]
      · rw [if_neg w]; exact h1 q (by omega)) (fun i hi => by
        rw [show k + 1 + i = k + (i + 1) by omega]
        exact h2 (i + 1) (by rw [List.length_cons]; omega))
    rw [show vrow (okp n g) nxp (k, f) (o :: r) = (okp n g (k, f) o && vrow (okp n g) nxp (k + 1, (nxp (k, f) o).2) r) from rfl, Bool.and_eq_true, ih, oe]
    constructor
    · rintro ⟨a, b⟩ i hi
      rcases i with _ | i
      · exact a
      · rw [show k + (i + 1) = k + 1 + i by omega]
        exact b i (by rw [List.length_cons] at hi; omega)
    · intro a
      refine ⟨a 0 (by rw [List.length_cons]; omega), fun i hi => ?_⟩
      rw [show k + 1 + i = k + (i + 1) by omega]
      exact a (i + 1) (by rw [List.length_cons]; omega)
theorem crow_csp {J : Nat → Nat → Int} {al : Nat → Int} (F : Nat → Nat) : ∀ (ds : List Nat) (k : Nat) (f : Nat → Nat), (∀ i, i < ds.length → ds.getD i 0 = F (k + i)) → crow nxp (csp J al) (k, f) ds = sumS (fun i => csp J al (k + i, F) (F (k + i))) ds.length
  | [], k, f, h => rfl
  | o :: r, k, f, h => by
    have e0 : o = F k := h 0 (by rw [List.length_cons]; omega)
    have ih := crow_csp (J := J) (al := al) F r (k + 1) (nxp (k, f) o).2 (fun i hi => by
      rw [show k + 1 + i = k + (i + 1) by omega]
      exact h (i + 1) (by rw [List.length_cons]; omega))
    have sh : ∀ (f : Nat → Int) k, sumS f (k + 1) = f 0 + sumS (fun i => f (i + 1)) k := by
      intro f k
      induction k with
      | zero => show 0 + f 0 = f 0 + 0; omega
      | succ k ih => show sumS f (k + 1) + f (k + 1) = f 0 + (sumS (fun i => f (i + 1)) k + f (k + 1)); rw [ih]; omega
    rw [List.length_cons, sh]
    show csp J al (k, f) o + crow nxp (csp J al) (k + 1, (nxp (k, f) o).2) r = csp J al (k, F) (F k) + _
    rw [ih, e0]
    congr 1
    refine sum_cg (fun i _ => ?_)
    show csp J al (k + 1 + i, F) (F (k + 1 + i)) = csp J al (k + (i + 1), F) (F (k + (i + 1)))
    rw [show k + 1 + i = k + (i + 1) by omega]
/-- the number after one is added at place q - 1 and all behind is nought -/
def nxN (n q N : Nat) : Nat := (N / 7 ^ (n - q) + 1) * 7 ^ (n - q)
theorem nxN_gt (n q N : Nat) : N < nxN n q N := by
  have hp := Nat.pow_pos (a := 7) (n := n - q) (by decide)
  unfold nxN
  have := Nat.div_add_mod N (7 ^ (n - q))
  have := Nat.mod_lt N hp
  rw [Nat.add_mul, Nat.one_mul, Nat.mul_comm]
  omega
theorem nxN_le {n q N : Nat} (hq : q ≤ n) (h : N < 7 ^ n) : nxN n q N ≤ 7 ^ n := by
  unfold nxN
  have e : 7 ^ n = 7 ^ (n - q) * 7 ^ q := by rw [← Nat.pow_add]; congr 1; omega
  have hl : N / 7 ^ (n - q) < 7 ^ q := Nat.div_lt_of_lt_mul (by rw [← e]; exact h)
  rw [e, Nat.mul_comm]
  exact Nat.mul_le_mul_left _ hl
theorem nxN_same {n q N r i : Nat} (h1 : N ≤ r) (h2 : r < nxN n q N) (hi : i < q) (hq : q ≤ n) : dgt n r i = dgt n N i := by
  have hp := Nat.pow_pos (a := 7) (n := n - q) (by decide)
  have e1 : r / 7 ^ (n - q) = N / 7 ^ (n - q) := by
    apply Nat.le_antisymm
    · unfold nxN at h2
      have := Nat.div_lt_of_lt_mul (m := r) (n := 7 ^ (n - q)) (k := N / 7 ^ (n - q) + 1) (by rw [Nat.mul_comm]; exact h2)
      omega
    · exact Nat.div_le_div_right h1
  unfold dgt
  rw [show n - 1 - i = (n - q) + (q - 1 - i) by omega, Nat.pow_add, ← Nat.div_div_eq_div_mul, ← Nat.div_div_eq_div_mul, e1]
theorem nxN_six {n q N : Nat} (hq : q < n) (h : dgt n N q = 6) : nxN n (q + 1) N = nxN n q N := by
  unfold nxN
  unfold dgt at h
  rw [show n - 1 - q = n - (q + 1) by omega] at h
  rw [show n - q = n - (q + 1) + 1 by omega, Nat.pow_succ, ← Nat.div_div_eq_div_mul]
  generalize N / 7 ^ (n - (q + 1)) = M at *
  rw [Nat.mul_comm (7 ^ (n - (q + 1))) 7, ← Nat.mul_assoc]
  congr 1
  omega
theorem nxN_dig {n q N : Nat} (hq : q < n) (h : dgt n N q < 6) (i : Nat) (hi : i < n) : dgt n (nxN n (q + 1) N) i = if i < q then dgt n N i else if i = q then dgt n N q + 1 else 0 := by
  unfold dgt at h ⊢
  unfold nxN
  rw [show n - 1 - q = n - (q + 1) by omega] at h ⊢
  have hp := Nat.pow_pos (a := 7) (n := n - (q + 1)) (by decide)
  by_cases w : i < q
  · rw [if_pos w, show n - 1 - i = n - (q + 1) + (1 + (q - 1 - i)) by omega, Nat.pow_add, ← Nat.div_div_eq_div_mul, ← Nat.div_div_eq_div_mul, Nat.mul_div_cancel _ hp, Nat.pow_add, Nat.pow_one, ← Nat.div_div_eq_div_mul, ← Nat.div_div_eq_div_mul]
    congr 2
    omega
  · rw [if_neg w]
    by_cases v : i = q
    · rw [if_pos v, v, show n - 1 - q = n - (q + 1) by omega, Nat.mul_div_cancel _ hp]
      omega
    · rw [if_neg v]
      have e : n - (q + 1) = (n - 1 - i) + 1 + (i - q - 1) := by omega
      have hp2 := Nat.pow_pos (a := 7) (n := n - 1 - i) (by decide)
      have e2 : (N / 7 ^ (n - (q + 1)) + 1) * 7 ^ (n - (q + 1)) = 7 ^ (n - 1 - i) * (7 * (7 ^ (i - q - 1) * (N / 7 ^ (n - (q + 1)) + 1))) := by
        generalize N / 7 ^ (n - (q + 1)) = M at *
        rw [e, Nat.pow_add, Nat.pow_succ, Nat.mul_comm, Nat.mul_assoc, Nat.mul_assoc]
      rw [e2, Nat.mul_div_cancel_left _ hp2]
      exact Nat.mul_mod_right _ _

abbrev lPM : List Nat := [119, 125, 126, 127, 128]
abbrev alM (I : mI) : Nat → Int := fun p => paysS (offM I) (perM I p) (I 104 2)
abbrev jM (I : mI) : Nat → Nat → Int := jJ (offM I) (perM I) (I 104 2)
theorem c_layPairs {n d : Nat} {I : mI} {L : mL} {c : Nat} {K : mK2} (hr : rI I) (k : ∀ I', eqx lPM I I' → (∀ p, p < nM I → I' 126 p = alM I p) → (∀ p, p < nM I → ∀ q, q < nM I → p ≠ q → I' 125 (6 * p + q) = jM I p q) → K none I' L c) : C2 n (d + 8) 180 [vr (some 104)] I L c K := by
  have hn := hr.2.1
  have e0 : I 104 0 = ((nM I : Nat) : Int) := by unfold nM; omega
  have n6 : nM I ≤ 6 := by omega
  refine m_layPairs ?_
  have loop1 := loopN (N := nM I) (P := fun j => ∀ I1, eqx lPM I I1 → (∀ p, p < j → I1 126 p = alM I p) → (∀ p, p < j → ∀ q, q < nM I → p ≠ q → I1 125 (6 * p + q) = jM I p q) → W2 n (d + 8) 180 2 [some (vr (some 104)), some (vi (j : Int)), none] [] I1 L c K) ?_ ?_ 0 (Nat.zero_le _)
  · exact loop1 I (eqx_rf _ _) (fun p hp => absurd hp (Nat.not_lt_zero _)) (fun p hp => absurd hp (Nat.not_lt_zero _))
  · intro I1 x1 z1 w1
    refine m_layPairs_2 ?_
    rw [x1 104 0 rfl, if_neg (by omega)]
    exact k I1 x1 z1 w1
  · intro j hj ih I1 x1 z1 w1
    refine m_layPairs_2 ?_
    rw [x1 104 0 rfl, if_pos (by omega)]
    refine c_pays (d := d) (rI_e x1 rfl rfl hr) (by omega) ?_
    intro I2 x2
    have x3 : eqx lPM I I2 := eqx_tr x1 (eqx_wk rfl x2)
    rw [ri_vi, offM_e x1 rfl, perM_e x1 rfl, x1 104 2 rfl]
    refine ⟨by omega, ?_⟩
    have loop2 := loopN (N := nM I) (P := fun i => ∀ I3, eqx lPM I I3 → (∀ p, p < j + 1 → I3 126 p = alM I p) → (∀ p, p < j → ∀ q, q < nM I → p ≠ q → I3 125 (6 * p + q) = jM I p q) → (∀ q, q < i → j ≠ q → I3 125 (6 * j + q) = jM I j q) → W2 n (d + 8) 180 23 [some (vr (some 104)), some (vi (j : Int)), some (vi (i : Int))] [] I3 L c K) ?_ ?_ 0 (Nat.zero_le _)
    · refine loop2 _ (eqx_up x3 rfl) ?_ ?_ (fun q hq => absurd hq (Nat.not_lt_zero _))
      · intro p hp
        rw [Int.toNat_natCast]
        by_cases e : p = j
        · rw [e, up2_same]
        · rw [up2_at e, x2 126 _ rfl]; exact z1 p (by omega)
      · intro p hp q hq hne
        rw [up2_ne (by decide), x2 125 _ rfl]; exact w1 p hp q hq hne
    · intro I3 x4 z3 w3 v3
      refine m_layPairs_23 ?_
      rw [x4 104 0 rfl, if_neg (by omega), wr_nat (show j < 1000000 by omega)]
      refine ih I3 x4 z3 (fun p hp q hq hne => ?_)
      by_cases e : p = j
      · rw [e] at hne ⊢; exact v3 q hq hne
      · exact w3 p (by omega) q hq hne
    · intro i hi ih2 I3 x4 z3 w3 v3
      have e1 : wr (wr (6 * (j : Int)) + (i : Int)) = ((6 * j + i : Nat) : Int) := by rw [wri (x := 6 * (j : Int)) (by omega), wri (by omega)]; omega
      have b36 : 0 ≤ ((6 * j + i : Nat) : Int) ∧ ((6 * j + i : Nat) : Int) < 36 := by omega
      have i1 : wr ((i : Int) + 1) = ((i + 1 : Nat) : Int) := wr_nat (by omega)
      refine m_layPairs_23 ?_
      rw [x4 104 0 rfl, if_pos (by omega), e1, Int.toNat_natCast, i1]
      clear e1 i1
      by_cases e : j = i
      · rw [if_pos (by omega)]
        refine ⟨b36, ih2 _ (eqx_up x4 rfl) ?_ ?_ ?_⟩
        · intro p hp; rw [up2_ne (by decide)]; exact z3 p hp
        · intro p hp q hq hne
          rw [up2_at (by omega)]; exact w3 p hp q hq hne
        · intro q hq hne
          rw [up2_at (by omega)]; exact v3 q (by omega) hne
      · rw [if_neg (by omega)]
        refine c_jointlyOf (d := d + 1) (rI_e x4 rfl rfl hr) (by omega) (by omega) ?_
        intro I4 x5
        have x6 : eqx lPM I I4 := eqx_tr x4 (eqx_wk rfl x5)
        rw [ri_vi, offM_e x4 rfl, perM_e x4 rfl, perM_e x4 rfl, x4 104 2 rfl]
        refine ⟨b36, ih2 _ (eqx_up x6 rfl) ?_ ?_ ?_⟩
        · intro p hp; rw [up2_ne (by decide), x5 126 _ rfl]; exact z3 p hp
        · intro p hp q hq hne
          rw [up2_at (by omega), x5 125 _ rfl]; exact w3 p hp q hq hne
        · intro q hq hne
          by_cases e2 : q = i
          · rw [e2, up2_same]; rfl
          · rw [up2_at (by omega), x5 125 _ rfl]; exact v3 q (by omega) hne
theorem c_firstBad {n d N : Nat} {F : Nat → Nat} {I : mI} {L : mL} {c : Nat} {K : mK2} (ho : pI I) (hN : N = nM I) (hF : ∀ i, i < N → I 127 i = (F i : Int) ∧ F i < 7)
    (ka : (∀ p, p < N → okp N (gonM I) (p, F) (F p) = true) → K (some (vi (N : Int))) I L c)
    (kb : ∀ b, b < N → ¬ okp N (gonM I) (b, F) (F b) = true → K (some (vi (b : Int))) I L c) : C2 n (d + 1) 181 [vr (some 104)] I L c K := by
  have hn := ho.1
  have hg := ho.2.1
  have e0 : I 104 0 = (N : Int) := by rw [hN]; unfold nM; omega
  have n6 : N ≤ 6 := by omega
  refine m_firstBad ?_
  have loop1 := loopN (N := N) (P := fun j => (∀ p, p < j → okp N (gonM I) (p, F) (F p) = true) → W2 n (d + 1) 181 2 [some (vr (some 104)), some (vi (j : Int)), none, none, none, none] [] I L c K) ?_ ?_ 0 (Nat.zero_le _)
  · exact loop1 (fun p hp => absurd hp (Nat.not_lt_zero _))
  · intro h
    refine m_firstBad_2 ?_
    rw [e0, if_neg (by omega)]
    exact ka h
  · intro p hp ih hall
    obtain ⟨f1, f2⟩ := hF p hp
    have inner : ∀ l4 : Int, ((l4 = 0 ∧ (p < F p ∧ F p < N ∧ gonM I p = false ∧ gonM I (F p) = false)) ∨ (l4 = 1 ∧ ¬ (p < F p ∧ F p < N ∧ gonM I p = false ∧ gonM I (F p) = false))) → W2 n (d + 1) 181 67 [some (vr (some 104)), some (vi (p : Int)), some (vi (F p : Int)), some (vi 6), some (vi l4), some (vi 0)] [] I L c K := by
      intro l4 h4
      have loop2 := loopN (N := p) (P := fun j => ∀ l4 : Int, ((l4 = 0 ∧ (p < F p ∧ F p < N ∧ gonM I p = false ∧ gonM I (F p) = false) ∧ ¬ chs F (F p) j < 6) ∨ (l4 = 1 ∧ ¬ ((p < F p ∧ F p < N ∧ gonM I p = false ∧ gonM I (F p) = false) ∧ ¬ chs F (F p) j < 6))) → W2 n (d + 1) 181 67 [some (vr (some 104)), some (vi (p : Int)), some (vi (F p : Int)), some (vi ((chs F p j : Nat) : Int)), some (vi l4), some (vi (j : Int))] [] I L c K) ?_ ?_ 0 (Nat.zero_le _)
      · refine loop2 l4 ?_
        rcases h4 with ⟨a, b⟩ | ⟨a, b⟩
        · exact Or.inl ⟨a, b, by unfold chs; omega⟩
        · exact Or.inr ⟨a, fun w => b w.1⟩
      · intro l4 h4
        have oe : okp N (gonM I) (p, F) (F p) = if chs F p p < 6 then decide (F p = chs F p p) else decide (F p = 6) || (decide (p < F p ∧ F p < N ∧ ¬ chs F (F p) p < 6) && (!(gonM I p) && !(gonM I (F p)))) := rfl
        have c6 := chs_le (f := F) (t := p) (k := p) (by omega)
        refine m_firstBad_67 ?_
        rw [if_neg (by omega), wr_nat (show p < 1000000 by omega)]
        have good : okp N (gonM I) (p, F) (F p) = true → W2 n (d + 1) 181 2 [some (vr (some 104)), some (vi ((p + 1 : Nat) : Int)), none, none, none, none] [] I L c K := fun a => ih (fun q hq => by
          by_cases e : q = p
          · rw [e]; exact a
          · exact hall q (by omega))
        by_cases w : chs F p p < 6
        · rw [if_pos (by omega)]
          rw [if_pos w] at oe
          by_cases e : F p = chs F p p
          · rw [if_pos (by omega)]
            exact good (by rw [oe]; exact decide_eq_true e)
          · rw [if_neg (by omega)]
            exact kb p hp (by rw [oe, decide_eq_true_eq]; exact e)
        · rw [if_neg (by omega)]
          rw [if_neg w] at oe
          by_cases e : F p < 6
          · rw [if_pos (by omega)]
            rw [decide_eq_false (show ¬ F p = 6 by omega), Bool.false_or] at oe
            rcases h4 with ⟨a, ⟨b1, b2, b3, b4⟩, b5⟩ | ⟨a, b⟩
            · rw [if_pos a]
              refine good ?_
              rw [oe, decide_eq_true ⟨b1, b2, b5⟩, b3, b4]
              rfl
            · rw [if_neg (by omega)]
              refine kb p hp (fun h => b ?_)
              rw [oe, Bool.and_eq_true, decide_eq_true_eq, Bool.and_eq_true, Bool.not_eq_true', Bool.not_eq_true'] at h
              exact ⟨⟨h.1.1, h.1.2.1, h.2.1, h.2.2⟩, h.1.2.2⟩
          · rw [if_neg (by omega)]
            refine good ?_
            rw [oe, decide_eq_true (show F p = 6 by omega)]
            rfl
      · intro j hj ih2 l4 h4
        obtain ⟨g1, g2⟩ := hF j (by omega)
        have jp : (j : Int) < (p : Int) := by omega
        have j6 : 0 ≤ (j : Int) ∧ (j : Int) < 6 := by omega
        have jm : j < 1000000 := by omega
        refine m_firstBad_67 ?_
        rw [if_pos jp, Int.toNat_natCast, g1, wr_nat jm]
        refine ⟨j6, ?_⟩
        have e3 : chs F p (j + 1) = if F j = p then j else chs F p j := rfl
        have e4 : chs F (F p) (j + 1) = if F j = F p then j else chs F (F p) j := rfl
        rw [e3, e4] at ih2
        by_cases a : F j = p
        · rw [if_pos a] at ih2
          rw [if_pos (by omega)]
          by_cases b : F j = F p
          · rw [if_pos b] at ih2
            have kk := ih2 1 (Or.inr ⟨rfl, fun w => by omega⟩)
            rcases h4 with ⟨h, _⟩ | ⟨h, _⟩
            · rw [if_pos h, if_pos (by omega)]
              exact ⟨j6, kk⟩
            · rw [if_neg (by omega)]; exact kk
          · rw [if_neg b] at ih2
            have kk := ih2 l4 h4
            rcases h4 with ⟨h, _⟩ | ⟨h, _⟩
            · rw [if_pos h, if_neg (by omega)]
              rw [h] at kk
              exact ⟨j6, kk⟩
            · rw [if_neg (by omega)]
              rw [h] at kk
              exact kk
        · rw [if_neg a] at ih2
          rw [if_neg (by omega)]
          by_cases b : F j = F p
          · rw [if_pos b] at ih2
            have kk := ih2 1 (Or.inr ⟨rfl, fun w => by omega⟩)
            rcases h4 with ⟨h, _⟩ | ⟨h, _⟩
            · rw [if_pos h, if_pos (by omega)]
              exact ⟨j6, kk⟩
            · rw [if_neg (by omega)]; exact kk
          · rw [if_neg b] at ih2
            have kk := ih2 l4 h4
            rcases h4 with ⟨h, _⟩ | ⟨h, _⟩
            · rw [if_pos h, if_neg (by omega)]
              rw [h] at kk
              exact ⟨j6, kk⟩
            · rw [if_neg (by omega)]
              rw [h] at kk
              exact kk
    refine m_firstBad_2 ?_
    rw [e0, if_pos (by omega), Int.toNat_natCast, f1]
    refine ⟨by omega, ?_⟩
    refine c_has hg (by omega) ?_
    rw [ri_vi]
    have in1 := fun h => inner 1 (Or.inr ⟨rfl, h⟩)
    by_cases gp : gonM I p = true
    · rw [if_pos (show Nat.testBit (I 104 1).toNat p = true from gp), if_neg (by decide)]
      exact in1 (fun a => by rw [gp] at a; exact absurd a.2.2.1 (by decide))
    · rw [if_neg (show ¬ Nat.testBit (I 104 1).toNat p = true from gp), if_pos rfl]
      by_cases a : F p < N
      · rw [if_pos (by rw [e0]; omega)]
        by_cases b : p < F p
        · rw [if_pos (by omega)]
          refine c_has hg (by omega) ?_
          rw [ri_vi]
          by_cases go : gonM I (F p) = true
          · rw [if_pos (show Nat.testBit (I 104 1).toNat (F p) = true from go), if_neg (by decide)]
            exact in1 (fun a => by rw [go] at a; exact absurd a.2.2.2 (by decide))
          · rw [if_neg (show ¬ Nat.testBit (I 104 1).toNat (F p) = true from go), if_pos rfl]
            exact inner 0 (Or.inl ⟨rfl, b, a, by simpa using gp, by simpa using go⟩)
        · rw [if_neg (by omega)]
          exact in1 (fun w => b w.1)
      · rw [if_neg (by rw [e0]; omega)]
        exact in1 (fun w => a w.2.1)
theorem c_goesOn {n d N M q : Nat} {I : mI} {L : mL} {c : Nat} {K : mK2} (e0 : I 104 0 = (N : Int)) (n6 : N ≤ 6) (hM : M < 7 ^ N) (hq : q ≤ N) (hF : ∀ i, i < N → I 127 i = (dgt N M i : Int))
    (ka : nxN N q M = 7 ^ N → K (some (vi 0)) I L c)
    (kb : ∀ I', eqx [127] I I' → (∀ i, i < N → I' 127 i = (dgt N (nxN N q M) i : Int)) → nxN N q M < 7 ^ N → K (some (vi 1)) I' L c) : C2 n d 182 [vr (some 104), vi ((q : Int) - 1)] I L c K := by
  refine m_goesOn ?_
  have loop : ∀ r, r ≤ q → nxN N r M = nxN N q M → W2 n d 182 2 [some (vr (some 104)), none, some (vi ((r : Int) - 1)), none] [] I L c K := by
    intro r
    induction r with
    | zero =>
      intro _ h
      refine m_goesOn_2 ?_
      rw [if_pos (by omega), if_pos (by omega)]
      refine ka ?_
      rw [← h]
      unfold nxN
      rw [Nat.sub_zero, Nat.div_eq_of_lt hM, Nat.zero_add, Nat.one_mul]
    | succ r ih =>
      intro hr h
      have rN : r < N := by omega
      have fr := hF r rN
      have b6 : 0 ≤ (r : Int) ∧ (r : Int) < 6 := by omega
      have d7 : dgt N M r < 7 := Nat.mod_lt _ (by decide)
      rw [show ((r + 1 : Nat) : Int) - 1 = (r : Int) by omega]
      refine m_goesOn_2 ?_
      rw [if_neg (by omega), Int.toNat_natCast, fr]
      refine ⟨b6, ?_⟩
      by_cases w : dgt N M r = 6
      · rw [if_pos (by omega), wri (by omega)]
        exact ih (by omega) (by rw [← h, nxN_six rN w])
      · rw [if_neg (by omega), if_neg (by omega), wr_nat (show r < 1000000 by omega), wr_nat (show dgt N M r < 1000000 by omega)]
        refine ⟨b6, b6, ?_⟩
        have hd := nxN_dig rN (show dgt N M r < 6 by omega)
        have lt : nxN N (r + 1) M < 7 ^ N := by
          have le := nxN_le (n := N) (q := r + 1) (N := M) (by omega) hM
          by_cases e : nxN N (r + 1) M = 7 ^ N
          · have h1 := hd r rN
            rw [if_neg (by omega), if_pos rfl, e] at h1
            unfold dgt at h1
            rw [show N = (N - 1 - r) + (r + 1) by omega, show N - 1 - r + (r + 1) - 1 - r = N - 1 - r by omega, Nat.pow_add, Nat.mul_div_cancel_left _ (Nat.pow_pos (by decide)), Nat.pow_succ, Nat.mul_mod_left] at h1
            omega
          · omega
        have loop2 := loopN (N := N) (P := fun j => r < j → ∀ I1, eqx [127] I I1 → (∀ i, i < N → i < j → I1 127 i = (dgt N (nxN N (r + 1) M) i : Int)) → W2 n d 182 43 [some (vr (some 104)), none, none, some (vi (j : Int))] [] I1 L c K) ?_ ?_ (r + 1) (by omega)
        · refine loop2 (by omega) _ (eqx_up (eqx_rf _ _) rfl) (fun i hi hj => ?_)
          rw [hd i hi]
          by_cases e : i = r
          · rw [e, if_neg (by omega), if_pos rfl, up2_same]
          · rw [if_pos (by omega), up2_at e]; exact hF i hi
        · intro _ I1 x1 z1
          refine m_goesOn_43 ?_
          rw [x1 104 0 rfl, e0, if_neg (by omega)]
          rw [h] at z1 lt
          exact kb I1 x1 (fun i hi => z1 i hi hi) lt
        · intro j hj ih2 hrj I1 x1 z1
          refine m_goesOn_43 ?_
          rw [x1 104 0 rfl, e0, if_pos (by omega), Int.toNat_natCast, wr_nat (show j < 1000000 by omega)]
          refine ⟨by omega, ih2 (by omega) _ (eqx_up x1 rfl) (fun i hi hij => ?_)⟩
          by_cases e : i = j
          · rw [e, up2_same, hd j hj, if_neg (by omega), if_neg (by omega)]; rfl
          · rw [up2_at e]; exact z1 i hi (by omega)
  exact loop q (Nat.le_refl _) rfl
theorem c_pairsCost {n d N : Nat} {F : Nat → Nat} {J : Nat → Nat → Int} {al : Nat → Int} {I : mI} {L : mL} {c : Nat} {K : mK2} (e0 : I 104 0 = (N : Int)) (n6 : N ≤ 6) (hF : ∀ i, i < N → I 127 i = (F i : Int) ∧ F i < 7) (hal : ∀ p, p < N → I 126 p = al p) (hJ : ∀ p, p < N → ∀ q, q < N → p ≠ q → I 125 (6 * p + q) = J p q) (ba : ∀ p, 0 ≤ al p ∧ al p ≤ 594) (bJ : ∀ p q, 0 ≤ J p q ∧ J p q ≤ 594)
    (k : 0 ≤ sumS (fun p => csp J al (p, F) (F p)) N → K (some (vi (sumS (fun p => csp J al (p, F) (F p)) N))) I L c) : C2 n d 183 [vr (some 104)] I L c K := by
  have cb : ∀ p, 0 ≤ csp J al (p, F) (F p) ∧ csp J al (p, F) (F p) ≤ 594 := by
    intro p
    unfold csp
    show 0 ≤ (if F p = 6 then al p else if F p < p then J p (F p) else 0) ∧ (if F p = 6 then al p else if F p < p then J p (F p) else 0) ≤ 594
    split
    · exact ba p
    · split
      · exact bJ _ _
      · omega
  have sbd : ∀ m, 0 ≤ sumS (fun p => csp J al (p, F) (F p)) m ∧ sumS (fun p => csp J al (p, F) (F p)) m ≤ 594 * (m : Int) := by
    intro m
    induction m with
    | zero => exact ⟨Int.le_refl 0, show (0 : Int) ≤ 594 * ((0 : Nat) : Int) by decide⟩
    | succ m ih =>
      have := cb m
      show 0 ≤ sumS (fun p => csp J al (p, F) (F p)) m + csp J al (m, F) (F m) ∧ sumS (fun p => csp J al (p, F) (F p)) m + csp J al (m, F) (F m) ≤ _
      omega
  refine m_pairsCost ?_
  have loop := loopN (N := N) (P := fun j => W2 n d 183 4 [some (vr (some 104)), some (vi (sumS (fun p => csp J al (p, F) (F p)) j)), some (vi (j : Int))] [] I L c K) ?_ ?_ 0 (Nat.zero_le _)
  · exact loop
  · refine m_pairsCost_4 ?_
    rw [e0, if_neg (by omega)]
    exact k (sbd N).1
  · intro j hj ih
    obtain ⟨f1, f2⟩ := hF j hj
    have b6 : 0 ≤ (j : Int) ∧ (j : Int) < 6 := by omega
    have b1 := sbd j
    have b2 := ba j
    have st : sumS (fun p => csp J al (p, F) (F p)) (j + 1) = sumS (fun p => csp J al (p, F) (F p)) j + (if F j = 6 then al j else if F j < j then J j (F j) else 0) := rfl
    rw [st] at ih
    clear st
    generalize sumS (fun p => csp J al (p, F) (F p)) j = S at *
    refine m_pairsCost_4 ?_
    rw [e0, if_pos (by omega), Int.toNat_natCast, f1, hal j hj, wr_nat (show j < 1000000 by omega)]
    refine ⟨b6, ?_⟩
    by_cases w : F j = 6
    · rw [if_pos (by omega), if_neg (by omega), wri (x := S + al j) (by omega)]
      rw [if_pos w] at ih
      exact ⟨b6, b6, ih⟩
    · rw [if_neg (by omega)]
      rw [if_neg w] at ih
      refine ⟨b6, ?_⟩
      by_cases v : F j < j
      · rw [if_pos v] at ih
        have b3 := bJ j (F j)
        have hc := hJ j hj (F j) (by omega) (by omega)
        have b36 : 0 ≤ ((6 * j + F j : Nat) : Int) ∧ ((6 * j + F j : Nat) : Int) < 36 := by omega
        rw [if_pos (by omega), show wr (wr (6 * (j : Int)) + (F j : Int)) = ((6 * j + F j : Nat) : Int) by rw [wri (x := 6 * (j : Int)) (by omega), wri (by omega)]; omega, Int.toNat_natCast, hc, wri (x := S + J j (F j)) (by omega)]
        exact ⟨b6, b36, ih⟩
      · rw [if_neg v, Int.add_zero] at ih
        rw [if_neg (by omega)]
        exact ih
