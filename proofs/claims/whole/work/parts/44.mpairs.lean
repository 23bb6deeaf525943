/-! ===== pairs: the reference, all rows ===== -/
def dgt (n N i : Nat) : Nat := N / 7 ^ (n - 1 - i) % 7
theorem dg_get : ∀ m r i, r < 7 ^ m → i < m → (dg 7 m r).getD i 0 = r / 7 ^ (m - 1 - i) % 7
  | 0, r, i, h, hi => absurd hi (Nat.not_lt_zero _)
  | m + 1, r, 0, h, hi => by
    show r / 7 ^ m = r / 7 ^ (m + 1 - 1 - 0) % 7
    rw [show m + 1 - 1 - 0 = m by omega, Nat.mod_eq_of_lt]
    rw [Nat.pow_succ] at h
    exact Nat.div_lt_of_lt_mul h
  | m + 1, r, i + 1, h, hi => by
    have hp := Nat.pow_pos (a := 7) (n := m) (by decide)
    have ih := dg_get m (r % 7 ^ m) i (Nat.mod_lt _ hp) (by omega)
    show (dg 7 m (r % 7 ^ m)).getD i 0 = _
    rw [ih, show m + 1 - 1 - (i + 1) = m - 1 - i by omega]
    obtain ⟨k, hk⟩ : ∃ k, m = (m - 1 - i) + 1 + k := ⟨i, by omega⟩
    generalize m - 1 - i = e at *
    have he := Nat.pow_pos (a := 7) (n := e) (by decide)
    have hr := Nat.div_add_mod r (7 ^ m)
    rw [hk] at hr ⊢
    rw [show 7 ^ (e + 1 + k) = 7 ^ e * (7 * 7 ^ k) by rw [Nat.pow_add, Nat.pow_succ, Nat.mul_assoc]] at hr ⊢
    generalize 7 ^ e = E at *
    rw [← hr, Nat.mul_assoc, Nat.mul_add_mod, Nat.mod_mod, Nat.mul_add_div he, Nat.mul_assoc, Nat.mul_add_mod]
theorem vrow_okp {n : Nat} {g : Nat → Bool} (F : Nat → Nat) : ∀ (ds : List Nat) (k : Nat) (f : Nat → Nat), (∀ q, q < k → f q = F q) → (∀ i, i < ds.length → ds.getD i 0 = F (k + i)) → (vrow (okp n g) nxp (k, f) ds = true ↔ ∀ i, i < ds.length → okp n g (k + i, F) (F (k + i)) = true)
  | [], k, f, h1, h2 => by
    refine ⟨fun _ i hi => absurd hi (Nat.not_lt_zero _), fun _ => rfl⟩
  | o :: r, k, f, h1, h2 => by
    have e0 : o = F k := h2 0 (by rw [List.length_cons]; omega)
    have ce : ∀ t, chs f t k = chs F t k := fun t => chs_cg h1
    have oe : okp n g (k, f) o = okp n g (k, F) (F k) := by
      unfold okp
      simp only [ce, e0]
    have ih := vrow_okp (n := n) (g := g) F r (k + 1) (nxp (k, f) o).2 (fun q hq => by
      show (if q = k then o else f q) = F q
      by_cases w : q = k
      · rw [if_pos w, e0, w]
      · rw [if_neg w]; exact h1 q (by omega)) (fun i hi => by
        rw [show k + 1 + i = k + (i + 1) by omega]
        exact h2 (i + 1) (by rw [List.length_cons]; omega))
    rw [show vrow (okp n g) nxp (k, f) (o :: r) = (okp n g (k, f) o && vrow (okp n g) nxp (k + 1, (nxp (k, f) o).2) r) from rfl, Bool.and_eq_true, ih, oe]
    constructor
    · rintro ⟨a, b⟩ i hi
      rcases i with _ | i
      · exact a
      · rw [show k + (i + 1) = k + 1 + i by omega]
        exact b i (by rw [List.length_cons] at hi; omega)
    · intro a
      refine ⟨a 0 (by rw [List.length_cons]; omega), fun i hi => ?_⟩
      rw [show k + 1 + i = k + (i + 1) by omega]
      exact a (i + 1) (by rw [List.length_cons]; omega)
theorem crow_csp {J : Nat → Nat → Int} {al : Nat → Int} (F : Nat → Nat) : ∀ (ds : List Nat) (k : Nat) (f : Nat → Nat), (∀ i, i < ds.length → ds.getD i 0 = F (k + i)) → crow nxp (csp J al) (k, f) ds = sumS (fun i => csp J al (k + i, F) (F (k + i))) ds.length
  | [], k, f, h => rfl
  | o :: r, k, f, h => by
    have e0 : o = F k := h 0 (by rw [List.length_cons]; omega)
    have ih := crow_csp (J := J) (al := al) F r (k + 1) (nxp (k, f) o).2 (fun i hi => by
      rw [show k + 1 + i = k + (i + 1) by omega]
      exact h (i + 1) (by rw [List.length_cons]; omega))
    have sh : ∀ (f : Nat → Int) k, sumS f (k + 1) = f 0 + sumS (fun i => f (i + 1)) k := by
      intro f k
      induction k with
      | zero => show 0 + f 0 = f 0 + 0; omega
      | succ k ih => show sumS f (k + 1) + f (k + 1) = f 0 + (sumS (fun i => f (i + 1)) k + f (k + 1)); rw [ih]; omega
    rw [List.length_cons, sh]
    show csp J al (k, f) o + crow nxp (csp J al) (k + 1, (nxp (k, f) o).2) r = csp J al (k, F) (F k) + _
    rw [ih, e0]
    congr 1
    refine sum_cg (fun i _ => ?_)
    show csp J al (k + 1 + i, F) (F (k + 1 + i)) = csp J al (k + (i + 1), F) (F (k + (i + 1)))
    rw [show k + 1 + i = k + (i + 1) by omega]
/-- the number after one is added at place q - 1 and all behind is nought -/
def nxN (n q N : Nat) : Nat := (N / 7 ^ (n - q) + 1) * 7 ^ (n - q)
theorem nxN_gt (n q N : Nat) : N < nxN n q N := by
  have hp := Nat.pow_pos (a := 7) (n := n - q) (by decide)
  unfold nxN
  have := Nat.div_add_mod N (7 ^ (n - q))
  have := Nat.mod_lt N hp
  rw [Nat.add_mul, Nat.one_mul, Nat.mul_comm]
  omega
theorem nxN_le {n q N : Nat} (hq : q ≤ n) (h : N < 7 ^ n) : nxN n q N ≤ 7 ^ n := by
  unfold nxN
  have e : 7 ^ n = 7 ^ (n - q) * 7 ^ q := by rw [← Nat.pow_add]; congr 1; omega
  have hl : N / 7 ^ (n - q) < 7 ^ q := Nat.div_lt_of_lt_mul (by rw [← e]; exact h)
  rw [e, Nat.mul_comm]
  exact Nat.mul_le_mul_left _ hl
theorem nxN_same {n q N r i : Nat} (h1 : N ≤ r) (h2 : r < nxN n q N) (hi : i < q) (hq : q ≤ n) : dgt n r i = dgt n N i := by
  have hp := Nat.pow_pos (a := 7) (n := n - q) (by decide)
  have e1 : r / 7 ^ (n - q) = N / 7 ^ (n - q) := by
    apply Nat.le_antisymm
    · unfold nxN at h2
      have := Nat.div_lt_of_lt_mul (m := r) (n := 7 ^ (n - q)) (k := N / 7 ^ (n - q) + 1) (by rw [Nat.mul_comm]; exact h2)
      omega
    · exact Nat.div_le_div_right h1
  unfold dgt
  rw [show n - 1 - i = (n - q) + (q - 1 - i) by omega, Nat.pow_add, ← Nat.div_div_eq_div_mul, ← Nat.div_div_eq_div_mul, e1]
theorem nxN_six {n q N : Nat} (hq : q < n) (h : dgt n N q = 6) : nxN n (q + 1) N = nxN n q N := by
  unfold nxN
  unfold dgt at h
  rw [show n - 1 - q = n - (q + 1) by omega] at h
  rw [show n - q = n - (q + 1) + 1 by omega, Nat.pow_succ, ← Nat.div_div_eq_div_mul]
  generalize N / 7 ^ (n - (q + 1)) = M at *
  rw [Nat.mul_comm (7 ^ (n - (q + 1))) 7, ← Nat.mul_assoc]
  congr 1
  omega
theorem nxN_dig {n q N : Nat} (hq : q < n) (h : dgt n N q < 6) (i : Nat) (hi : i < n) : dgt n (nxN n (q + 1) N) i = if i < q then dgt n N i else if i = q then dgt n N q + 1 else 0 := by
  unfold dgt at h ⊢
  unfold nxN
  rw [show n - 1 - q = n - (q + 1) by omega] at h ⊢
  have hp := Nat.pow_pos (a := 7) (n := n - (q + 1)) (by decide)
  by_cases w : i < q
  · rw [if_pos w, show n - 1 - i = n - (q + 1) + (1 + (q - 1 - i)) by omega, Nat.pow_add, ← Nat.div_div_eq_div_mul, ← Nat.div_div_eq_div_mul, Nat.mul_div_cancel _ hp, Nat.pow_add, Nat.pow_one, ← Nat.div_div_eq_div_mul, ← Nat.div_div_eq_div_mul]
    congr 2
    omega
  · rw [if_neg w]
    by_cases v : i = q
    · rw [if_pos v, v, show n - 1 - q = n - (q + 1) by omega, Nat.mul_div_cancel _ hp]
      omega
    · rw [if_neg v]
      have e : n - (q + 1) = (n - 1 - i) + 1 + (i - q - 1) := by omega
      have hp2 := Nat.pow_pos (a := 7) (n := n - 1 - i) (by decide)
      have e2 : (N / 7 ^ (n - (q + 1)) + 1) * 7 ^ (n - (q + 1)) = 7 ^ (n - 1 - i) * (7 * (7 ^ (i - q - 1) * (N / 7 ^ (n - (q + 1)) + 1))) := by
        generalize N / 7 ^ (n - (q + 1)) = M at *
        rw [e, Nat.pow_add, Nat.pow_succ, Nat.mul_comm, Nat.mul_assoc, Nat.mul_assoc]
      rw [e2, Nat.mul_div_cancel_left _ hp2]
      exact Nat.mul_mod_right _ _
