/-! ===== pairs: rows of partners, told one by one ===== -/
/-- the last of the first k who chose t; 6: none -/
def chs (f : Nat → Nat) (t : Nat) : Nat → Nat
  | 0 => 6
  | q + 1 => if f q = t then q else chs f t q
theorem chs_cg {f f' : Nat → Nat} {t : Nat} : ∀ {k : Nat}, (∀ q, q < k → f q = f' q) → chs f t k = chs f' t k
  | 0, _ => rfl
  | k + 1, h => by unfold chs; rw [h k (by omega), chs_cg (fun q hq => h q (by omega))]
theorem chs_lt {f : Nat → Nat} {t : Nat} : ∀ {k : Nat}, chs f t k < 6 → chs f t k < k
  | 0, h => absurd h (by unfold chs; omega)
  | k + 1, h => by
    unfold chs at h ⊢
    by_cases w : f k = t
    · rw [if_pos w]; omega
    · rw [if_neg w] at h ⊢
      have := chs_lt h
      omega
theorem chs_le {f : Nat → Nat} {t : Nat} : ∀ {k : Nat}, k ≤ 6 → chs f t k ≤ 6
  | 0, _ => Nat.le_refl _
  | k + 1, h => by
    unfold chs
    split
    · omega
    · exact chs_le (by omega)
abbrev pS : Type := Nat × (Nat → Nat)
def okp (n : Nat) (g : Nat → Bool) (s : pS) (o : Nat) : Bool :=
  if chs s.2 s.1 s.1 < 6 then decide (o = chs s.2 s.1 s.1)
  else decide (o = 6) || (decide (s.1 < o ∧ o < n ∧ ¬ chs s.2 o s.1 < 6) && (!(g s.1) && !(g o)))
def nxp (s : pS) (o : Nat) : pS := (s.1 + 1, fun q => if q = s.1 then o else s.2 q)
def csp (J : Nat → Nat → Int) (al : Nat → Int) (s : pS) (o : Nat) : Int := if o = 6 then al s.1 else if o < s.1 then J s.1 o else 0
theorem chs_nx (k : Nat) (f : Nat → Nat) (o t : Nat) : chs (nxp (k, f) o).2 t (k + 1) = if o = t then k else chs f t k := by
  show (if (if k = k then o else f k) = t then k else chs (fun q => if q = k then o else f q) t k) = _
  rw [if_pos rfl, chs_cg (f := fun q => if q = k then o else f q) (f' := f) (fun q hq => if_neg (by omega))]
theorem chs_ne (k : Nat) (f : Nat → Nat) {o t : Nat} (h : ¬ o = t) : chs (nxp (k, f) o).2 t (k + 1) = chs f t k := by rw [chs_nx, if_neg h]
theorem chs_sm (k : Nat) (f : Nat → Nat) (t : Nat) : chs (nxp (k, f) t).2 t (k + 1) = k := by rw [chs_nx, if_pos rfl]
def oth (one o : Nat) : Nat := if o = 6 then one else o
def cnd (T : Nat → Int) (J : Nat → Nat → Int) (put one o : Nat) : Option (Int × Nat) := if o = 6 ∨ (one < o ∧ o < 6 ∧ Nat.testBit put o = false) then some (J one (oth one o) + T (sb (sb put one) (oth one o)), o) else none
def bst (T : Nat → Int) (J : Nat → Nat → Int) (put one : Nat) : Nat := match fo (cnd T J put one) 7 with
  | none => 6
  | some q => q.2
def rwp (T : Nat → Int) (J : Nat → Nat → Int) : Nat → pS → Nat → List Nat
  | 0, _, _ => []
  | m + 1, s, put => if Nat.testBit put s.1 = true then
      (if chs s.2 s.1 s.1 < 6 then chs s.2 s.1 s.1 else 6) :: rwp T J m (nxp s (if chs s.2 s.1 s.1 < 6 then chs s.2 s.1 s.1 else 6)) put
    else bst T J put s.1 :: rwp T J m (nxp s (bst T J put s.1)) (sb (sb put s.1) (oth s.1 (bst T J put s.1)))
def MK (n : Nat) (g : Nat → Bool) (k : Nat) (f : Nat → Nat) (put : Nat) : Prop := ∀ t, t < 6 → (Nat.testBit put t = true ↔ n ≤ t ∨ g t = true ∨ t < k ∨ chs f t k < 6)
def VP (n : Nat) (g : Nat → Bool) (k : Nat) (f : Nat → Nat) : Prop := ∀ t, k ≤ t → t < 6 → chs f t k < 6 → t < n ∧ g t = false
def pend (n : Nat) (J : Nat → Nat → Int) (k : Nat) (f : Nat → Nat) : Int := sumS (fun t => if k ≤ t ∧ chs f t k < 6 then J t (chs f t k) else 0) n
def isff (put one : Nat) : Prop := one < 6 ∧ Nat.testBit put one = false ∧ ∀ t, t < one → Nat.testBit put t = true
/-- the table of the least is right at all sets that hold those out -/
def tabS (n : Nat) (g : Nat → Bool) (J : Nat → Nat → Int) (T : Nat → Int) (lo : Nat) : Prop := T 63 = 0 ∧ ∀ put, lo ≤ put → put < 63 → (∀ t, t < 6 → n ≤ t ∨ g t = true → Nat.testBit put t = true) → ∀ one, isff put one → ∃ B, fo (cnd T J put one) 7 = some (T put, B)
theorem sum_one {f h : Nat → Int} {a : Nat} : ∀ {n : Nat}, a < n → (∀ i, i < n → i ≠ a → f i = h i) → sumS f n + h a = sumS h n + f a
  | 0, ha, _ => absurd ha (Nat.not_lt_zero _)
  | n + 1, ha, e => by
    show sumS f n + f n + h a = sumS h n + h n + f a
    by_cases w : a = n
    · subst w
      rw [sum_cg (fun i hi => e i (by omega) (by omega))]
      omega
    · have ih := sum_one (n := n) (by omega) (fun i hi => e i (by omega))
      rw [e n (by omega) (by omega)]
      omega
theorem fo_one {α : Type} {f : Nat → Option (Int × α)} {a : Nat} : ∀ {k : Nat}, a < k → (∀ i, i < k → i ≠ a → f i = none) → fo f k = f a
  | 0, ha, _ => absurd ha (Nat.not_lt_zero _)
  | k + 1, ha, e => by
    show bet (fo f k) (f k) = f a
    by_cases w : a = k
    · rw [fo_none (fun i hi => e i (by omega) (by omega)), w]; rfl
    · rw [e k (by omega) (by omega), bet_none, fo_one (by omega) (fun i hi => e i (by omega))]
theorem sb_lt {s w : Nat} (hs : s < 64) (hw : w < 6) : sb s w < 64 := (sb_all ⟨s, hs⟩ ⟨w, hw⟩).2.1
theorem full63 : ∀ s : Fin 64, (∀ t : Fin 6, Nat.testBit s.val t.val = true) → s.val = 63 := by decide +kernel
theorem cnd_q {T : Nat → Int} {J : Nat → Nat → Int} {put one : Nat} {q : Int × Nat} (h : fo (cnd T J put one) 7 = some q) : (q.2 = 6 ∨ (one < q.2 ∧ q.2 < 6 ∧ Nat.testBit put q.2 = false)) ∧ q.1 = J one (oth one q.2) + T (sb (sb put one) (oth one q.2)) := by
  obtain ⟨i, _, e⟩ := fo_mem h
  unfold cnd at e
  by_cases w : i = 6 ∨ (one < i ∧ i < 6 ∧ Nat.testBit put i = false)
  · rw [if_pos w] at e
    cases e
    exact ⟨w, rfl⟩
  · rw [if_neg w] at e; cases e
theorem oth_lt {one o : Nat} {P : Prop} (h1 : one < 6) (h : o = 6 ∨ (one < o ∧ o < 6 ∧ P)) : oth one o < 6 := by
  unfold oth
  split
  · exact h1
  · omega
theorem bst_q (T : Nat → Int) (J : Nat → Nat → Int) (put one : Nat) : bst T J put one = 6 ∨ (one < bst T J put one ∧ bst T J put one < 6 ∧ Nat.testBit put (bst T J put one) = false) := by
  unfold bst
  cases h : fo (cnd T J put one) 7 with
  | none => exact Or.inl rfl
  | some q => exact (cnd_q h).1
section
variable {n : Nat} {g : Nat → Bool}
theorem MK_ff {k : Nat} {f : Nat → Nat} {put : Nat} (n6 : n ≤ 6) (hk : k < n) (hmk : MK n g k f put) (hb : Nat.testBit put k = false) : isff put k :=
  ⟨by omega, hb, fun t ht => (hmk t (by omega)).mpr (Or.inr (Or.inr (Or.inl ht)))⟩
/-- one who is put already: nothing is chosen -/
theorem st_put {k : Nat} {f : Nat → Nat} {put : Nat} (n6 : n ≤ 6) (hk : k < n) (hmk : MK n g k f put) (vp : VP n g k f) (hb : Nat.testBit put k = true) :
    MK n g (k + 1) (nxp (k, f) (if chs f k k < 6 then chs f k k else 6)).2 put ∧ VP n g (k + 1) (nxp (k, f) (if chs f k k < 6 then chs f k k else 6)).2 ∧ ∀ t, k < t → t < 6 → chs (nxp (k, f) (if chs f k k < 6 then chs f k k else 6)).2 t (k + 1) = chs f t k := by
  have key : ∀ t, k < t → t < 6 → chs (nxp (k, f) (if chs f k k < 6 then chs f k k else 6)).2 t (k + 1) = chs f t k := by
    intro t h1 h2
    rw [chs_nx, if_neg]
    split
    · next w => have := chs_lt w; omega
    · omega
  refine ⟨?_, ?_, key⟩
  · intro t ht
    by_cases w : t ≤ k
    · constructor
      · intro _; exact Or.inr (Or.inr (Or.inl (by omega)))
      · intro _
        by_cases e : t = k
        · rw [e]; exact hb
        · exact (hmk t ht).mpr (Or.inr (Or.inr (Or.inl (by omega))))
    · rw [key t (by omega) ht, hmk t ht]
      constructor
      · rintro (a | a | a | a)
        · exact Or.inl a
        · exact Or.inr (Or.inl a)
        · omega
        · exact Or.inr (Or.inr (Or.inr a))
      · rintro (a | a | a | a)
        · exact Or.inl a
        · exact Or.inr (Or.inl a)
        · omega
        · exact Or.inr (Or.inr (Or.inr a))
  · intro t h1 h2 h3
    rw [key t (by omega) h2] at h3
    exact vp t (by omega) h2 h3
/-- one who is free chooses o -/
theorem st_free {k : Nat} {f : Nat → Nat} {put o : Nat} (n6 : n ≤ 6) (hk : k < n) (hp : put < 64) (hmk : MK n g k f put) (vp : VP n g k f) (hb : Nat.testBit put k = false) (ho : o = 6 ∨ (k < o ∧ o < 6 ∧ Nat.testBit put o = false)) :
    MK n g (k + 1) (nxp (k, f) o).2 (sb (sb put k) (oth k o)) ∧ VP n g (k + 1) (nxp (k, f) o).2 := by
  have k6 : k < 6 := by omega
  have o6 : oth k o < 6 := oth_lt k6 ho
  have free : o ≠ 6 → o < n ∧ g o = false ∧ ¬ chs f o k < 6 := by
    intro h
    have h' : k < o ∧ o < 6 ∧ Nat.testBit put o = false := by
      rcases ho with a | a
      · exact absurd a h
      · exact a
    have hm := hmk o h'.2.1
    rw [h'.2.2] at hm
    have hm' : ¬ (n ≤ o ∨ g o = true ∨ o < k ∨ chs f o k < 6) := fun w => by cases hm.mpr w
    refine ⟨by omega, ?_, fun w => hm' (Or.inr (Or.inr (Or.inr w)))⟩
    cases w : g o with
    | false => rfl
    | true => exact absurd (Or.inr (Or.inl w)) hm'
  refine ⟨?_, ?_⟩
  · intro t ht
    rw [sb_bit (sb_lt hp k6) o6, sb_bit hp k6, chs_nx]
    by_cases e1 : t = oth k o
    · rw [if_pos e1]
      refine ⟨fun _ => ?_, fun _ => rfl⟩
      unfold oth at e1
      by_cases e2 : o = 6
      · rw [if_pos e2] at e1; exact Or.inr (Or.inr (Or.inl (by omega)))
      · rw [if_neg e2] at e1
        rw [if_pos e1.symm]; exact Or.inr (Or.inr (Or.inr k6))
    · rw [if_neg e1]
      by_cases e2 : t = k
      · rw [if_pos e2]; exact ⟨fun _ => Or.inr (Or.inr (Or.inl (by omega))), fun _ => rfl⟩
      · have ne : ¬ o = t := by
          unfold oth at e1
          by_cases e3 : o = 6
          · omega
          · rw [if_neg e3] at e1; omega
        rw [if_neg e2, if_neg ne, hmk t ht]
        constructor
        · rintro (a | a | a | a)
          · exact Or.inl a
          · exact Or.inr (Or.inl a)
          · exact Or.inr (Or.inr (Or.inl (by omega)))
          · exact Or.inr (Or.inr (Or.inr a))
        · rintro (a | a | a | a)
          · exact Or.inl a
          · exact Or.inr (Or.inl a)
          · exact Or.inr (Or.inr (Or.inl (by omega)))
          · exact Or.inr (Or.inr (Or.inr a))
  · intro t h1 h2 h3
    rw [chs_nx] at h3
    by_cases e : o = t
    · have := free (by omega)
      rw [e] at this
      exact ⟨this.1, this.2.1⟩
    · rw [if_neg e] at h3
      exact vp t (by omega) h2 h3
theorem pair_tree {J : Nat → Nat → Int} {al : Nat → Int} {T : Nat → Int} (n6 : n ≤ 6) (sym : ∀ p q, J p q = J q p) (ha0 : ∀ p, p < n → g p = true → al p = 0) (ha1 : ∀ p, p < n → g p = false → al p = J p p) (hT : tabS n g J T 0) :
    ∀ m k f put, k + m = n → put < 64 → MK n g k f put → VP n g k f → tree (okp n g) nxp (csp J al) 7 m (k, f) = some (pend n J k f + T put, rwp T J m (k, f) put)
  | 0, k, f, put, hk, hp, hmk, vp => by
    have e63 : put = 63 := full63 ⟨put, hp⟩ (fun t => (hmk t.val t.isLt).mpr (by
      by_cases w : t.val < k
      · exact Or.inr (Or.inr (Or.inl w))
      · exact Or.inl (by omega)))
    have p0 : pend n J k f = 0 := by
      unfold pend
      rw [sum_cg (g := fun _ => 0) (fun i hi => if_neg (by omega))]
      have z : ∀ m, sumS (fun _ => 0) m = 0 := by
        intro m
        induction m with
        | zero => rfl
        | succ m ih => show sumS (fun _ => 0) m + 0 = 0; rw [ih]; rfl
      exact z n
    rw [p0, e63, hT.1]
    rfl
  | m + 1, k, f, put, hk, hp, hmk, vp => by
    have kn : k < n := by omega
    unfold tree
    show fo (fun o => if okp n g (k, f) o = true then mp (csp J al (k, f) o) (fun l => o :: l) (tree (okp n g) nxp (csp J al) 7 m (nxp (k, f) o)) else none) 7 = some (pend n J k f + T put, if Nat.testBit put k = true then (if chs f k k < 6 then chs f k k else 6) :: rwp T J m (nxp (k, f) (if chs f k k < 6 then chs f k k else 6)) put else bst T J put k :: rwp T J m (nxp (k, f) (bst T J put k)) (sb (sb put k) (oth k (bst T J put k))))
    by_cases hb : Nat.testBit put k = true
    · rw [if_pos hb]
      obtain ⟨hmk', vp', key⟩ := st_put n6 kn hmk vp hb
      generalize ec : (if chs f k k < 6 then chs f k k else 6) = c at *
      have ih := pair_tree n6 sym ha0 ha1 hT m (k + 1) (nxp (k, f) c).2 put (by omega) hp hmk' vp'
      have c7 : c < 7 := by rw [← ec]; split <;> omega
      have okc : ∀ o, okp n g (k, f) o = decide (o = c) := by
        intro o
        unfold okp
        show (if chs f k k < 6 then decide (o = chs f k k) else decide (o = 6) || (decide (k < o ∧ o < n ∧ ¬ chs f o k < 6) && (!(g k) && !(g o)))) = _
        by_cases w : chs f k k < 6
        · rw [if_pos w] at ec ⊢; rw [ec]
        · rw [if_neg w] at ec ⊢
          have gk : g k = true := by
            rcases (hmk k (by omega)).mp hb with a | a | a | a
            · omega
            · exact a
            · omega
            · exact absurd a w
          rw [gk, ← ec]
          simp
      rw [fo_one (a := c) c7 (fun i _ hi => by rw [okc, if_neg (by simp [hi])]), okc, if_pos (by simp)]
      show mp (csp J al (k, f) c) (fun l => c :: l) (tree (okp n g) nxp (csp J al) 7 m (k + 1, (nxp (k, f) c).2)) = _
      rw [ih]
      have pe : csp J al (k, f) c + pend n J (k + 1) (nxp (k, f) c).2 = pend n J k f := by
        have so := sum_one (n := n) (a := k) (f := fun t => if k ≤ t ∧ chs f t k < 6 then J t (chs f t k) else 0) (h := fun t => if k + 1 ≤ t ∧ chs (nxp (k, f) c).2 t (k + 1) < 6 then J t (chs (nxp (k, f) c).2 t (k + 1)) else 0) kn (fun i h1 h2 => by
          by_cases w : k < i
          · simp only [key i w (by omega)]
            by_cases v : chs f i k < 6
            · rw [if_pos ⟨by omega, v⟩, if_pos ⟨by omega, v⟩]
            · rw [if_neg (fun a => v a.2), if_neg (fun a => v a.2)]
          · rw [if_neg (by omega), if_neg (by omega)])
        simp only [show ¬ (k + 1 ≤ k ∧ chs (nxp (k, f) c).2 k (k + 1) < 6) from fun a => by omega, if_false] at so
        unfold pend
        unfold csp
        show (if c = 6 then al k else if c < k then J k c else 0) + _ = _
        by_cases w : chs f k k < 6
        · have hl := chs_lt w
          rw [if_pos w] at ec
          rw [if_pos ⟨Nat.le_refl _, w⟩, ec] at so
          rw [if_neg (by omega), if_pos (by omega)]
          omega
        · rw [if_neg w] at ec
          rw [if_neg (fun a => w a.2)] at so
          have gk : g k = true := by
            rcases (hmk k (by omega)).mp hb with a | a | a | a
            · omega
            · exact a
            · omega
            · exact absurd a w
          rw [if_pos ec.symm, ha0 k kn gk]
          omega
      show some (csp J al (k, f) c + (pend n J (k + 1) (nxp (k, f) c).2 + T put), c :: rwp T J m (nxp (k, f) c) put) = _
      rw [← Int.add_assoc, pe]
    · rw [if_neg hb]
      have hb' : Nat.testBit put k = false := by
        cases h : Nat.testBit put k with
        | false => rfl
        | true => exact absurd h hb
      have hm := hmk k (by omega)
      rw [hb'] at hm
      have hm' : ¬ (n ≤ k ∨ g k = true ∨ k < k ∨ chs f k k < 6) := fun w => by cases hm.mpr w
      have gk : g k = false := by
        cases w : g k with
        | false => rfl
        | true => exact absurd (Or.inr (Or.inl w)) hm'
      have ck : ¬ chs f k k < 6 := fun w => hm' (Or.inr (Or.inr (Or.inr w)))
      have each : ∀ o, o < 7 → (fun o => if okp n g (k, f) o = true then mp (csp J al (k, f) o) (fun l => o :: l) (tree (okp n g) nxp (csp J al) 7 m (nxp (k, f) o)) else none) o = (fun o => mp (pend n J k f) (fun o => o :: rwp T J m (nxp (k, f) o) (sb (sb put k) (oth k o))) (cnd T J put k o)) o := by
        intro o o7
        have oke : okp n g (k, f) o = decide (o = 6 ∨ (k < o ∧ o < 6 ∧ Nat.testBit put o = false)) := by
          unfold okp
          show (if chs f k k < 6 then decide (o = chs f k k) else decide (o = 6) || (decide (k < o ∧ o < n ∧ ¬ chs f o k < 6) && (!(g k) && !(g o)))) = _
          rw [if_neg ck, gk]
          by_cases e6 : o = 6
          · simp [e6]
          · have mo := hmk o (by omega)
            rw [Bool.eq_iff_iff, decide_eq_true_eq, Bool.or_eq_true, decide_eq_true_eq, Bool.and_eq_true, decide_eq_true_eq]
            constructor
            · rintro (a | ⟨⟨a1, a2, a3⟩, a4⟩)
              · exact Or.inl a
              · refine Or.inr ⟨a1, by omega, ?_⟩
                cases h : Nat.testBit put o with
                | false => rfl
                | true =>
                  rcases mo.mp h with b | b | b | b
                  · omega
                  · rw [b] at a4; cases a4
                  · omega
                  · exact absurd b a3
            · rintro (a | ⟨a1, a2, a3⟩)
              · exact Or.inl a
              · rw [a3] at mo
                have mo' : ¬ (n ≤ o ∨ g o = true ∨ o < k ∨ chs f o k < 6) := fun w => by cases mo.mpr w
                have go : g o = false := by
                  cases w : g o with
                  | false => rfl
                  | true => exact absurd (Or.inr (Or.inl w)) mo'
                refine Or.inr ⟨⟨a1, by omega, fun w => mo' (Or.inr (Or.inr (Or.inr w)))⟩, ?_⟩
                rw [go]; rfl
        show (if okp n g (k, f) o = true then mp (csp J al (k, f) o) (fun l => o :: l) (tree (okp n g) nxp (csp J al) 7 m (k + 1, (nxp (k, f) o).2)) else none) = mp (pend n J k f) (fun o => o :: rwp T J m (nxp (k, f) o) (sb (sb put k) (oth k o))) (cnd T J put k o)
        rw [oke]
        unfold cnd
        by_cases ho : o = 6 ∨ (k < o ∧ o < 6 ∧ Nat.testBit put o = false)
        · rw [decide_eq_true ho, if_pos rfl, if_pos ho]
          obtain ⟨hmk', vp'⟩ := st_free n6 kn hp hmk vp hb' ho
          have k6 : k < 6 := by omega
          rw [pair_tree n6 sym ha0 ha1 hT m (k + 1) (nxp (k, f) o).2 _ (by omega) (sb_lt (sb_lt hp k6) (oth_lt k6 ho)) hmk' vp']
          have pe : csp J al (k, f) o + pend n J (k + 1) (nxp (k, f) o).2 = pend n J k f + J k (oth k o) := by
            unfold csp
            show (if o = 6 then al k else if o < k then J k o else 0) + _ = _
            by_cases e6 : o = 6
            · rw [if_pos e6, show oth k o = k from if_pos e6, ha1 k kn gk]
              have : pend n J (k + 1) (nxp (k, f) o).2 = pend n J k f := by
                unfold pend
                refine sum_cg (fun i hi => ?_)
                rw [chs_ne k f (show ¬ o = i by omega)]
                by_cases w : i = k
                · rw [if_neg (by omega), if_neg (fun a => ck (by rw [w] at a; exact a.2))]
                · by_cases v : k + 1 ≤ i ∧ chs f i k < 6
                  · rw [if_pos v, if_pos ⟨by omega, v.2⟩]
                  · rw [if_neg v, if_neg (fun a => v ⟨by omega, a.2⟩)]
              rw [this]; omega
            · have ho' : k < o ∧ o < 6 ∧ Nat.testBit put o = false := by
                rcases ho with a | a
                · exact absurd a e6
                · exact a
              have mo := hmk o ho'.2.1
              rw [ho'.2.2] at mo
              have mo' : ¬ (n ≤ o ∨ g o = true ∨ o < k ∨ chs f o k < 6) := fun w => by cases mo.mpr w
              have co : ¬ chs f o k < 6 := fun w => mo' (Or.inr (Or.inr (Or.inr w)))
              rw [if_neg e6, if_neg (by omega), show oth k o = o from if_neg e6]
              have so := sum_one (n := n) (a := o) (f := fun t => if k ≤ t ∧ chs f t k < 6 then J t (chs f t k) else 0) (h := fun t => if k + 1 ≤ t ∧ chs (nxp (k, f) o).2 t (k + 1) < 6 then J t (chs (nxp (k, f) o).2 t (k + 1)) else 0) (by omega) (fun i h1 h2 => by
                simp only [chs_ne k f (show ¬ o = i by omega)]
                by_cases w : i = k
                · rw [if_neg (fun a => ck (by rw [w] at a; exact a.2)), if_neg (by omega)]
                · by_cases v : k + 1 ≤ i ∧ chs f i k < 6
                  · rw [if_pos v, if_pos ⟨by omega, v.2⟩]
                  · rw [if_neg v, if_neg (fun a => v ⟨by omega, a.2⟩)])
              simp only [chs_sm] at so
              rw [if_pos ⟨by omega, k6⟩, if_neg (fun a => co a.2)] at so
              unfold pend
              rw [sym k o]
              omega
          show some (csp J al (k, f) o + (pend n J (k + 1) (nxp (k, f) o).2 + T (sb (sb put k) (oth k o))), o :: rwp T J m (nxp (k, f) o) (sb (sb put k) (oth k o))) = some (pend n J k f + (J k (oth k o) + T (sb (sb put k) (oth k o))), o :: rwp T J m (nxp (k, f) o) (sb (sb put k) (oth k o)))
          rw [← Int.add_assoc, pe, Int.add_assoc]
        · rw [decide_eq_false ho, if_neg (by decide), if_neg ho]
          rfl
      have p63 : put < 63 := by
        by_cases w : put = 63
        · have : ∀ t : Fin 6, Nat.testBit 63 t.val = true := by decide
          rw [w, this ⟨k, by omega⟩] at hb'; cases hb'
        · omega
      obtain ⟨B, hB⟩ := hT.2 put (Nat.zero_le _) p63 (fun t ht h => (hmk t ht).mpr (by rcases h with a | a; exact Or.inl a; exact Or.inr (Or.inl a))) k (MK_ff n6 kn hmk hb')
      rw [fo_cg each, fo_mp, hB]
      have eB : bst T J put k = B := by unfold bst; rw [hB]
      rw [eB]
      rfl
/-- those who are put already have their place in the row -/
theorem rw_fix {J : Nat → Nat → Int} {T : Nat → Int} (n6 : n ≤ 6) : ∀ m k f put, k + m = n → put < 64 → MK n g k f put → VP n g k f → ∀ t, k ≤ t → t < n → Nat.testBit put t = true → (rwp T J m (k, f) put).getD (t - k) 6 = if chs f t k < 6 then chs f t k else 6
  | 0, k, f, put, hk, hp, hmk, vp, t, h1, h2, h3 => by omega
  | m + 1, k, f, put, hk, hp, hmk, vp, t, h1, h2, h3 => by
    have kn : k < n := by omega
    unfold rwp
    show (if Nat.testBit put k = true then (if chs f k k < 6 then chs f k k else 6) :: rwp T J m (nxp (k, f) (if chs f k k < 6 then chs f k k else 6)) put else bst T J put k :: rwp T J m (nxp (k, f) (bst T J put k)) (sb (sb put k) (oth k (bst T J put k)))).getD (t - k) 6 = _
    by_cases hb : Nat.testBit put k = true
    · rw [if_pos hb]
      obtain ⟨hmk', vp', key⟩ := st_put n6 kn hmk vp hb
      by_cases e : t = k
      · rw [e, Nat.sub_self]; rfl
      · have ih := rw_fix (J := J) (T := T) n6 m (k + 1) _ put (by omega) hp hmk' vp' t (by omega) h2 h3
        rw [key t (by omega) (by omega)] at ih
        rw [show t - k = (t - (k + 1)) + 1 by omega]
        exact ih
    · rw [if_neg hb]
      have hb' : Nat.testBit put k = false := by
        cases h : Nat.testBit put k with
        | false => rfl
        | true => exact absurd h hb
      have q := bst_q T J put k
      have k6 : k < 6 := by omega
      obtain ⟨hmk', vp'⟩ := st_free n6 kn hp hmk vp hb' q
      have e : t ≠ k := fun e => by rw [e, hb'] at h3; cases h3
      have ih := rw_fix (J := J) (T := T) n6 m (k + 1) _ _ (by omega) (sb_lt (sb_lt hp k6) (oth_lt k6 q)) hmk' vp' t (by omega) h2 ?_
      · rw [chs_ne k f (show ¬ bst T J put k = t from fun w => by
          rw [w] at q
          rcases q with a | ⟨_, _, a⟩
          · omega
          · rw [h3] at a; cases a)] at ih
        rw [show t - k = (t - (k + 1)) + 1 by omega]
        exact ih
      · rw [sb_bit (sb_lt hp k6) (oth_lt k6 q), sb_bit hp k6, if_neg e]
        split
        · rfl
        · exact h3
end
