/-! ===== the class: all in a line ===== -/
theorem fo_mem {α : Type} {f : Nat → Option (Int × α)} {q : Int × α} : ∀ {k : Nat}, fo f k = some q → ∃ i, i < k ∧ f i = some q
  | 0, h => by cases h
  | k + 1, h => by
    have h' : bet (fo f k) (f k) = some q := h
    cases h1 : fo f k with
    | none =>
      rw [h1] at h'
      exact ⟨k, by omega, h'⟩
    | some x =>
      cases h2 : f k with
      | none =>
        rw [h2, bet_none, h1] at h'
        obtain ⟨i, hi, e⟩ := fo_mem (h1.trans h')
        exact ⟨i, by omega, e⟩
      | some y =>
        rw [h1, h2] at h'
        have h3 : (if y.1 < x.1 then some y else some x) = some q := h'
        by_cases w : y.1 < x.1
        · rw [if_pos w] at h3
          exact ⟨k, by omega, h2.trans h3⟩
        · rw [if_neg w] at h3
          obtain ⟨i, hi, e⟩ := fo_mem (h1.trans h3)
          exact ⟨i, by omega, e⟩
theorem fo_up {α : Type} {f : Nat → Option (Int × α)} {a : Nat} : ∀ b, (∀ i, a ≤ i → i < a + b → f i = none) → fo f (a + b) = fo f a
  | 0, _ => rfl
  | b + 1, h => by
    show bet (fo f (a + b)) (f (a + b)) = fo f a
    rw [h (a + b) (by omega) (by omega), bet_none, fo_up b (fun i h1 h2 => h i h1 (by omega))]
theorem fo_some {α : Type} {f : Nat → Option (Int × α)} {i : Nat} : ∀ {k : Nat}, i < k → f i ≠ none → fo f k ≠ none
  | 0, h, _ => absurd h (Nat.not_lt_zero _)
  | k + 1, h, hf => by
    show bet (fo f k) (f k) ≠ none
    by_cases w : i < k
    · have := fo_some (k := k) w hf
      cases h1 : fo f k with
      | none => exact absurd h1 this
      | some x =>
        cases h2 : f k with
        | none => exact fun e => by cases e
        | some y =>
          show (if y.1 < x.1 then some y else some x) ≠ none
          split <;> exact fun e => by cases e
    · obtain rfl : i = k := by omega
      cases h2 : f i with
      | none => exact absurd h2 hf
      | some y =>
        cases h1 : fo f i with
        | none => exact fun e => by cases e
        | some x =>
          show (if y.1 < x.1 then some y else some x) ≠ none
          split <;> exact fun e => by cases e
/-- those of the first k who are not g -/
def whL (g : Nat → Bool) : Nat → List Nat
  | 0 => []
  | k + 1 => if g k = true then whL g k else whL g k ++ [k]
theorem whL_len (g : Nat → Bool) : ∀ k, (whL g k).length ≤ k
  | 0 => Nat.le_refl _
  | k + 1 => by
    have := whL_len g k
    unfold whL
    split
    · omega
    · rw [List.length_append, List.length_singleton]; omega
theorem whL_mem (g : Nat → Bool) : ∀ k x, x ∈ whL g k ↔ x < k ∧ g x = false
  | 0, x => by simp [whL]
  | k + 1, x => by
    unfold whL
    by_cases h : g k = true
    · rw [if_pos h, whL_mem g k x]
      constructor
      · rintro ⟨a, b⟩; exact ⟨by omega, b⟩
      · rintro ⟨a, b⟩
        refine ⟨?_, b⟩
        by_cases e : x = k
        · subst e; rw [h] at b; cases b
        · omega
    · rw [if_neg h, List.mem_append, List.mem_singleton, whL_mem g k x]
      constructor
      · rintro (⟨a, b⟩ | rfl)
        · exact ⟨by omega, b⟩
        · exact ⟨by omega, Bool.eq_false_iff.mpr h⟩
      · rintro ⟨a, b⟩
        by_cases e : x = k
        · exact Or.inr e
        · exact Or.inl ⟨by omega, b⟩
theorem whL_nodup (g : Nat → Bool) : ∀ k, (whL g k).Nodup
  | 0 => List.nodup_nil
  | k + 1 => by
    unfold whL
    split
    · exact whL_nodup g k
    · rw [List.nodup_append]
      refine ⟨whL_nodup g k, by simp, ?_⟩
      intro a ha b hb
      rw [List.mem_singleton] at hb
      have := ((whL_mem g k a).mp ha).1
      omega
theorem getD_mem {l : List Nat} {w : Nat} (h : w < l.length) : l.getD w 0 ∈ l := by
  rw [List.getD_eq_getElem?_getD, List.getElem?_eq_getElem h]
  exact List.getElem_mem h
theorem getD_inj {l : List Nat} (hn : l.Nodup) {a b : Nat} (ha : a < l.length) (hb : b < l.length) (e : l.getD a 0 = l.getD b 0) : a = b := by
  rw [List.getD_eq_getElem?_getD, List.getD_eq_getElem?_getD, List.getElem?_eq_getElem ha, List.getElem?_eq_getElem hb] at e
  exact (List.getElem?_inj ha hn).mp (by rw [List.getElem?_eq_getElem ha, List.getElem?_eq_getElem hb]; exact congrArg some e)
theorem whL_t {g : Nat → Bool} {k : Nat} (h : g k = true) : whL g (k + 1) = whL g k := if_pos h
theorem whL_f {g : Nat → Bool} {k : Nat} (h : ¬ g k = true) : whL g (k + 1) = whL g k ++ [k] := if_neg h
theorem fo_who {α : Type} {f : Nat → Option (Int × α)} {g : Nat → Bool} : ∀ k, (∀ p, p < k → g p = true → f p = none) → fo f k = fo (fun w => f ((whL g k).getD w 0)) (whL g k).length
  | 0, _ => rfl
  | k + 1, h => by
    have ih := fo_who (f := f) (g := g) k (fun p hp => h p (by omega))
    show bet (fo f k) (f k) = _
    rw [ih]
    by_cases w : g k = true
    · rw [whL_t w, h k (by omega) w, bet_none]
    · rw [whL_f w, List.length_append, List.length_singleton]
      show _ = bet (fo (fun w => f ((whL g k ++ [k]).getD w 0)) (whL g k).length) (f ((whL g k ++ [k]).getD (whL g k).length 0))
      have e1 : (whL g k ++ [k]).getD (whL g k).length 0 = k := by
        rw [List.getD_eq_getElem?_getD, List.getElem?_append_right (Nat.le_refl _), Nat.sub_self]
        rfl
      rw [e1]
      congr 1
      refine fo_cg (fun i hi => ?_)
      rw [List.getD_eq_getElem?_getD, List.getD_eq_getElem?_getD, List.getElem?_append_left hi]
/-! bits of those seen -/
def bcN (s : Nat) : Nat := manyS (fun i => Nat.testBit s i) 6
def sb (s w : Nat) : Nat := (bior (s : Int) (bshl 1 (w : Int))).toNat
theorem sb_all : ∀ s : Fin 64, ∀ w : Fin 6, bior (s.val : Int) (bshl 1 (w.val : Int)) = ((sb s.val w.val : Nat) : Int) ∧ sb s.val w.val < 64 ∧ (Nat.testBit s.val w.val = false → bcN (sb s.val w.val) = bcN s.val + 1 ∧ s.val < sb s.val w.val ∧ bcN s.val ≤ 5) := by decide +kernel
theorem sb_m : ∀ m : Fin 7, ∀ s : Fin 64, ∀ w : Fin 6, s.val < 2 ^ m.val → w.val < m.val → sb s.val w.val < 2 ^ m.val := by decide +kernel
theorem bc_m : ∀ m : Fin 7, ∀ s : Fin 64, s.val < 2 ^ m.val - 1 → bcN s.val < m.val := by decide +kernel
theorem bc_full : ∀ m : Fin 7, bcN (2 ^ m.val - 1) = m.val ∧ wr ((bshl 1 (m.val : Int)) - 1) = ((2 ^ m.val - 1 : Nat) : Int) := by decide +kernel
theorem tb_m : ∀ m : Fin 7, ∀ s : Fin 64, s.val < 2 ^ m.val - 1 → ∃ w : Fin 6, w.val < m.val ∧ Nat.testBit s.val w.val = false := by decide +kernel
theorem sb_bit {s w : Nat} (hs : s < 64) (hw : w < 6) (q : Nat) : Nat.testBit (sb s w) q = if q = w then true else Nat.testBit s q := by
  have := (set_all (g := (s : Int)) (p := w) (by omega) hw).2 q
  rw [Int.toNat_natCast] at this
  exact this
theorem bit_is {s w : Nat} (hs : s < 64) (hw : w < 6) : (band (bshr (s : Int) (w : Int)) 1 = 0) ↔ Nat.testBit s w = false := by
  have h := has_bit ⟨s, hs⟩ ⟨w, hw⟩
  dsimp only at h
  rw [← h, decide_eq_false_iff_not]
  have b01 : ∀ g : Fin 64, ∀ p : Fin 6, band (bshr (g.val : Int) (p.val : Int)) 1 = 0 ∨ band (bshr (g.val : Int) (p.val : Int)) 1 = 1 := by decide +kernel
  have := b01 ⟨s, hs⟩ ⟨w, hw⟩
  dsimp only at this
  omega
def ug (g : Nat → Bool) (wl : List Nat) (s : Nat) : Nat → Bool := fun x => g x || (List.range wl.length).any fun w => Nat.testBit s w && decide (wl.getD w 0 = x)
theorem ug_0 (g : Nat → Bool) (wl : List Nat) : ug g wl 0 = g := by
  funext x
  unfold ug
  have : ((List.range wl.length).any fun w => Nat.testBit 0 w && decide (wl.getD w 0 = x)) = false := by
    rw [List.any_eq_false]
    intro w _
    rw [Nat.zero_testBit, Bool.false_and]
    decide
  rw [this, Bool.or_false]
theorem ug_sb {g : Nat → Bool} {wl : List Nat} {s w : Nat} (hs : s < 64) (hw : w < 6) (hl : w < wl.length) : ug g wl (sb s w) = fun x => ug g wl s x || decide (x = wl.getD w 0) := by
  funext x
  unfold ug
  rw [Bool.or_assoc]
  congr 1
  rw [Bool.eq_iff_iff, Bool.or_eq_true, List.any_eq_true, List.any_eq_true, decide_eq_true_eq]
  constructor
  · rintro ⟨v, hv, e⟩
    rw [Bool.and_eq_true, decide_eq_true_eq, sb_bit hs hw] at e
    by_cases q : v = w
    · exact Or.inr (by rw [← q]; exact e.2.symm)
    · rw [if_neg q] at e
      exact Or.inl ⟨v, hv, by rw [Bool.and_eq_true, decide_eq_true_eq]; exact e⟩
  · rintro (⟨v, hv, e⟩ | e)
    · refine ⟨v, hv, ?_⟩
      rw [Bool.and_eq_true, decide_eq_true_eq] at e ⊢
      refine ⟨?_, e.2⟩
      rw [sb_bit hs hw]
      split
      · rfl
      · exact e.1
    · refine ⟨w, List.mem_range.mpr hl, ?_⟩
      rw [Bool.and_eq_true, decide_eq_true_eq, sb_bit hs hw, if_pos rfl]
      exact ⟨rfl, e.symm⟩
theorem ug_at {g : Nat → Bool} {k s w : Nat} (hl : w < (whL g k).length) : ug g (whL g k) s ((whL g k).getD w 0) = Nat.testBit s w := by
  have hm := (whL_mem g k _).mp (getD_mem hl)
  unfold ug
  rw [hm.2, Bool.false_or, Bool.eq_iff_iff, List.any_eq_true]
  constructor
  · rintro ⟨v, hv, e⟩
    rw [Bool.and_eq_true, decide_eq_true_eq] at e
    have := getD_inj (whL_nodup g k) (List.mem_range.mp hv) hl e.2
    rw [← this]; exact e.1
  · intro h
    refine ⟨w, List.mem_range.mpr hl, ?_⟩
    rw [Bool.and_eq_true, decide_eq_true_eq]
    exact ⟨h, rfl⟩
/-- the least from those seen on -/
abbrev TV (N : Nat) (g : Nat → Bool) (C : Nat → Nat → Int) (s : Nat) : Option (Int × List Nat) := tree (okl N) nxl (csl C) 6 ((whL g N).length - bcN s) (ug g (whL g N) s, bcN s)
theorem tree_bd {N : Nat} {C : Nat → Nat → Int} {B : Nat} (hC : ∀ k p, 0 ≤ C k p ∧ C k p ≤ 594) : ∀ m s q, tree (okl N) nxl (csl C) B m s = some q → (0 ≤ q.1 ∧ q.1 ≤ 594 * m) ∧ q.2.length = m
  | 0, s, q, h => by
    cases h
    exact ⟨by decide, rfl⟩
  | m + 1, s, q, h => by
    obtain ⟨i, _, e⟩ := fo_mem h
    by_cases w : okl N s i = true
    · rw [if_pos w] at e
      cases h2 : tree (okl N) nxl (csl C) B m (nxl s i) with
      | none => rw [h2] at e; cases e
      | some q' =>
        rw [h2] at e
        cases e
        have ih := tree_bd hC m _ _ h2
        have := hC s.2 i
        refine ⟨?_, by show (i :: q'.2).length = m + 1; rw [List.length_cons, ih.2]⟩
        show 0 ≤ csl C s i + q'.1 ∧ csl C s i + q'.1 ≤ 594 * ((m + 1 : Nat) : Int)
        unfold csl
        omega
    · rw [if_neg w] at e; cases e
/-- what is there once the line is laid -/
def LU (I : mI) (N : Nat) (g : Nat → Bool) (C : Nat → Nat → Int) : Prop := (∀ w, w < (whL g N).length → I 85 w = (((whL g N).getD w 0 : Nat) : Int)) ∧ ∀ k, k < (whL g N).length → ∀ w, w < (whL g N).length → I 86 (6 * k + w) = C k ((whL g N).getD w 0)
def pfN (I : mI) (s w : Nat) : Int := I 86 (6 * bcN s + w) + I 84 (sb s w)
theorem x_paidFrom {n d s w : Nat} {I : mI} {L : mL} {c : Nat} {K : mK2} (hs : s < 64) (hw : w < 6) (h5 : bcN s ≤ 5) (hb : -100000 ≤ pfN I s w ∧ pfN I s w ≤ 100000) (k : K (some (vi (pfN I s w))) I L c) : C2 n (d + 1) 10 [vr (some 80), vi (s : Int), vi (w : Int)] I L c K := by
  refine As_paidFrom (x_bitCount hs ?_)
  obtain ⟨e1, e2, _⟩ := sb_all ⟨s, hs⟩ ⟨w, hw⟩
  dsimp only at e1 e2
  have e3 : wr (wr (((manyS (fun i => Nat.testBit s i) 6 : Nat) : Int) * 6) + (w : Int)) = ((6 * bcN s + w : Nat) : Int) := by
    show wr (wr (((bcN s : Nat) : Int) * 6) + (w : Int)) = _
    rw [wri (x := _ * 6) (by omega), wri (by omega)]; omega
  rw [ri_vi, e3, e1, Int.toNat_natCast, Int.toNat_natCast]
  unfold pfN at hb k
  rw [wri (by omega)]
  exact ⟨by omega, by omega, k⟩
def fwN (I : mI) (s w : Nat) : Option (Int × Nat) := if Nat.testBit s w = true then none else some (pfN I s w, w)
theorem x_nextInLine {n d s m : Nat} {I : mI} {L : mL} {c : Nat} {K : mK2} (hs : s < 2 ^ m - 1) (hm : m ≤ 6) (hb : ∀ w, w < m → Nat.testBit s w = false → -100000 ≤ pfN I s w ∧ pfN I s w ≤ 100000) (k : ∀ v i, fo (fwN I s) m = some (v, i) → i < m → Nat.testBit s i = false → v = pfN I s i → K (some (vi (i : Int))) I L c) : C2 n (d + 2) 11 [vr (some 80), vi (s : Int), vi (m : Int)] I L c K := by
  have h64 : 2 ^ m ≤ 2 ^ 6 := Nat.pow_le_pow_right (by decide) hm
  have hs64 : s < 64 := by omega
  have b5 : ∀ w, w < m → Nat.testBit s w = false → bcN s ≤ 5 := fun w hw h => ((sb_all ⟨s, hs64⟩ ⟨w, by omega⟩).2.2 h).2.2
  refine As_nextInLine ?_
  have loop := loopN (N := m) (P := fun j => ∀ nx : Int, (match fo (fwN I s) j with
      | none => nx = -1
      | some q => nx = (q.2 : Int) ∧ q.2 < m ∧ Nat.testBit s q.2 = false ∧ q.1 = pfN I s q.2) → W2 n (d + 2) 11 5 [some (vr (some 80)), some (vi (s : Int)), some (vi (m : Int)), some (vi nx), some (vi (j : Int))] [] I L c K) ?_ ?_ 0 (Nat.zero_le _)
  · exact loop (-1) rfl
  · intro nx hq
    refine As_nextInLine_5 ?_
    rw [if_neg (by omega)]
    obtain ⟨w, hw, hf⟩ := tb_m ⟨m, by omega⟩ ⟨s, hs64⟩ hs
    have := fo_some (f := fwN I s) (i := w.val) hw (by unfold fwN; rw [if_neg (by rw [hf]; decide)]; exact fun e => by cases e)
    cases h : fo (fwN I s) m with
    | none => exact absurd h this
    | some q =>
      rw [h] at hq
      obtain ⟨e1, e2, e3, e4⟩ := hq
      have kk := k q.1 q.2 h e2 e3 e4
      rw [e1, show (if (0 : Int) < (q.2 : Int) then (q.2 : Int) else 0) = (q.2 : Int) by split <;> omega]
      exact kk
  · intro j hj ih nx hq
    refine As_nextInLine_5 ?_
    rw [if_pos (by omega)]
    simp only [wr_nat (show j < 1000000 by omega)]
    have st : fo (fwN I s) (j + 1) = bet (fo (fwN I s) j) (fwN I s j) := rfl
    rw [st] at ih
    by_cases hb2 : Nat.testBit s j = false
    · rw [if_pos ((bit_is hs64 (by omega)).mpr hb2)]
      have ef : fwN I s j = some (pfN I s j, j) := by unfold fwN; rw [if_neg (by rw [hb2]; decide)]
      rw [ef] at ih
      cases h : fo (fwN I s) j with
      | none =>
        rw [h] at hq ih
        have hq' : nx = -1 := hq
        rw [if_pos (by omega)]
        exact ih (j : Int) ⟨rfl, hj, hb2, rfl⟩
      | some q =>
        rw [h] at hq ih
        obtain ⟨e1, e2, e3, e4⟩ := hq
        rw [if_neg (by omega)]
        refine x_paidFrom hs64 (by omega) (b5 j hj hb2) (hb j hj hb2) ?_
        rw [ri_vi, e1]
        refine x_paidFrom hs64 (by omega) (b5 j hj hb2) (hb q.2 e2 e3) ?_
        rw [ri_vi, ← e4]
        have st2 : bet (some q) (some (pfN I s j, j)) = if pfN I s j < q.1 then some (pfN I s j, j) else some q := rfl
        rw [st2] at ih
        by_cases w : pfN I s j < q.1
        · rw [if_pos w] at ih ⊢
          exact ih (j : Int) ⟨rfl, hj, hb2, rfl⟩
        · rw [if_neg w] at ih ⊢
          exact ih (q.2 : Int) ⟨rfl, e2, e3, e4⟩
    · have hb3 : Nat.testBit s j = true := by
        cases h : Nat.testBit s j with
        | true => rfl
        | false => exact absurd h hb2
      rw [if_neg (fun w => hb2 ((bit_is hs64 (by omega)).mp w))]
      have ef : fwN I s j = none := by unfold fwN; rw [if_pos hb3]
      rw [ef, bet_none] at ih
      exact ih nx hq
/-- one step of the least: the branch of the first who is least -/
theorem TV_step {N : Nat} {g : Nat → Bool} {C : Nat → Nat → Int} {I : mI} {s : Nat} (hN : N ≤ 6) (hg : ∀ p, N ≤ p → g p = false) (hL : LU I N g C) (hs : s < 2 ^ (whL g N).length - 1) (lst : Nat → List Nat) (hT : ∀ w, w < (whL g N).length → Nat.testBit s w = false → TV N g C (sb s w) = some (I 84 (sb s w), lst w)) :
    TV N g C s = (fo (fwN I s) (whL g N).length).map (fun q => (q.1, (whL g N).getD q.2 0 :: lst q.2)) := by
  have hm := whL_len g N
  have h64 : 2 ^ (whL g N).length ≤ 2 ^ 6 := Nat.pow_le_pow_right (by decide) (by omega)
  have hs64 : s < 64 := by omega
  have hb := bc_m ⟨(whL g N).length, by omega⟩ ⟨s, hs64⟩ hs
  dsimp only at hb
  unfold TV at hT ⊢
  generalize hwl : whL g N = wl at *
  rw [show wl.length - bcN s = (wl.length - bcN s - 1) + 1 by omega]
  unfold tree
  have e1 : fo (fun o => if okl N (ug g wl s, bcN s) o = true then mp (csl C (ug g wl s, bcN s) o) (fun l => o :: l) (tree (okl N) nxl (csl C) 6 (wl.length - bcN s - 1) (nxl (ug g wl s, bcN s) o)) else none) 6 = fo (fun o => if okl N (ug g wl s, bcN s) o = true then mp (csl C (ug g wl s, bcN s) o) (fun l => o :: l) (tree (okl N) nxl (csl C) 6 (wl.length - bcN s - 1) (nxl (ug g wl s, bcN s) o)) else none) N := by
    have := fo_up (f := fun o => if okl N (ug g wl s, bcN s) o = true then mp (csl C (ug g wl s, bcN s) o) (fun l => o :: l) (tree (okl N) nxl (csl C) 6 (wl.length - bcN s - 1) (nxl (ug g wl s, bcN s) o)) else none) (a := N) (6 - N) (fun i h1 _ => by
      rw [if_neg]
      unfold okl
      rw [decide_eq_false (by omega)]
      simp)
    rw [show N + (6 - N) = 6 by omega] at this
    exact this
  rw [e1, fo_who (g := g) N (fun p hp hgp => by
    have hu : ug g wl s p = true := by unfold ug; rw [hgp]; rfl
    have : okl N (ug g wl s, bcN s) p = false := by
      show (decide (p < N) && !(ug g wl s p)) = false
      rw [hu]; simp
    rw [this, if_neg (by decide)])]
  rw [hwl]
  have e2 : ∀ w, w < wl.length → (fun w => if okl N (ug g wl s, bcN s) (wl.getD w 0) = true then mp (csl C (ug g wl s, bcN s) (wl.getD w 0)) (fun l => wl.getD w 0 :: l) (tree (okl N) nxl (csl C) 6 (wl.length - bcN s - 1) (nxl (ug g wl s, bcN s) (wl.getD w 0))) else none) w = (fun w => mp 0 (fun i => wl.getD i 0 :: lst i) (fwN I s w)) w := by
    intro w hw
    have hmem : wl.getD w 0 ∈ whL g N := by rw [hwl]; exact getD_mem hw
    have hlt := ((whL_mem g N _).mp hmem).1
    have eu : ug g wl s (wl.getD w 0) = Nat.testBit s w := by
      have := ug_at (g := g) (k := N) (s := s) (w := w) (by rw [hwl]; exact hw)
      rw [hwl] at this
      exact this
    have eo : okl N (ug g wl s, bcN s) (wl.getD w 0) = !(Nat.testBit s w) := by
      unfold okl
      rw [decide_eq_true hlt, Bool.true_and]
      show (!(ug g wl s (wl.getD w 0))) = _
      rw [eu]
    show (if okl N (ug g wl s, bcN s) (wl.getD w 0) = true then _ else none) = mp 0 _ (fwN I s w)
    unfold fwN
    rw [eo]
    cases hbit : Nat.testBit s w with
    | true => rfl
    | false =>
      rw [if_pos (by decide), if_neg (by decide)]
      obtain ⟨_, _, s3⟩ := sb_all ⟨s, hs64⟩ ⟨w, by omega⟩
      have s3 := s3 hbit
      dsimp only at s3
      have hT2 := hT w hw hbit
      have en : nxl (ug g wl s, bcN s) (wl.getD w 0) = (ug g wl (sb s w), bcN (sb s w)) := by
        rw [ug_sb hs64 (by omega) hw, s3.1]
        rfl
      rw [en, show wl.length - bcN s - 1 = wl.length - bcN (sb s w) by omega, hT2]
      have hc : csl C (ug g wl s, bcN s) (wl.getD w 0) = I 86 (6 * bcN s + w) := by
        have := hL.2 (bcN s) (by rw [hwl]; exact hb) w (by rw [hwl]; exact hw)
        rw [hwl] at this
        exact this.symm
      show some (csl C (ug g wl s, bcN s) (wl.getD w 0) + I 84 (sb s w), wl.getD w 0 :: lst w) = some (0 + pfN I s w, wl.getD w 0 :: lst w)
      rw [hc]
      unfold pfN
      rw [Int.zero_add]
  rw [fo_cg e2, fo_mp]
  unfold mp
  congr 1
  funext q
  rw [Int.zero_add]
