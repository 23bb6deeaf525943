/-! ===== the reader: what a text says, told without a machine ===== -/
abbrev pR : Type := Bool × Nat × List Int
abbrev digit (x : Int) : Prop := 48 ≤ x ∧ x ≤ 57
def numP (sg : Nat → Int) (a : Nat) : Option (Int × Nat) := if digit (sg a) then (if digit (sg (a + 1)) then some ((sg a - 48) * 10 + sg (a + 1) - 48, a + 2) else some (sg a - 48, a + 1)) else none
def letP (x : Int) : Option Int := if x = 97 then some 4 else if x = 104 then some 5 else if x = 107 then some 2 else if x = 112 then some 0 else if x = 116 then some 1 else if x = 118 then some 3 else none
def tstP (sg : Nat → Int) (a : Nat) : pR := match letP (sg a) with
  | none => (false, a, [])
  | some l => if 60 ≤ sg (a + 1) ∧ sg (a + 1) ≤ 62 then (match numP sg (a + 2) with
      | none => (false, a + 2, [])
      | some (v, b) => (true, b, [(l * 3 + (sg (a + 1) - 60)) * 100 + v])) else (false, a + 1, [])
def lopP (sg : Nat → Int) (P : Nat → pR) (o cd : Int) : Nat → Nat → List Int → pR
  | 0, a, l => (true, a, l)
  | k + 1, a, l => if sg a = o then (if (P (a + 1)).1 = true then lopP sg P o cd k (P (a + 1)).2.1 (l ++ (P (a + 1)).2.2 ++ [cd]) else (false, (P (a + 1)).2.1, l ++ (P (a + 1)).2.2)) else (true, a, l)
def seqP (sg : Nat → Int) (P : Nat → pR) (o cd : Int) (a : Nat) : pR := if (P a).1 = true then lopP sg P o cd 100 (P a).2.1 (P a).2.2 else P a
def bthP (sg : Nat → Int) (P : Nat → pR) (a : Nat) : pR := seqP sg P 38 (-2) a
def eitP (sg : Nat → Int) (P : Nat → pR) (a : Nat) : pR := seqP sg (bthP sg P) 124 (-3) a
def prt (sg : Nat → Int) : Nat → Nat → pR
  | 0, a => if sg a = 33 ∨ sg a = 40 then (false, a, []) else tstP sg a
  | D + 1, a => if sg a = 40 then (if (eitP sg (prt sg D) (a + 1)).1 = true then (if sg (eitP sg (prt sg D) (a + 1)).2.1 = 41 then (true, (eitP sg (prt sg D) (a + 1)).2.1 + 1, (eitP sg (prt sg D) (a + 1)).2.2) else (false, (eitP sg (prt sg D) (a + 1)).2.1, (eitP sg (prt sg D) (a + 1)).2.2)) else eitP sg (prt sg D) (a + 1))
    else if sg a = 33 then (if (prt sg D (a + 1)).1 = true then (true, (prt sg D (a + 1)).2.1, (prt sg D (a + 1)).2.2 ++ [-1]) else prt sg D (a + 1))
    else tstP sg a
/-- a text: its end is told by -1 -/
def txt (sg : Nat → Int) (n : Nat) : Prop := n ≤ 100 ∧ (∀ i, i < n → 0 ≤ sg i ∧ sg i ≤ 127) ∧ ∀ i, n ≤ i → sg i = -1
theorem txt_lt {sg : Nat → Int} {n a : Nat} (h : txt sg n) (ha : 0 ≤ sg a) : a < n := by
  by_cases w : a < n
  · exact w
  · have := h.2.2 a (by omega); omega
/-- each reads on, no further than the end, and has at most as many codes as signs; all are codes -/
def okR (n a : Nat) (r : pR) : Prop := (r.1 = true → a + 3 ≤ r.2.1) ∧ a ≤ r.2.1 ∧ r.2.1 ≤ n ∧ a + r.2.2.length ≤ r.2.1 ∧ ∀ z, z ∈ r.2.2 → -3 ≤ z ∧ z < 1800
theorem num_ok {sg : Nat → Int} {n a b : Nat} {v : Int} (h : txt sg n) (e : numP sg a = some (v, b)) : a < b ∧ b ≤ n ∧ 0 ≤ v ∧ v ≤ 99 ∧ b ≤ a + 2 := by
  unfold numP at e
  by_cases d1 : digit (sg a)
  · rw [if_pos d1] at e
    have l1 := txt_lt h (show 0 ≤ sg a from Int.le_trans (by decide) d1.1)
    by_cases d2 : digit (sg (a + 1))
    · rw [if_pos d2] at e
      have l2 := txt_lt h (show 0 ≤ sg (a + 1) from Int.le_trans (by decide) d2.1)
      cases e
      omega
    · rw [if_neg d2] at e
      cases e
      omega
  · rw [if_neg d1] at e; cases e
theorem let_ok {x l : Int} (e : letP x = some l) : 0 ≤ x ∧ 0 ≤ l ∧ l ≤ 5 := by
  unfold letP at e
  repeat' (split at e)
  all_goals first | (cases e; done) | (cases e; omega)
theorem tst_ok {sg : Nat → Int} {n a : Nat} (h : txt sg n) (ha : a ≤ n) : okR n a (tstP sg a) := by
  unfold tstP
  cases e1 : letP (sg a) with
  | none => exact ⟨fun x => (by cases x), Nat.le_refl _, ha, Nat.le_refl _, fun z hz => (by cases hz)⟩
  | some l =>
    have l1 := let_ok e1
    have a1 := txt_lt h l1.1
    dsimp only
    by_cases d : 60 ≤ sg (a + 1) ∧ sg (a + 1) ≤ 62
    · rw [if_pos d]
      have a2 := txt_lt h (show 0 ≤ sg (a + 1) by omega)
      cases e2 : numP sg (a + 2) with
      | none => exact ⟨fun x => (by cases x), (by show a ≤ a + 2; omega), (by show a + 2 ≤ n; omega), (by show a + 0 ≤ a + 2; omega), fun z hz => (by cases hz)⟩
      | some q =>
        obtain ⟨v, b⟩ := q
        have nk := num_ok h e2
        refine ⟨fun _ => ?_, ?_, ?_, ?_, fun z hz => ?_⟩
        · show a + 3 ≤ b; omega
        · show a ≤ b; omega
        · exact nk.2.1
        · show a + 1 ≤ b; omega
        · have hz' : z ∈ [(l * 3 + (sg (a + 1) - 60)) * 100 + v] := hz
          rw [List.mem_singleton] at hz'
          omega
    · rw [if_neg d]
      exact ⟨fun x => (by cases x), (by show a ≤ a + 1; omega), (by show a + 1 ≤ n; omega), (by show a + 0 ≤ a + 1; omega), fun z hz => (by cases hz)⟩
theorem lop_ok {sg : Nat → Int} {n : Nat} {P : Nat → pR} {o cd : Int} (h : txt sg n) (ho : 0 ≤ o) (hc : -3 ≤ cd ∧ cd < 1800) (hP : ∀ a, a ≤ n → okR n a (P a)) : ∀ k a0 a l, a0 + 3 ≤ a → a ≤ n → a0 + l.length ≤ a → (∀ z, z ∈ l → -3 ≤ z ∧ z < 1800) → okR n a0 (lopP sg P o cd k a l)
  | 0, a0, a, l, h1, h2, h3, h4 => ⟨fun _ => h1, (by show a0 ≤ a; omega), h2, h3, h4⟩
  | k + 1, a0, a, l, h1, h2, h3, h4 => by
    unfold lopP
    by_cases e : sg a = o
    · rw [if_pos e]
      have la := txt_lt h (show 0 ≤ sg a by omega)
      have ok := hP (a + 1) la
      obtain ⟨o1, o2, o3, o4, o5⟩ := ok
      by_cases t : (P (a + 1)).1 = true
      · rw [if_pos t]
        have o1 := o1 t
        refine lop_ok h ho hc hP k a0 _ _ (by omega) o3 ?_ ?_
        · rw [List.length_append, List.length_append, List.length_singleton]; omega
        · intro z hz
          rw [List.mem_append, List.mem_append, List.mem_singleton] at hz
          rcases hz with (hz | hz) | hz
          · exact h4 z hz
          · exact o5 z hz
          · rw [hz]; exact hc
      · rw [if_neg t]
        refine ⟨fun x => (by cases x), ?_, o3, ?_, ?_⟩
        · show a0 ≤ (P (a + 1)).2.1; omega
        · show a0 + (l ++ (P (a + 1)).2.2).length ≤ (P (a + 1)).2.1
          rw [List.length_append]; omega
        · intro z hz
          rcases List.mem_append.mp hz with hz | hz
          · exact h4 z hz
          · exact o5 z hz
    · rw [if_neg e]
      exact ⟨fun _ => h1, (by show a0 ≤ a; omega), h2, h3, h4⟩
theorem seq_ok {sg : Nat → Int} {n : Nat} {P : Nat → pR} {o cd : Int} (h : txt sg n) (ho : 0 ≤ o) (hc : -3 ≤ cd ∧ cd < 1800) (hP : ∀ a, a ≤ n → okR n a (P a)) (a : Nat) (ha : a ≤ n) : okR n a (seqP sg P o cd a) := by
  have ok := hP a ha
  unfold seqP
  by_cases t : (P a).1 = true
  · rw [if_pos t]
    obtain ⟨o1, o2, o3, o4, o5⟩ := ok
    exact lop_ok h ho hc hP 100 a _ _ (o1 t) o3 o4 o5
  · rw [if_neg t]; exact ok
theorem prt_ok {sg : Nat → Int} {n : Nat} (h : txt sg n) : ∀ D a, a ≤ n → okR n a (prt sg D a)
  | 0, a, ha => by
    unfold prt
    split
    · exact ⟨fun x => (by cases x), Nat.le_refl _, ha, Nat.le_refl _, fun z hz => (by cases hz)⟩
    · exact tst_ok h ha
  | D + 1, a, ha => by
    unfold prt
    by_cases e1 : sg a = 40
    · rw [if_pos e1]
      have la := txt_lt h (show 0 ≤ sg a by omega)
      have ok : okR n (a + 1) (eitP sg (prt sg D) (a + 1)) := seq_ok (o := 124) (cd := -3) h (by decide) (by decide) (fun a ha => seq_ok (o := 38) (cd := -2) h (by decide) (by decide) (prt_ok h D) a ha) (a + 1) la
      obtain ⟨o1, o2, o3, o4, o5⟩ := ok
      by_cases t : (eitP sg (prt sg D) (a + 1)).1 = true
      · rw [if_pos t]
        by_cases e2 : sg (eitP sg (prt sg D) (a + 1)).2.1 = 41
        · rw [if_pos e2]
          have lb := txt_lt h (show 0 ≤ sg (eitP sg (prt sg D) (a + 1)).2.1 by omega)
          have o1 := o1 t
          refine ⟨fun _ => ?_, ?_, ?_, ?_, o5⟩
          · show a + 3 ≤ (eitP sg (prt sg D) (a + 1)).2.1 + 1; omega
          · show a ≤ (eitP sg (prt sg D) (a + 1)).2.1 + 1; omega
          · show (eitP sg (prt sg D) (a + 1)).2.1 + 1 ≤ n; omega
          · show a + (eitP sg (prt sg D) (a + 1)).2.2.length ≤ (eitP sg (prt sg D) (a + 1)).2.1 + 1; omega
        · rw [if_neg e2]
          refine ⟨fun x => (by cases x), ?_, o3, ?_, o5⟩
          · show a ≤ (eitP sg (prt sg D) (a + 1)).2.1; omega
          · show a + (eitP sg (prt sg D) (a + 1)).2.2.length ≤ (eitP sg (prt sg D) (a + 1)).2.1; omega
      · rw [if_neg t]
        exact ⟨fun x => absurd x t, by omega, o3, by omega, o5⟩
    · rw [if_neg e1]
      by_cases e2 : sg a = 33
      · rw [if_pos e2]
        have la := txt_lt h (show 0 ≤ sg a by omega)
        obtain ⟨o1, o2, o3, o4, o5⟩ := prt_ok h D (a + 1) la
        by_cases t : (prt sg D (a + 1)).1 = true
        · rw [if_pos t]
          have o1 := o1 t
          refine ⟨fun _ => ?_, ?_, o3, ?_, ?_⟩
          · show a + 3 ≤ (prt sg D (a + 1)).2.1; omega
          · show a ≤ (prt sg D (a + 1)).2.1; omega
          · show a + ((prt sg D (a + 1)).2.2 ++ [-1]).length ≤ (prt sg D (a + 1)).2.1
            rw [List.length_append, List.length_singleton]; omega
          · intro z hz
            rcases List.mem_append.mp hz with hz | hz
            · exact o5 z hz
            · rw [List.mem_singleton] at hz; omega
        · rw [if_neg t]
          exact ⟨fun x => absurd x t, by omega, o3, by omega, o5⟩
      · rw [if_neg e2]
        exact tst_ok h ha
