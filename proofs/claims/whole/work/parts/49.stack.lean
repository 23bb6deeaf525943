/-! ===== the reference's reader: a stack in the place of a recursion; first without a machine ===== -/
/-- what settle(p) pops: the stack behind it, the codes behind it -/
def stl (p : Int) : List Int → List Int → List Int × List Int
  | [], l => ([], l)
  | x :: S, l => if x = 38 then stl p S (l ++ [-38]) else if x = 124 ∧ p ≠ 38 then stl p S (l ++ [-124]) else (x :: S, l)
theorem stl_38 (p : Int) (S l : List Int) : stl p (38 :: S) l = stl p S (l ++ [-38]) := if_pos rfl
theorem stl_124 {p : Int} (hp : p ≠ 38) (S l : List Int) : stl p (124 :: S) l = stl p S (l ++ [-124]) := by
  show (if (124 : Int) = 38 then _ else _) = _
  rw [if_neg (by decide), if_pos ⟨rfl, hp⟩]
/-- the stack's top is none of these -/
def topN (S zs : List Int) : Prop := ∀ x r, S = x :: r → x ∉ zs
theorem stl_n {p : Int} {S l : List Int} (h : topN S [38]) (h2 : p = 38 ∨ topN S [124]) : stl p S l = (S, l) := by
  cases S with
  | nil => rfl
  | cons x S =>
    have a := h x S rfl
    show (if x = 38 then _ else if x = 124 ∧ p ≠ 38 then _ else (x :: S, l)) = _
    rw [if_neg (fun e => a (by rw [e]; decide)), if_neg]
    rintro ⟨e, q⟩
    rcases h2 with h2 | h2
    · exact q h2
    · exact h2 x S rfl (by rw [e]; decide)
/-- how many ! and ( stand open -/
def opn : List Int → Nat
  | [] => 0
  | x :: S => opn S + (if x = 33 ∨ x = 40 then 1 else 0)
def DNp (sg : Nat → Int) (WT PW : Nat → List Int → List Int → Prop) (FL : Nat → Prop) (OK : Nat → List Int → Prop) (b : Nat) (S l : List Int) : Prop :=
  if sg b = 38 then WT (b + 1) (38 :: (stl 38 S l).1) (stl 38 S l).2
  else if sg b = 124 then WT (b + 1) (124 :: (stl 124 S l).1) (stl 124 S l).2
  else match (stl 124 S l).1 with
    | [] => OK b (stl 124 S l).2
    | x :: S' => if sg b = 41 then x = 40 ∧ PW (b + 1) S' (stl 124 S l).2 else FL b
theorem DN_38 {sg : Nat → Int} {WT PW : Nat → List Int → List Int → Prop} {FL : Nat → Prop} {OK : Nat → List Int → Prop} {b : Nat} {S l : List Int} (h : DNp sg WT PW FL OK b S (l ++ [-38])) : DNp sg WT PW FL OK b (38 :: S) l := by
  unfold DNp at h ⊢
  rw [stl_38, stl_38]
  exact h
theorem DN_124 {sg : Nat → Int} {WT PW : Nat → List Int → List Int → Prop} {FL : Nat → Prop} {OK : Nat → List Int → Prop} {b : Nat} {S l : List Int} (hb : sg b ≠ 38) (h : DNp sg WT PW FL OK b S (l ++ [-124])) : DNp sg WT PW FL OK b (124 :: S) l := by
  unfold DNp at h ⊢
  rw [if_neg hb] at h ⊢
  rw [stl_124 (by decide)]
  exact h
/-- what the reference's loop does, told of its places -/
def cloP (sg : Nat → Int) (WT PW : Nat → List Int → List Int → Prop) (FL : Nat → Prop) (OK : Nat → List Int → Prop) : Prop :=
  (∀ a S l, (sg a = 33 ∨ sg a = 40) → opn S = 4 → FL a → WT a S l) ∧
  (∀ a S l, (sg a = 33 ∨ sg a = 40) → opn S < 4 → WT (a + 1) (sg a :: S) l → WT a S l) ∧
  (∀ a S l, ¬ (sg a = 33 ∨ sg a = 40) → ((tstP sg a).1 = true → PW (tstP sg a).2.1 S (l ++ (tstP sg a).2.2.map trC)) → ((tstP sg a).1 = false → FL (tstP sg a).2.1) → WT a S l) ∧
  (∀ b S l, PW b S (l ++ [-33]) → PW b (33 :: S) l) ∧
  (∀ b S l, topN S [33] → DNp sg WT PW FL OK b S l → PW b S l)
theorem lop_abs {sg : Nat → Int} {tn : Nat} {P : Nat → pR} {o cd : Int} (ht : txt sg tn) (ho : 0 ≤ o) (hok : ∀ a, a ≤ tn → okR tn a (P a)) {X : Nat → List Int → Prop} {FL : Nat → Prop}
    (step : ∀ b m, b < tn → sg b = o → ((P (b + 1)).1 = true → X (P (b + 1)).2.1 (m ++ (P (b + 1)).2.2 ++ [cd])) → ((P (b + 1)).1 = false → FL (P (b + 1)).2.1) → X b m) :
    ∀ k b m, b ≤ tn → 100 ≤ b + k → ((lopP sg P o cd k b m).1 = true → sg (lopP sg P o cd k b m).2.1 ≠ o → X (lopP sg P o cd k b m).2.1 (lopP sg P o cd k b m).2.2) → ((lopP sg P o cd k b m).1 = false → FL (lopP sg P o cd k b m).2.1) → X b m := by
  intro k
  induction k with
  | zero =>
    intro b m hb hk h1 _
    refine h1 rfl (fun e => ?_)
    have e : sg b = o := e
    have := txt_lt ht (show 0 ≤ sg b by omega)
    have := ht.1
    omega
  | succ k ih =>
    intro b m hb hk h1 h2
    have e1 : lopP sg P o cd (k + 1) b m = if sg b = o then (if (P (b + 1)).1 = true then lopP sg P o cd k (P (b + 1)).2.1 (m ++ (P (b + 1)).2.2 ++ [cd]) else (false, (P (b + 1)).2.1, m ++ (P (b + 1)).2.2)) else (true, b, m) := rfl
    rw [e1] at h1 h2
    clear e1
    by_cases q : sg b = o
    · rw [if_pos q] at h1 h2
      have lb := txt_lt ht (show 0 ≤ sg b by omega)
      obtain ⟨o1, _, o3, _, _⟩ := hok (b + 1) lb
      refine step b m lb q (fun t => ?_) (fun t => ?_)
      · rw [if_pos t] at h1 h2
        have := o1 t
        exact ih _ _ o3 (by omega) h1 h2
      · rw [if_neg (by rw [t]; decide)] at h2
        exact h2 rfl
    · rw [if_neg q] at h1
      exact h1 rfl q
theorem seq_abs {sg : Nat → Int} {tn : Nat} {P : Nat → pR} {o cd : Int} (ht : txt sg tn) (ho : 0 ≤ o) (hok : ∀ a, a ≤ tn → okR tn a (P a)) {X : Nat → List Int → Prop} {FL : Nat → Prop}
    (step : ∀ b m, b < tn → sg b = o → ((P (b + 1)).1 = true → X (P (b + 1)).2.1 (m ++ (P (b + 1)).2.2 ++ [cd])) → ((P (b + 1)).1 = false → FL (P (b + 1)).2.1) → X b m)
    {a : Nat} (ha : a ≤ tn) (h1 : (seqP sg P o cd a).1 = true → sg (seqP sg P o cd a).2.1 ≠ o → X (seqP sg P o cd a).2.1 (seqP sg P o cd a).2.2) (h2 : (seqP sg P o cd a).1 = false → FL (seqP sg P o cd a).2.1) :
    ((P a).1 = true → X (P a).2.1 (P a).2.2) ∧ ((P a).1 = false → FL (P a).2.1) := by
  unfold seqP at h1 h2
  obtain ⟨_, _, o3, _, _⟩ := hok a ha
  refine ⟨fun t => ?_, fun t => ?_⟩
  · rw [if_pos t] at h1 h2
    exact lop_abs ht ho hok step 100 _ _ o3 (by omega) h1 h2
  · rw [if_neg (by rw [t]; decide)] at h2
    exact h2 t
def wnP (sg : Nat → Int) (tn : Nat) (WT PW : Nat → List Int → List Int → Prop) (FL : Nat → Prop) (D : Nat) : Prop := ∀ a S l, a ≤ tn → opn S + D = 4 → ((prt sg D a).1 = true → PW (prt sg D a).2.1 S (l ++ (prt sg D a).2.2.map trC)) → ((prt sg D a).1 = false → FL (prt sg D a).2.1) → WT a S l
theorem bth_abs {sg : Nat → Int} {tn : Nat} {WT PW : Nat → List Int → List Int → Prop} {FL : Nat → Prop} {OK : Nat → List Int → Prop} (ht : txt sg tn) (hc : cloP sg WT PW FL OK) {D : Nat} (hw : wnP sg tn WT PW FL D) {a : Nat} {S l : List Int} (ha : a ≤ tn) (hS : topN S [33, 38]) (hD : opn S + D = 4)
    (h1 : (bthP sg (prt sg D) a).1 = true → sg (bthP sg (prt sg D) a).2.1 ≠ 38 → DNp sg WT PW FL OK (bthP sg (prt sg D) a).2.1 S (l ++ (bthP sg (prt sg D) a).2.2.map trC)) (h2 : (bthP sg (prt sg D) a).1 = false → FL (bthP sg (prt sg D) a).2.1) : WT a S l := by
  obtain ⟨_, _, _, c4, c5⟩ := hc
  have t38 : topN S [38] := fun x r e q => hS x r e (List.mem_cons_of_mem _ q)
  have t33 : topN S [33] := fun x r e q => hS x r e (by rw [List.mem_singleton] at q; rw [q]; decide)
  have key := seq_abs (o := 38) (cd := -2) ht (by decide) (prt_ok ht D) (X := fun b m => DNp sg WT PW FL OK b S (l ++ m.map trC)) (FL := FL) (fun b m hb q g1 g2 => by
    show DNp sg WT PW FL OK b S (l ++ m.map trC)
    unfold DNp
    rw [if_pos q, stl_n t38 (Or.inl rfl)]
    refine hw (b + 1) (38 :: S) _ hb hD (fun t => ?_) g2
    refine c5 _ _ _ (fun x r e => by cases e; decide) ?_
    refine DN_38 ?_
    have g1 : DNp sg WT PW FL OK _ S (l ++ (m ++ (prt sg D (b + 1)).2.2 ++ [-2]).map trC) := g1 t
    rw [List.map_append, List.map_append, ← List.append_assoc, ← List.append_assoc] at g1
    exact g1) ha h1 h2
  exact hw a S l ha hD (fun t => c5 _ _ _ t33 (key.1 t)) key.2
theorem eit_abs {sg : Nat → Int} {tn : Nat} {WT PW : Nat → List Int → List Int → Prop} {FL : Nat → Prop} {OK : Nat → List Int → Prop} (ht : txt sg tn) (hc : cloP sg WT PW FL OK) {D : Nat} (hw : wnP sg tn WT PW FL D) {a : Nat} {S l : List Int} (ha : a ≤ tn) (hS : topN S [33, 38, 124]) (hD : opn S + D = 4)
    (h1 : (eitP sg (prt sg D) a).1 = true → sg (eitP sg (prt sg D) a).2.1 ≠ 124 → sg (eitP sg (prt sg D) a).2.1 ≠ 38 → DNp sg WT PW FL OK (eitP sg (prt sg D) a).2.1 S (l ++ (eitP sg (prt sg D) a).2.2.map trC)) (h2 : (eitP sg (prt sg D) a).1 = false → FL (eitP sg (prt sg D) a).2.1) : WT a S l := by
  have t38 : topN S [38] := fun x r e q => hS x r e (by rw [List.mem_singleton] at q; rw [q]; decide)
  have t124 : topN S [124] := fun x r e q => hS x r e (by rw [List.mem_singleton] at q; rw [q]; decide)
  have t2 : topN S [33, 38] := fun x r e q => hS x r e (by
    rw [List.mem_cons, List.mem_singleton] at q
    rcases q with q | q <;> (rw [q]; decide))
  have key := seq_abs (o := 124) (cd := -3) (P := bthP sg (prt sg D)) ht (by decide) (fun a ha => seq_ok ht (by decide) (by decide) (prt_ok ht D) a ha) (X := fun b m => sg b ≠ 38 → DNp sg WT PW FL OK b S (l ++ m.map trC)) (FL := FL) (fun b m hb q g1 g2 => by
    show sg b ≠ 38 → DNp sg WT PW FL OK b S (l ++ m.map trC)
    intro q8
    unfold DNp
    rw [if_neg q8, if_pos q, stl_n t38 (Or.inr t124)]
    refine bth_abs ht hc hw hb (fun x r e => by cases e; decide) hD (fun t q9 => ?_) g2
    refine DN_124 q9 ?_
    have g1 : DNp sg WT PW FL OK _ S (l ++ (m ++ (bthP sg (prt sg D) (b + 1)).2.2 ++ [-3]).map trC) := g1 t q9
    rw [List.map_append, List.map_append, ← List.append_assoc, ← List.append_assoc] at g1
    exact g1) ha h1 h2
  exact bth_abs ht hc hw ha t2 hD (fun t q => key.1 t q) key.2
theorem wn_abs {sg : Nat → Int} {tn : Nat} {WT PW : Nat → List Int → List Int → Prop} {FL : Nat → Prop} {OK : Nat → List Int → Prop} (ht : txt sg tn) (hc : cloP sg WT PW FL OK) : ∀ D, wnP sg tn WT PW FL D := by
  intro D
  have hc' := hc
  obtain ⟨c1, c2, c3, c4, c5⟩ := hc'
  induction D with
  | zero =>
    intro a S l ha hD h1 h2
    have e1 : prt sg 0 a = if sg a = 33 ∨ sg a = 40 then (false, a, []) else tstP sg a := rfl
    rw [e1] at h1 h2
    by_cases q : sg a = 33 ∨ sg a = 40
    · rw [if_pos q] at h2
      exact c1 a S l q hD (h2 rfl)
    · rw [if_neg q] at h1 h2
      exact c3 a S l q h1 h2
  | succ D ih =>
    intro a S l ha hD h1 h2
    have e1 : prt sg (D + 1) a = if sg a = 40 then (if (eitP sg (prt sg D) (a + 1)).1 = true then (if sg (eitP sg (prt sg D) (a + 1)).2.1 = 41 then (true, (eitP sg (prt sg D) (a + 1)).2.1 + 1, (eitP sg (prt sg D) (a + 1)).2.2) else (false, (eitP sg (prt sg D) (a + 1)).2.1, (eitP sg (prt sg D) (a + 1)).2.2)) else eitP sg (prt sg D) (a + 1))
      else if sg a = 33 then (if (prt sg D (a + 1)).1 = true then (true, (prt sg D (a + 1)).2.1, (prt sg D (a + 1)).2.2 ++ [-1]) else prt sg D (a + 1))
      else tstP sg a := rfl
    rw [e1] at h1 h2
    clear e1
    by_cases q : sg a = 40
    · rw [if_pos q] at h1 h2
      have la := txt_lt ht (show 0 ≤ sg a by omega)
      refine c2 a S l (Or.inr q) (by omega) ?_
      rw [q]
      refine eit_abs ht hc ih la (fun x r e => by cases e; decide) (by show opn S + 1 + D = 4; omega) (fun t q4 q8 => ?_) (fun t => ?_)
      · rw [if_pos t] at h1 h2
        unfold DNp
        rw [if_neg q8, if_neg q4, stl_n (fun x r e => by cases e; decide) (Or.inr (fun x r e => by cases e; decide))]
        show if sg (eitP sg (prt sg D) (a + 1)).2.1 = 41 then (40 : Int) = 40 ∧ _ else _
        by_cases w : sg (eitP sg (prt sg D) (a + 1)).2.1 = 41
        · rw [if_pos w] at h1 ⊢
          exact ⟨rfl, h1 rfl⟩
        · rw [if_neg w] at h2 ⊢
          exact h2 rfl
      · rw [if_neg (by rw [t]; decide)] at h2
        exact h2 t
    · rw [if_neg q] at h1 h2
      by_cases r : sg a = 33
      · rw [if_pos r] at h1 h2
        have la := txt_lt ht (show 0 ≤ sg a by omega)
        refine c2 a S l (Or.inl r) (by omega) ?_
        rw [r]
        refine ih (a + 1) (33 :: S) l la (by show opn S + 1 + D = 4; omega) (fun t => ?_) (fun t => ?_)
        · rw [if_pos t] at h1
          refine c4 _ _ _ ?_
          have h1 : PW _ S (l ++ ((prt sg D (a + 1)).2.2 ++ [-1]).map trC) := h1 rfl
          rw [List.map_append, ← List.append_assoc] at h1
          exact h1
        · rw [if_neg (by rw [t]; decide)] at h2
          exact h2 t
      · rw [if_neg r] at h1 h2
        exact c3 a S l (fun w => w.elim r q) h1 h2
/-- a whole expression, from an empty stack -/
theorem top_abs {sg : Nat → Int} {tn : Nat} {WT PW : Nat → List Int → List Int → Prop} {FL : Nat → Prop} {OK : Nat → List Int → Prop} (ht : txt sg tn) (hc : cloP sg WT PW FL OK) {a : Nat} (ha : a ≤ tn)
    (h1 : (eitP sg (prt sg 4) a).1 = true → OK (eitP sg (prt sg 4) a).2.1 ((eitP sg (prt sg 4) a).2.2.map trC)) (h2 : (eitP sg (prt sg 4) a).1 = false → FL (eitP sg (prt sg 4) a).2.1) : WT a [] [] := by
  refine eit_abs ht hc (wn_abs ht hc 4) ha (fun x r e => by cases e) rfl (fun t q4 q8 => ?_) h2
  unfold DNp
  rw [if_neg q8, if_neg q4]
  exact h1 t
