/-! ===== the first least of a row of rows: told one by one, or branch by branch ===== -/
def bet {α : Type} (a b : Option (Int × α)) : Option (Int × α) := match a, b with
  | none, b => b
  | some x, none => some x
  | some x, some y => if y.1 < x.1 then some y else some x
theorem bet_none {α : Type} (a : Option (Int × α)) : bet a none = a := by cases a <;> rfl
theorem none_bet {α : Type} (a : Option (Int × α)) : bet none a = a := rfl
theorem bet_assoc {α : Type} (a b c : Option (Int × α)) : bet (bet a b) c = bet a (bet b c) := by
  cases a with
  | none => rfl
  | some x =>
    cases b with
    | none => rfl
    | some y =>
      cases c with
      | none => rw [bet_none, bet_none]
      | some z =>
        show bet (if y.1 < x.1 then some y else some x) (some z) = bet (some x) (if z.1 < y.1 then some z else some y)
        by_cases h1 : y.1 < x.1
        · rw [if_pos h1]
          by_cases h2 : z.1 < y.1
          · rw [if_pos h2]
            show (if z.1 < y.1 then some z else some y) = (if z.1 < x.1 then some z else some x)
            rw [if_pos h2, if_pos (by omega)]
          · rw [if_neg h2]
            show (if z.1 < y.1 then some z else some y) = (if y.1 < x.1 then some y else some x)
            rw [if_neg h2, if_pos h1]
        · rw [if_neg h1]
          by_cases h2 : z.1 < y.1
          · rw [if_pos h2]
          · rw [if_neg h2]
            show (if z.1 < x.1 then some z else some x) = (if y.1 < x.1 then some y else some x)
            rw [if_neg (by omega), if_neg h1]
def fo {α : Type} (f : Nat → Option (Int × α)) : Nat → Option (Int × α)
  | 0 => none
  | k + 1 => bet (fo f k) (f k)
theorem fo_cg {α : Type} {f g : Nat → Option (Int × α)} : ∀ {k : Nat}, (∀ i, i < k → f i = g i) → fo f k = fo g k
  | 0, _ => rfl
  | k + 1, h => by unfold fo; rw [fo_cg (fun i hi => h i (by omega)), h k (by omega)]
theorem fo_none {α : Type} {f : Nat → Option (Int × α)} : ∀ {k : Nat}, (∀ i, i < k → f i = none) → fo f k = none
  | 0, _ => rfl
  | k + 1, h => by unfold fo; rw [fo_none (fun i hi => h i (by omega)), h k (by omega)]; rfl
theorem fo_add {α : Type} (f : Nat → Option (Int × α)) (x : Nat) : ∀ y, fo f (x + y) = bet (fo f x) (fo (fun r => f (x + r)) y)
  | 0 => (bet_none _).symm
  | y + 1 => by
    show bet (fo f (x + y)) (f (x + y)) = bet (fo f x) (bet (fo (fun r => f (x + r)) y) (f (x + y)))
    rw [fo_add f x y, bet_assoc]
theorem fo_mul {α : Type} (f : Nat → Option (Int × α)) (b : Nat) : ∀ a, fo f (a * b) = fo (fun o => fo (fun r => f (o * b + r)) b) a
  | 0 => by rw [Nat.zero_mul]; rfl
  | a + 1 => by
    rw [Nat.succ_mul, fo_add, fo_mul f b a]
    rfl
def mp {α β : Type} (c : Int) (h : α → β) : Option (Int × α) → Option (Int × β) := Option.map fun q => (c + q.1, h q.2)
theorem mp_bet {α β : Type} (c : Int) (h : α → β) (a b : Option (Int × α)) : mp c h (bet a b) = bet (mp c h a) (mp c h b) := by
  cases a with
  | none => rfl
  | some x =>
    cases b with
    | none => rfl
    | some y =>
      show mp c h (if y.1 < x.1 then some y else some x) = (if c + y.1 < c + x.1 then some (c + y.1, h y.2) else some (c + x.1, h x.2))
      by_cases q : y.1 < x.1
      · rw [if_pos q, if_pos (by omega)]; rfl
      · rw [if_neg q, if_neg (by omega)]; rfl
theorem fo_mp {α β : Type} (c : Int) (h : α → β) (f : Nat → Option (Int × α)) : ∀ k, fo (fun o => mp c h (f o)) k = mp c h (fo f k)
  | 0 => rfl
  | k + 1 => by unfold fo; rw [fo_mp c h f k, mp_bet]
def dg (B : Nat) : Nat → Nat → List Nat
  | 0, _ => []
  | m + 1, r => (r / B ^ m) :: dg B m (r % B ^ m)
theorem dg_len (B : Nat) : ∀ m r, (dg B m r).length = m
  | 0, _ => rfl
  | m + 1, r => by unfold dg; rw [List.length_cons, dg_len B m]
theorem dg_low {B : Nat} (hB : 0 < B) : ∀ m r, r < B ^ (m + 1) → dg B (m + 1) r = dg B m (r / B) ++ [r % B]
  | 0, r, h => by
    show [r / B ^ 0] = [] ++ [r % B]
    rw [Nat.pow_zero, Nat.div_one, Nat.mod_eq_of_lt (by rw [Nat.pow_one] at h; exact h)]
    rfl
  | m + 1, r, h => by
    have ih := dg_low hB m (r % B ^ (m + 1)) (Nat.mod_lt _ (Nat.pow_pos hB))
    show (r / B ^ (m + 1)) :: dg B (m + 1) (r % B ^ (m + 1)) = ((r / B / B ^ m) :: dg B m (r / B % B ^ m)) ++ [r % B]
    rw [ih, Nat.div_div_eq_div_mul, show B * B ^ m = B ^ (m + 1) by rw [Nat.pow_succ, Nat.mul_comm]]
    rw [show r % B ^ (m + 1) / B = r / B % B ^ m by rw [Nat.pow_succ, Nat.mul_comm, Nat.mod_mul_right_div_self], show r % B ^ (m + 1) % B = r % B from Nat.mod_mod_of_dvd _ ⟨B ^ m, by rw [Nat.pow_succ, Nat.mul_comm]⟩]
    rfl
section
variable {σ : Type} (ok : σ → Nat → Bool) (nx : σ → Nat → σ) (cs : σ → Nat → Int)
def vrow : σ → List Nat → Bool
  | _, [] => true
  | s, o :: r => ok s o && vrow (nx s o) r
def crow : σ → List Nat → Int
  | _, [] => 0
  | s, o :: r => cs s o + crow (nx s o) r
def tree (B : Nat) : Nat → σ → Option (Int × List Nat)
  | 0, _ => some (0, [])
  | m + 1, s => fo (fun o => if ok s o = true then mp (cs s o) (fun l => o :: l) (tree B m (nx s o)) else none) B
theorem vrow_c (s : σ) (o : Nat) (r : List Nat) : vrow ok nx s (o :: r) = (ok s o && vrow ok nx (nx s o) r) := rfl
theorem crow_c (s : σ) (o : Nat) (r : List Nat) : crow nx cs s (o :: r) = cs s o + crow nx cs (nx s o) r := rfl
def cand (B m : Nat) (s : σ) (r : Nat) : Option (Int × List Nat) := if vrow ok nx s (dg B m r) = true then some (crow nx cs s (dg B m r), dg B m r) else none
theorem scan {B : Nat} (hB : 0 < B) : ∀ m s, fo (cand ok nx cs B m s) (B ^ m) = tree ok nx cs B m s
  | 0, s => rfl
  | m + 1, s => by
    rw [Nat.pow_succ, Nat.mul_comm, fo_mul]
    unfold tree
    refine fo_cg (fun o ho => ?_)
    have e : ∀ r, r < B ^ m → cand ok nx cs B (m + 1) s (o * B ^ m + r) = if ok s o = true then mp (cs s o) (fun l => o :: l) (cand ok nx cs B m (nx s o) r) else none := by
      intro r hr
      have hp := Nat.pow_pos (n := m) hB
      have d : dg B (m + 1) (o * B ^ m + r) = o :: dg B m r := by
        show ((o * B ^ m + r) / B ^ m) :: dg B m ((o * B ^ m + r) % B ^ m) = o :: dg B m r
        rw [Nat.mul_comm, Nat.mul_add_div hp, Nat.div_eq_of_lt hr, Nat.mul_add_mod, Nat.mod_eq_of_lt hr, Nat.add_zero]
      unfold cand
      rw [d, vrow_c, crow_c]
      cases h1 : ok s o with
      | false => rfl
      | true =>
        rw [Bool.true_and, if_pos rfl]
        by_cases h2 : vrow ok nx (nx s o) (dg B m r) = true
        · rw [if_pos h2, if_pos h2]; rfl
        · rw [if_neg h2, if_neg h2]; rfl
    rw [fo_cg e]
    cases h1 : ok s o with
    | false => rw [if_neg (by decide)]; exact fo_none (fun i _ => if_neg (by decide))
    | true =>
      rw [if_pos rfl]
      simp only [if_true]
      rw [fo_mp, scan hB m (nx s o)]
end
/-! those who stand in line -/
abbrev lnS : Type := (Nat → Bool) × Nat
def okl (n : Nat) (s : lnS) (o : Nat) : Bool := decide (o < n) && !(s.1 o)
def nxl (s : lnS) (o : Nat) : lnS := (fun x => s.1 x || decide (x = o), s.2 + 1)
def csl (C : Nat → Nat → Int) (s : lnS) (o : Nat) : Int := C s.2 o
theorem vrow_iff (n : Nat) : ∀ (ds : List Nat) (s : lnS), vrow (okl n) nxl s ds = true ↔ (∀ d, d ∈ ds → d < n ∧ s.1 d = false) ∧ ds.Nodup
  | [], s => by simp [vrow]
  | o :: r, s => by
    rw [show vrow (okl n) nxl s (o :: r) = ((decide (o < n) && !(s.1 o)) && vrow (okl n) nxl (nxl s o) r) from rfl, Bool.and_eq_true, Bool.and_eq_true, decide_eq_true_eq, Bool.not_eq_true', vrow_iff n r (nxl s o), List.nodup_cons]
    constructor
    · rintro ⟨⟨h1, h2⟩, h3, h4⟩
      refine ⟨fun d hd => ?_, fun hm => ?_, h4⟩
      · rw [List.mem_cons] at hd
        rcases hd with rfl | hd
        · exact ⟨h1, h2⟩
        · obtain ⟨a, b⟩ := h3 d hd
          have b' : (s.1 d || decide (d = o)) = false := b
          rw [Bool.or_eq_false_iff] at b'
          exact ⟨a, b'.1⟩
      · have b' : (s.1 o || decide (o = o)) = false := (h3 o hm).2
        rw [Bool.or_eq_false_iff, decide_eq_false_iff_not] at b'
        exact b'.2 rfl
    · rintro ⟨h1, h2, h3⟩
      refine ⟨h1 o List.mem_cons_self, fun d hd => ?_, h3⟩
      obtain ⟨a, b⟩ := h1 d (List.mem_cons_of_mem _ hd)
      refine ⟨a, ?_⟩
      show (s.1 d || decide (d = o)) = false
      rw [b, decide_eq_false (show ¬ (d = o) from fun e => h2 (e ▸ hd))]
      rfl
theorem crow_sum (C : Nat → Nat → Int) : ∀ (ds : List Nat) (s : lnS), crow nxl (csl C) s ds = sumS (fun i => C (s.2 + i) (ds.getD i 0)) ds.length
  | [], _ => rfl
  | o :: r, s => by
    unfold crow
    rw [crow_sum C r (nxl s o)]
    have sh : ∀ (f : Nat → Int) k, sumS f (k + 1) = f 0 + sumS (fun i => f (i + 1)) k := by
      intro f k
      induction k with
      | zero => show 0 + f 0 = f 0 + 0; omega
      | succ k ih => show sumS f (k + 1) + f (k + 1) = f 0 + (sumS (fun i => f (i + 1)) k + f (k + 1)); rw [ih]; omega
    rw [List.length_cons, sh]
    congr 1
    refine sum_cg (fun i _ => ?_)
    show C (s.2 + 1 + i) (r.getD i 0) = C (s.2 + (i + 1)) ((o :: r).getD (i + 1) 0)
    rw [show s.2 + 1 + i = s.2 + (i + 1) by omega]
    rfl
