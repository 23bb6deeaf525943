/-! ===== small help for the contracts ===== -/
theorem loopN {P : Nat → Prop} {N : Nat} (hend : P N) (hs : ∀ i, i < N → P (i + 1) → P i) : ∀ i, i ≤ N → P i := by
  intro i hi
  obtain ⟨k, rfl⟩ : ∃ k, N = i + k := ⟨N - i, by omega⟩
  clear hi
  induction k generalizing i with
  | zero => exact hend
  | succ k ih =>
    refine hs i (by omega) (ih (i + 1) ?_ ?_)
    · rw [show i + 1 + k = i + (k + 1) by omega]; exact hend
    · intro j hj; exact hs j (by omega)
theorem wr_nat {i : Nat} (h : i < 1000000) : wr ((i : Int) + 1) = ((i + 1 : Nat) : Int) := by unfold wr; omega
theorem wri {x : Int} (h : -2147483648 ≤ x ∧ x < 2147483648) : wr x = x := by unfold wr; omega
theorem andp {a b : Prop} (h : a) : (a ∧ b) = b := propext ⟨fun q => q.2, fun q => ⟨h, q⟩⟩
theorem ri_vi {x : Int} {f : Int → Prop} : ri (some (vi x)) f = f x := rfl
theorem rv_no {f : Prop} : rv none f = f := rfl
theorem ite_i {c a b : Prop} [Decidable c] (h1 : c → a) (h2 : ¬ c → b) : if c then a else b := by
  by_cases q : c
  · rw [if_pos q]; exact h1 q
  · rw [if_neg q]; exact h2 q
theorem chk_i {b : Bool} {A : Prop} (h : b = true) (a : A) : chk b A := by subst h; exact a
theorem drf_i {r : Option Nat} {a : Nat} {f : Nat → Prop} (h : r = some a) (q : f a) : drf r f := by subst h; exact q
theorem tdiv_nn {a b : Int} (ha : 0 ≤ a) : a.tdiv b = a / b := Int.tdiv_eq_ediv_of_nonneg ha
theorem tmod_nn {a b : Int} (ha : 0 ≤ a) : a.tmod b = a % b := Int.tmod_eq_emod_of_nonneg ha
/-- cells that may change: a number below 1000 is a cell, 1000 + k the reference's field k -/
def elm : List Nat → Nat → Bool
  | [], _ => false
  | a :: l, h => Nat.beq a h || elm l h
def jk (l : List Nat) (h k : Nat) : Bool := (Nat.blt h 1000 && elm l h) || (Nat.beq h 104 && elm l (1000 + k))
def eqx (l : List Nat) (I I' : mI) : Prop := ∀ h k, jk l h k = false → I' h k = I h k
def zer (l : List Nat) (I : mI) : mI := fun h k => match jk l h k with
  | true => 0
  | false => I h k
theorem eqx_rf (l : List Nat) (I : mI) : eqx l I I := fun _ _ _ => rfl
theorem eqx_tr {l : List Nat} {I I' I'' : mI} (h1 : eqx l I I') (h2 : eqx l I' I'') : eqx l I I'' := fun h k q => (h2 h k q).trans (h1 h k q)
theorem eqx_up {l : List Nat} {I I' : mI} {a k : Nat} {v : Int} (h : eqx l I I') (ha : jk l a k = true) : eqx l I (up2 I' a k v) := by
  intro x j q
  rw [← h x j q]
  show (if x = a ∧ j = k then v else I' x j) = _
  rw [if_neg]
  rintro ⟨rfl, rfl⟩
  rw [ha] at q
  cases q
theorem elm_sub {l l' : List Nat} (h : l.all (elm l') = true) {x : Nat} (q : elm l x = true) : elm l' x = true := by
  induction l with
  | nil => cases q
  | cons a l ih =>
    rw [List.all_cons, Bool.and_eq_true] at h
    unfold elm at q
    rw [Bool.or_eq_true] at q
    rcases q with q | q
    · rw [Nat.eq_of_beq_eq_true q] at h; exact h.1
    · exact ih h.2 q
theorem eqx_wk {l l' : List Nat} {I I' : mI} (h : l.all (elm l') = true) (e : eqx l I I') : eqx l' I I' := by
  intro x k q
  refine e x k ?_
  unfold jk at q ⊢
  rw [Bool.or_eq_false_iff, Bool.and_eq_false_iff, Bool.and_eq_false_iff] at q ⊢
  refine ⟨?_, ?_⟩
  · rcases q.1 with q1 | q1
    · exact Or.inl q1
    · refine Or.inr ?_
      cases r : elm l x with
      | false => rfl
      | true => have := elm_sub h r; rw [q1] at this; cases this
  · rcases q.2 with q2 | q2
    · exact Or.inl q2
    · refine Or.inr ?_
      cases r : elm l (1000 + k) with
      | false => rfl
      | true => have := elm_sub h r; rw [q2] at this; cases this
theorem elm_iff (h : Nat) : ∀ l : List Nat, elm l h = true ↔ h ∈ l
  | [] => by simp [elm]
  | a :: l => by
    unfold elm
    rw [Bool.or_eq_true, elm_iff h l, List.mem_cons, Nat.beq_eq]
    constructor
    · rintro (q | q)
      · exact Or.inl q.symm
      · exact Or.inr q
    · rintro (q | q)
      · exact Or.inl q.symm
      · exact Or.inr q
theorem jk_f {l : List Nat} {h k : Nat} : jk l h k = false ↔ (h < 1000 → h ∉ l) ∧ (h = 104 → 1000 + k ∉ l) := by
  unfold jk
  rw [Bool.or_eq_false_iff, Bool.and_eq_false_iff, Bool.and_eq_false_iff, Bool.eq_false_iff, Bool.eq_false_iff, Ne, Ne, elm_iff, Nat.blt_eq, Bool.eq_false_iff, Bool.eq_false_iff, Ne, Ne, elm_iff, Nat.beq_eq]
  constructor
  · rintro ⟨a, b⟩
    exact ⟨fun e => a.resolve_left (fun x => x e), fun e => b.resolve_left (fun x => x e)⟩
  · rintro ⟨a, b⟩
    refine ⟨?_, ?_⟩
    · by_cases e : h < 1000
      · exact Or.inr (a e)
      · exact Or.inl e
    · by_cases e : h = 104
      · exact Or.inr (b e)
      · exact Or.inl e
theorem zer_eq {l : List Nat} {I I' : mI} (e : eqx l I I') : zer l I' = zer l I := by
  funext h k
  unfold zer
  cases q : jk l h k with
  | true => rfl
  | false => exact e h k q
theorem cg {α : Sort _} {f : mI → α} {l : List Nat} {I I' : mI} (e : eqx l I I') (hf : ∀ I, f (zer l I) = f I) : f I' = f I := by rw [← hf I', zer_eq e, hf]
theorem up2_same {f : mI} {a k : Nat} {v : Int} : up2 f a k v a k = v := by simp [up2]
theorem up2_at {f : mI} {a k j : Nat} {v : Int} (h : j ≠ k) : up2 f a k v a j = f a j := by simp [up2, h]
theorem up2_if {f : mI} {a k x j : Nat} {v : Int} : up2 f a k v x j = if x = a ∧ j = k then v else f x j := rfl
/-! ===== what the words mean: a person, an office, an hour ===== -/
/-- a person: 0 number, 1 kind, 2 v, 3 age, 4 left (0, 1), 5 + t grace of part t, 11 + k row -/
abbrev mP : Type := Nat → Int
/-- an office: taste, light, rate, wishes (weight, steps) -/
abbrev mO : Type := Int × Int × Int × List (Int × List Int)
def factS (P : mP) (hour t f : Int) : Int := if f = 0 then P 0 else if f = 1 then t else if f = 2 then P 1 else if f = 3 then P 2 else if f = 4 then P 3 / 10 else hour
def tstS (P : mP) (hour t z : Int) : Bool :=
  if z / 100 % 10 = 0 then decide (factS P hour t (z / 1000) < z % 100) else if z / 100 % 10 = 1 then decide (factS P hour t (z / 1000) = z % 100) else decide (z % 100 < factS P hour t (z / 1000))
def stpS (P : mP) (hour t : Int) (st : List Bool) (z : Int) : List Bool :=
  if z = -33 then (match st with
    | a :: r => (!a) :: r
    | _ => st)
  else if z < 0 then (match st with
    | b :: a :: r => (if z = -38 then (a && b) else (a || b)) :: r
    | _ => st)
  else tstS P hour t z :: st
def topS : List Bool → Bool
  | [a] => a
  | _ => false
def evS (P : mP) (hour t : Int) (zs : List Int) : Bool := topS (zs.foldl (stpS P hour t) [])
/-- a row of steps holds what it takes, and leaves one -/
def wfz : Nat → List Int → Bool
  | h, [] => Nat.beq h 1
  | h, z :: zs => if z = -33 then (Nat.blt 0 h && wfz h zs) else if z = -38 ∨ z = -124 then (Nat.blt 1 h && wfz (h - 1) zs) else (decide (0 ≤ z ∧ z < 6000) && (Nat.blt h 12 && wfz (h + 1) zs))
def addS (P : mP) (hour t : Int) (s : Int) (w : Int × List Int) : Int := if evS P hour t w.2 = true then s + w.1 else s
def likS (O : mO) (P : mP) (hour t : Int) : Int := O.2.2.2.foldl (addS P hour t) 0
def farS (light hour : Int) : Int := if light < hour then hour - light else light - hour
def glowS (light hour : Int) : Int :=
  if 9 - (if farS light hour < 24 - farS light hour then farS light hour else 24 - farS light hour) < 0 then 0
  else 9 - (if farS light hour < 24 - farS light hour then farS light hour else 24 - farS light hour)
def fineS (O : mO) (P : mP) (hour : Int) (t : Nat) : Int :=
  if P 1 = 1 then P (5 + t) + likS O P hour t + glowS O.2.1 hour / 3 - P 3 / 20
  else if P 1 = 2 then P (5 + t) + likS O P hour t + glowS O.2.1 hour / 3 + (if hour % 2 = 0 ∧ t < 3 then 3 else 0)
  else if P 1 = 3 then P (5 + t) + likS O P hour t + glowS O.2.1 hour / 3 + (if t = 1 then 5 else 0)
  else if P 1 = 4 then P (5 + t) + likS O P hour t - P 3 / 20
  else if P 1 = 5 then P (5 + t) + likS O P hour t + glowS O.2.1 hour / 3 + (if hour % 2 = 0 ∧ t < 3 then 3 else 0) + (if P 3 < 20 then P 2 else 0)
  else if P 1 = 6 then P (5 + t) + likS O P hour t + glowS O.2.1 hour / 3 + (if t = 1 then 5 else 0) + P (11 + t % 4)
  else P (5 + t) + likS O P hour t + glowS O.2.1 hour / 3
def offS (O : mO) (P : mP) (hour : Int) (t : Nat) : Bool := decide (O.1 ≤ fineS O P hour t)
def manyS (f : Nat → Bool) : Nat → Nat
  | 0 => 0
  | k + 1 => manyS f k + (if f k = true then 1 else 0)
def bitsS (f : Nat → Bool) : Nat → Nat
  | 0 => 0
  | k + 1 => bitsS f k + (if f k = true then 2 ^ k else 0)
def sumS (f : Nat → Int) : Nat → Int
  | 0 => 0
  | k + 1 => sumS f k + f k
def paysS (O : mO) (P : mP) (hour : Int) : Int := if P 4 = 1 then 0 else O.2.2.1 * (6 - (manyS (offS O P hour) 6 : Nat))
/-- the part to show, and how fine it is: of the first k parts -/
def showS (f : Nat → Int) (taste : Int) : Nat → Int × Int
  | 0 => (-5, 0)
  | k + 1 => if f k < taste ∧ ((showS f taste k).1 < 0 ∨ (showS f taste k).2 < f k) then ((k : Int), f k) else showS f taste k
def setP (P : mP) (i : Nat) (x : Int) : mP := fun k => if k = i then x else P k
def updP (Ps : Nat → mP) (j : Nat) (Q : mP) : Nat → mP := fun p => if p = j then Q else Ps p
/-- a year older -/
def yearS (Q : mP) : mP := if Q 3 = 99 then Q else if Q 3 + 1 = 40 then setP (setP Q 3 (Q 3 + 1)) (5 + (Q 2 % 6).toNat) 0 else setP Q 3 (Q 3 + 1)
def ageS (P : mP) : Nat → mP
  | 0 => P
  | n + 1 => yearS (ageS P n)
def newP (num kind v age : Int) : mP := fun i => match i with
  | 0 => num
  | 1 => kind
  | 2 => v
  | 3 => age
  | 4 => 0
  | i + 5 => if i < 6 then v else 0
def okP (P : mP) : Prop := (0 ≤ P 0 ∧ P 0 < 6) ∧ (0 ≤ P 1 ∧ P 1 ≤ 6) ∧ (0 ≤ P 2 ∧ P 2 ≤ 9) ∧ (0 ≤ P 3 ∧ P 3 ≤ 99) ∧ (0 ≤ P 4 ∧ P 4 ≤ 1) ∧ ∀ i, 5 ≤ i → 0 ≤ P i ∧ P i ≤ 9
def okO (O : mO) : Prop := (0 ≤ O.1 ∧ O.1 ≤ 99) ∧ (0 ≤ O.2.1 ∧ O.2.1 < 24) ∧ (0 ≤ O.2.2.1 ∧ O.2.2.1 ≤ 99) ∧ O.2.2.2.length ≤ 10 ∧ ∀ w, w ∈ O.2.2.2 → (-99 ≤ w.1 ∧ w.1 ≤ 99) ∧ wfz 0 w.2 = true
theorem add_bd (P : mP) (hour t : Int) : ∀ (l : List (Int × List Int)) (s : Int), (∀ w, w ∈ l → -99 ≤ w.1 ∧ w.1 ≤ 99) → s - 99 * l.length ≤ l.foldl (addS P hour t) s ∧ l.foldl (addS P hour t) s ≤ s + 99 * l.length := by
  intro l
  induction l with
  | nil => intro s _; constructor <;> simp
  | cons w l ih =>
    intro s h
    have h1 := h w (List.mem_cons_self ..)
    have h2 := ih (addS P hour t s w) (fun v hv => h v (List.mem_cons_of_mem _ hv))
    rw [List.foldl_cons, List.length_cons]
    unfold addS at h2 ⊢
    split at h2 <;> rename_i q
    · rw [if_pos q]; omega
    · rw [if_neg q]; omega
theorem lik_bd {O : mO} (P : mP) (hour t : Int) (h : okO O) : -990 ≤ likS O P hour t ∧ likS O P hour t ≤ 990 := by
  obtain ⟨_, _, _, h4, h5⟩ := h
  have := add_bd P hour t O.2.2.2 0 (fun w hw => (h5 w hw).1)
  unfold likS
  omega
theorem glow_bd (light hour : Int) : 0 ≤ glowS light hour ∧ (0 ≤ light → light < 24 → 0 ≤ hour → hour < 24 → glowS light hour ≤ 9) := by
  unfold glowS
  refine ⟨?_, fun a b c d => ?_⟩
  · split <;> omega
  · unfold farS
    split
    · omega
    · split <;> split <;> omega
theorem fine_bd {O : mO} {P : mP} {hour : Int} (t : Nat) (hO : okO O) (hP : okP P) (h : 0 ≤ hour ∧ hour < 24) : -1100 ≤ fineS O P hour t ∧ fineS O P hour t ≤ 1100 := by
  have h1 := lik_bd P hour t hO
  obtain ⟨_, h2, _, _, _⟩ := hO
  obtain ⟨p0, p1, p2, p3, p4, p5⟩ := hP
  have g0 := (glow_bd O.2.1 hour).1
  have g1 := (glow_bd O.2.1 hour).2 h2.1 h2.2 h.1 h.2
  have g2 := p5 (5 + t) (by omega)
  have g3 := p5 (11 + t % 4) (by omega)
  unfold fineS
  repeat' split
  all_goals omega
theorem many_le (f : Nat → Bool) : ∀ k, manyS f k ≤ k
  | 0 => Nat.le_refl _
  | k + 1 => by
    have := many_le f k
    unfold manyS
    split <;> omega
theorem bits_lt (f : Nat → Bool) : ∀ k, bitsS f k < 2 ^ k
  | 0 => Nat.one_pos
  | k + 1 => by
    have := bits_lt f k
    unfold bitsS
    rw [Nat.pow_succ]
    split <;> omega
theorem pays_bd {O : mO} {P : mP} {hour : Int} (hO : okO O) : 0 ≤ paysS O P hour ∧ paysS O P hour ≤ 594 := by
  obtain ⟨_, _, h3, _, _⟩ := hO
  have h6 := many_le (offS O P hour) 6
  unfold paysS
  split
  · omega
  · generalize manyS (offS O P hour) 6 = m at *
    have a : (0 : Int) ≤ 6 - (m : Int) := by omega
    have b : (6 : Int) - (m : Int) ≤ 6 := by omega
    have c := Int.mul_nonneg h3.1 a
    have e : O.2.2.1 * (6 - (m : Int)) ≤ 99 * 6 := Int.mul_le_mul h3.2 b a (by omega)
    omega
theorem sum_bd {f : Nat → Int} {B : Int} : ∀ k, (∀ i, i < k → 0 ≤ f i ∧ f i ≤ B) → 0 ≤ sumS f k ∧ sumS f k ≤ B * k
  | 0, _ => by unfold sumS; omega
  | k + 1, h => by
    have h1 := sum_bd k (fun i hi => h i (by omega))
    have h2 := h k (by omega)
    unfold sumS
    rw [show B * ((k + 1 : Nat) : Int) = B * k + B by rw [Int.natCast_succ, Int.mul_add, Int.mul_one]]
    omega
/-! ===== the reference's store ===== -/
def gonM (J : mI) (p : Nat) : Bool := Nat.testBit (J 104 1).toNat p
def perM (J : mI) (p : Nat) : mP := fun i => match i with
  | 0 => p
  | 1 => J 105 p
  | 2 => J 106 p
  | 3 => J 107 p
  | 4 => if gonM J p = true then 1 else 0
  | i + 5 => if i < 6 then J 108 (6 * p + i) else if i < 10 then J 109 (4 * p + (i - 6)) else 0
def codesF (J : mI) : Nat → Nat → List Int
  | _, 0 => []
  | a, m + 1 => J 116 a :: codesF J (a + 1) m
def codesM (J : mI) (c : Nat) : List Int := codesF J (J 114 c).toNat ((J 115 c).toNat - (J 114 c).toNat)
def wishM (J : mI) (b : Nat) : Nat → List (Int × List Int)
  | 0 => []
  | k + 1 => wishM J b k ++ (if J 112 (b + k) ≤ 1 then [((if J 112 (b + k) = 0 then J 113 (b + k) else -(J 113 (b + k))), codesM J (b + k))] else [])
def lastM (J : mI) (w : Int) (b : Nat) : Nat → Int → Int
  | 0, x => x
  | k + 1, x => if J 112 (b + k) = w then J 113 (b + k) else lastM J w b k x
def bM (J : mI) : Nat := if J 104 10 < 0 then 0 else 10 * (J 104 10).toNat
def kM (J : mI) : Nat := if J 104 10 < 0 then 0 else (J 111 (J 104 10).toNat).toNat
def offM (J : mI) : mO := (if 0 ≤ J 104 26 then J 104 26 else lastM J 2 (bM J) (kM J) 8, (if lastM J 3 (bM J) (kM J) 18 < 23 then lastM J 3 (bM J) (kM J) 18 else 23), lastM J 4 (bM J) (kM J) 10, wishM J (bM J) (kM J))
/-- the reference's people and hour are in their bounds -/
def pI (I : mI) : Prop := (0 ≤ I 104 0 ∧ I 104 0 ≤ 6) ∧ (0 ≤ I 104 1 ∧ I 104 1 < 64) ∧ (0 ≤ I 104 2 ∧ I 104 2 < 24) ∧ (∀ p, p < 6 → (0 ≤ I 105 p ∧ I 105 p ≤ 6) ∧ (0 ≤ I 106 p ∧ I 106 p ≤ 9) ∧ (0 ≤ I 107 p ∧ I 107 p ≤ 99)) ∧ (∀ k, k < 36 → 0 ≤ I 108 k ∧ I 108 k ≤ 9) ∧ (∀ k, k < 24 → 0 ≤ I 109 k ∧ I 109 k ≤ 9)
/-- the held office is there, its clauses are as read -/
def offOk (I : mI) : Prop := (-1 ≤ I 104 10 ∧ I 104 10 < 6) ∧ (0 ≤ I 104 10 → 0 ≤ I 111 (I 104 10).toNat ∧ I 111 (I 104 10).toNat ≤ 10)
def oI (I : mI) : Prop := offOk I ∧ (∀ i, i < 60 → 0 ≤ I 113 i ∧ I 113 i ≤ 99) ∧ (∀ i, i < kM I → 0 ≤ I 112 (bM I + i) ∧ (I 112 (bM I + i) ≤ 1 → 0 ≤ I 114 (bM I + i) ∧ I 114 (bM I + i) ≤ I 115 (bM I + i) ∧ I 115 (bM I + i) ≤ 600 ∧ wfz 0 (codesM I (bM I + i)) = true)) ∧ (-1 ≤ I 104 26 ∧ I 104 26 ≤ 60)
theorem bk60 {I : mI} (h : offOk I) : bM I + kM I ≤ 60 ∧ kM I ≤ 10 := by
  obtain ⟨⟨h1, h2⟩, h3⟩ := h
  unfold bM kM
  split <;> omega
theorem lastM_bd {J : mI} {w x : Int} {b : Nat} (hx : 0 ≤ x ∧ x ≤ 99) : ∀ k, (∀ i, i < k → 0 ≤ J 113 (b + i) ∧ J 113 (b + i) ≤ 99) → 0 ≤ lastM J w b k x ∧ lastM J w b k x ≤ 99
  | 0, _ => hx
  | k + 1, h => by
    unfold lastM
    split
    · exact h k (by omega)
    · exact lastM_bd hx k (fun i hi => h i (by omega))
theorem wishM_len (J : mI) (b : Nat) : ∀ k, (wishM J b k).length ≤ k
  | 0 => Nat.le_refl _
  | k + 1 => by
    have := wishM_len J b k
    unfold wishM
    rw [List.length_append]
    split
    · simp; omega
    · simp; omega
theorem ite_bd {c : Prop} [Decidable c] {a b lo hi : Int} (h1 : c → lo ≤ a ∧ a ≤ hi) (h2 : ¬ c → lo ≤ b ∧ b ≤ hi) : lo ≤ (if c then a else b) ∧ (if c then a else b) ≤ hi := by
  split
  · rename_i q; exact h1 q
  · rename_i q; exact h2 q
theorem wishM_ok {J : mI} {b : Nat} : ∀ k, (∀ i, i < k → (0 ≤ J 113 (b + i) ∧ J 113 (b + i) ≤ 99) ∧ (J 112 (b + i) ≤ 1 → wfz 0 (codesM J (b + i)) = true)) → ∀ w, w ∈ wishM J b k → (-99 ≤ w.1 ∧ w.1 ≤ 99) ∧ wfz 0 w.2 = true
  | 0, _, w, hw => by cases hw
  | k + 1, h, w, hw => by
    unfold wishM at hw
    rw [List.mem_append] at hw
    rcases hw with hw | hw
    · exact wishM_ok k (fun i hi => h i (by omega)) w hw
    · split at hw
      · rename_i q
        rw [List.mem_singleton] at hw
        subst hw
        have h1 := h k (by omega)
        exact ⟨ite_bd (fun _ => by omega) (fun _ => by omega), h1.2 q⟩
      · cases hw
theorem okO_M {I : mI} (h : oI I) : okO (offM I) := by
  obtain ⟨h1, h2, h3, h4⟩ := h
  have hb := bk60 h1
  have a2 := lastM_bd (J := I) (w := 2) (x := 8) (b := bM I) (by omega) (kM I) (fun i hi => h2 _ (by omega))
  have a3 := lastM_bd (J := I) (w := 3) (x := 18) (b := bM I) (by omega) (kM I) (fun i hi => h2 _ (by omega))
  have a4 := lastM_bd (J := I) (w := 4) (x := 10) (b := bM I) (by omega) (kM I) (fun i hi => h2 _ (by omega))
  have a5 := wishM_len I (bM I) (kM I)
  refine ⟨?_, ?_, a4, ?_, wishM_ok _ (fun i hi => ⟨h2 _ (by omega), fun q => ((h3 i hi).2 q).2.2.2⟩)⟩
  · exact ite_bd (fun _ => by omega) (fun _ => a2)
  · have := ite_bd (lo := 0) (hi := 23) (c := lastM I 3 (bM I) (kM I) 18 < 23) (a := lastM I 3 (bM I) (kM I) 18) (b := 23) (fun _ => by omega) (fun _ => by omega)
    exact ⟨this.1, Int.lt_add_one_iff.mpr this.2⟩
  · show (wishM I (bM I) (kM I)).length ≤ 10
    omega
theorem okP_M {I : mI} {p : Nat} (h : pI I) (hp : p < 6) : okP (perM I p) := by
  obtain ⟨h0, h1, h2, h3, h4, h5⟩ := h
  obtain ⟨a, b, c⟩ := h3 p hp
  refine ⟨⟨?_, ?_⟩, a, b, c, ?_, ?_⟩
  · show (0 : Int) ≤ (p : Int); omega
  · show (p : Int) < 6; omega
  · exact ite_bd (c := gonM I p = true) (a := 1) (b := 0) (fun _ => by omega) (fun _ => by omega)
  · intro i hi
    obtain ⟨i, rfl⟩ : ∃ k, i = k + 5 := ⟨i - 5, by omega⟩
    exact ite_bd (c := i < 6) (fun _ => h4 _ (by omega)) (fun _ => ite_bd (c := i < 10) (fun _ => h5 _ (by omega)) (fun _ => by omega))
/-! what lies elsewhere doesn't touch them -/
theorem cell_e {l : List Nat} {I I' : mI} (e : eqx l I I') {h : Nat} (h1 : Nat.beq h 104 = false) (h2 : elm l h = false) : I' h = I h := by
  funext k
  refine e h k ?_
  unfold jk
  rw [h1, h2, Bool.and_false]
  rfl
theorem fld_e {l : List Nat} {I I' : mI} (e : eqx l I I') {k : Nat} (h1 : elm l 104 = false) (h2 : elm l (1000 + k) = false) : I' 104 k = I 104 k := by
  refine e 104 k ?_
  unfold jk
  rw [h1, h2]
  rfl
def nol (l ks : List Nat) : Bool := ks.all fun k => !elm l k
theorem nol_e {l ks : List Nat} (h : nol l ks = true) {k : Nat} (hk : k ∈ ks) : elm l k = false := by
  have := List.all_eq_true.mp h k hk
  simpa using this
theorem codesF_c {I I' : mI} (e : I' 116 = I 116) : ∀ m a, codesF I' a m = codesF I a m
  | 0, _ => rfl
  | m + 1, a => by unfold codesF; rw [e, codesF_c e m]
theorem codesM_c {I I' : mI} (e4 : I' 114 = I 114) (e5 : I' 115 = I 115) (e6 : I' 116 = I 116) (c : Nat) : codesM I' c = codesM I c := by
  unfold codesM
  rw [e4, e5, codesF_c e6]
theorem wishM_c {I I' : mI} (e2 : I' 112 = I 112) (e3 : I' 113 = I 113) (e4 : I' 114 = I 114) (e5 : I' 115 = I 115) (e6 : I' 116 = I 116) (b : Nat) : ∀ k, wishM I' b k = wishM I b k
  | 0 => rfl
  | k + 1 => by unfold wishM; rw [wishM_c e2 e3 e4 e5 e6 b k, e2, e3, codesM_c e4 e5 e6]
theorem lastM_c {I I' : mI} (e2 : I' 112 = I 112) (e3 : I' 113 = I 113) (w : Int) (b : Nat) (x : Int) : ∀ k, lastM I' w b k x = lastM I w b k x
  | 0 => rfl
  | k + 1 => by unfold lastM; rw [lastM_c e2 e3 w b x k, e2, e3]
def lO : List Nat := [104, 1010, 1026, 111, 112, 113, 114, 115, 116]
theorem offM_e {l : List Nat} {I I' : mI} (e : eqx l I I') (h : nol l lO = true) : offM I' = offM I := by
  have n := fun k (hk : k ∈ lO) => nol_e h hk
  have f10 := fld_e e (k := 10) (n _ (by decide)) (n _ (by decide))
  have f26 := fld_e e (k := 26) (n _ (by decide)) (n _ (by decide))
  have c1 := cell_e e (h := 111) rfl (n _ (by decide))
  have c2 := cell_e e (h := 112) rfl (n _ (by decide))
  have c3 := cell_e e (h := 113) rfl (n _ (by decide))
  have c4 := cell_e e (h := 114) rfl (n _ (by decide))
  have c5 := cell_e e (h := 115) rfl (n _ (by decide))
  have c6 := cell_e e (h := 116) rfl (n _ (by decide))
  have eb : bM I' = bM I := by unfold bM; rw [f10]
  have ek : kM I' = kM I := by unfold kM; rw [f10, c1]
  unfold offM
  rw [f26, eb, ek, lastM_c c2 c3, lastM_c c2 c3, lastM_c c2 c3, wishM_c c2 c3 c4 c5 c6]
theorem oI_e {l : List Nat} {I I' : mI} (e : eqx l I I') (h : nol l lO = true) (o : oI I) : oI I' := by
  have n := fun k (hk : k ∈ lO) => nol_e h hk
  have f10 := fld_e e (k := 10) (n _ (by decide)) (n _ (by decide))
  have f26 := fld_e e (k := 26) (n _ (by decide)) (n _ (by decide))
  have c1 := cell_e e (h := 111) rfl (n _ (by decide))
  have c2 := cell_e e (h := 112) rfl (n _ (by decide))
  have c3 := cell_e e (h := 113) rfl (n _ (by decide))
  have c4 := cell_e e (h := 114) rfl (n _ (by decide))
  have c5 := cell_e e (h := 115) rfl (n _ (by decide))
  have c6 := cell_e e (h := 116) rfl (n _ (by decide))
  have eb : bM I' = bM I := by unfold bM; rw [f10]
  have ek : kM I' = kM I := by unfold kM; rw [f10, c1]
  obtain ⟨h1, h2, h3, h4⟩ := o
  refine ⟨?_, ?_, ?_, ?_⟩
  · unfold offOk; rw [f10, c1]; exact h1
  · rw [c3]; exact h2
  · intro i hi
    rw [ek] at hi
    rw [eb, c2, c4, c5, codesM_c c4 c5 c6]
    exact h3 i hi
  · rw [f26]; exact h4
theorem bM_e {l : List Nat} {I I' : mI} (e : eqx l I I') (h : nol l lO = true) : bM I' = bM I := by
  have n := fun k (hk : k ∈ lO) => nol_e h hk
  unfold bM
  rw [fld_e e (k := 10) (n _ (by decide)) (n _ (by decide))]
theorem kM_e {l : List Nat} {I I' : mI} (e : eqx l I I') (h : nol l lO = true) : kM I' = kM I := by
  have n := fun k (hk : k ∈ lO) => nol_e h hk
  unfold kM
  rw [fld_e e (k := 10) (n _ (by decide)) (n _ (by decide)), cell_e e (h := 111) rfl (n _ (by decide))]
theorem codes_e {l : List Nat} {I I' : mI} (e : eqx l I I') (h : nol l lO = true) (c : Nat) : codesM I' c = codesM I c := by
  have n := fun k (hk : k ∈ lO) => nol_e h hk
  exact codesM_c (cell_e e (h := 114) rfl (n _ (by decide))) (cell_e e (h := 115) rfl (n _ (by decide))) (cell_e e (h := 116) rfl (n _ (by decide))) c
def lP : List Nat := [104, 1001, 105, 106, 107, 108, 109]
theorem perM_c {I I' : mI} (f1 : I' 104 1 = I 104 1) (c5 : I' 105 = I 105) (c6 : I' 106 = I 106) (c7 : I' 107 = I 107) (c8 : I' 108 = I 108) (c9 : I' 109 = I 109) (p : Nat) : perM I' p = perM I p := by
  funext i
  unfold perM gonM
  rw [f1, c5, c6, c7, c8, c9]
theorem perM_e {l : List Nat} {I I' : mI} (e : eqx l I I') (h : nol l lP = true) (p : Nat) : perM I' p = perM I p := by
  have n := fun k (hk : k ∈ lP) => nol_e h hk
  exact perM_c (fld_e e (k := 1) (n _ (by decide)) (n _ (by decide))) (cell_e e (h := 105) rfl (n _ (by decide))) (cell_e e (h := 106) rfl (n _ (by decide))) (cell_e e (h := 107) rfl (n _ (by decide))) (cell_e e (h := 108) rfl (n _ (by decide))) (cell_e e (h := 109) rfl (n _ (by decide))) p
def lQ : List Nat := [104, 1000, 1001, 1002, 105, 106, 107, 108, 109]
theorem pI_e {l : List Nat} {I I' : mI} (e : eqx l I I') (h : nol l lQ = true) (o : pI I) : pI I' := by
  have n := fun k (hk : k ∈ lQ) => nol_e h hk
  unfold pI
  rw [fld_e e (k := 0) (n _ (by decide)) (n _ (by decide)), fld_e e (k := 1) (n _ (by decide)) (n _ (by decide)), fld_e e (k := 2) (n _ (by decide)) (n _ (by decide)), (cell_e e (h := 105) rfl (n _ (by decide))), (cell_e e (h := 106) rfl (n _ (by decide))), (cell_e e (h := 107) rfl (n _ (by decide))), (cell_e e (h := 108) rfl (n _ (by decide))), (cell_e e (h := 109) rfl (n _ (by decide)))]
  exact o
