/-! ===== small help for the contracts ===== -/
theorem loopN {P : Nat → Prop} {N : Nat} (hend : P N) (hs : ∀ i, i < N → P (i + 1) → P i) : ∀ i, i ≤ N → P i := by
  intro i hi
  obtain ⟨k, rfl⟩ : ∃ k, N = i + k := ⟨N - i, by omega⟩
  clear hi
  induction k generalizing i with
  | zero => exact hend
  | succ k ih =>
    refine hs i (by omega) (ih (i + 1) ?_ ?_)
    · rw [show i + 1 + k = i + (k + 1) by omega]; exact hend
    · intro j hj; exact hs j (by omega)
theorem wr_nat {i : Nat} (h : i < 1000000) : wr ((i : Int) + 1) = ((i + 1 : Nat) : Int) := by unfold wr; omega
theorem chk_i {b : Bool} {A : Prop} (h : b = true) (a : A) : chk b A := by subst h; exact a
theorem drf_i {r : Option Nat} {a : Nat} {f : Nat → Prop} (h : r = some a) (q : f a) : drf r f := by subst h; exact q
theorem tdiv_nn {a b : Int} (ha : 0 ≤ a) : a.tdiv b = a / b := Int.tdiv_eq_ediv_of_nonneg ha
theorem tmod_nn {a b : Int} (ha : 0 ≤ a) : a.tmod b = a % b := Int.tmod_eq_emod_of_nonneg ha
def eqx (l : List Nat) (I I' : mI) : Prop := ∀ h, h ∉ l → I' h = I h
theorem eqx_rf (l : List Nat) (I : mI) : eqx l I I := fun _ _ => rfl
theorem eqx_tr {l : List Nat} {I I' I'' : mI} (h1 : eqx l I I') (h2 : eqx l I' I'') : eqx l I I'' := fun x hx => (h2 x hx).trans (h1 x hx)
theorem eqx_up {l : List Nat} {I I' : mI} {a k : Nat} {v : Int} (h : eqx l I I') (ha : a ∈ l) : eqx l I (up2 I' a k v) := fun x hx => (up2_ne (fun e => hx (by rw [e]; exact ha))).trans (h x hx)
theorem up2_same {f : mI} {a k : Nat} {v : Int} : up2 f a k v a k = v := by simp [up2]
theorem up2_at {f : mI} {a k j : Nat} {v : Int} (h : j ≠ k) : up2 f a k v a j = f a j := by simp [up2, h]
/-! ===== what the words mean: a person, an office, an hour ===== -/
/-- a person: 0 number, 1 kind, 2 v, 3 age, 4 left (0, 1), 5 + t grace of part t, 11 + k row -/
abbrev mP : Type := Nat → Int
/-- an office: taste, light, rate, wishes (weight, steps) -/
abbrev mO : Type := Int × Int × Int × List (Int × List Int)
def factS (P : mP) (hour t f : Int) : Int := if f = 0 then P 0 else if f = 1 then t else if f = 2 then P 1 else if f = 3 then P 2 else if f = 4 then P 3 / 10 else hour
def tstS (P : mP) (hour t z : Int) : Bool :=
  if z / 100 % 10 = 0 then decide (factS P hour t (z / 1000) < z % 100) else if z / 100 % 10 = 1 then decide (factS P hour t (z / 1000) = z % 100) else decide (z % 100 < factS P hour t (z / 1000))
def stpS (P : mP) (hour t : Int) (st : List Bool) (z : Int) : List Bool :=
  if z = -33 then (match st with
    | a :: r => (!a) :: r
    | _ => st)
  else if z < 0 then (match st with
    | b :: a :: r => (if z = -38 then (a && b) else (a || b)) :: r
    | _ => st)
  else tstS P hour t z :: st
def evS (P : mP) (hour t : Int) (zs : List Int) : Bool := match zs.foldl (stpS P hour t) [] with
  | [a] => a
  | _ => false
def likS (O : mO) (P : mP) (hour t : Int) : Int := O.2.2.2.foldl (fun s w => if evS P hour t w.2 = true then s + w.1 else s) 0
def glowS (light hour : Int) : Int :=
  if 9 - (if (if light < hour then hour - light else light - hour) < 24 - (if light < hour then hour - light else light - hour) then (if light < hour then hour - light else light - hour) else 24 - (if light < hour then hour - light else light - hour)) < 0 then 0
  else 9 - (if (if light < hour then hour - light else light - hour) < 24 - (if light < hour then hour - light else light - hour) then (if light < hour then hour - light else light - hour) else 24 - (if light < hour then hour - light else light - hour))
def fineS (O : mO) (P : mP) (hour : Int) (t : Nat) : Int :=
  let bare := P (5 + t) + likS O P hour t
  let lit := bare + glowS O.2.1 hour / 3
  let prof := if hour % 2 = 0 ∧ t < 3 then lit + 3 else lit
  let hand := if t = 1 then lit + 5 else lit
  if P 1 = 1 then lit - P 3 / 20 else if P 1 = 2 then prof else if P 1 = 3 then hand else if P 1 = 4 then bare - P 3 / 20
  else if P 1 = 5 then (if P 3 < 20 then prof + P 2 else prof) else if P 1 = 6 then hand + P (11 + t % 4) else lit
def offS (O : mO) (P : mP) (hour : Int) (t : Nat) : Bool := decide (O.1 ≤ fineS O P hour t)
def manyS (f : Nat → Bool) : Nat → Nat
  | 0 => 0
  | k + 1 => manyS f k + (if f k = true then 1 else 0)
def bitsS (f : Nat → Bool) : Nat → Nat
  | 0 => 0
  | k + 1 => bitsS f k + (if f k = true then 2 ^ k else 0)
def paysS (O : mO) (P : mP) (hour : Int) : Int := if P 4 = 1 then 0 else O.2.2.1 * (6 - manyS (offS O P hour) 6)
/-- behind n years -/
def ageS (P : mP) : Nat → mP
  | 0 => P
  | n + 1 => let Q := ageS P n
    if Q 3 = 99 then Q else fun i => if i = 3 then Q 3 + 1 else if Q 3 + 1 = 40 ∧ i = 5 + (Q 2 % 6).toNat then 0 else Q i
/-! ===== the reference's store ===== -/
def gonM (J : mI) (p : Nat) : Bool := (J 104 1).toNat.testBit p
def perM (J : mI) (p : Nat) : mP := fun i => match i with
  | 0 => p
  | 1 => J 105 p
  | 2 => J 106 p
  | 3 => J 107 p
  | 4 => if gonM J p = true then 1 else 0
  | i + 5 => if i < 6 then J 108 (6 * p + i) else J 109 (4 * p + (i - 6))
def codesM (J : mI) (c : Nat) : List Int := (List.range ((J 115 c).toNat - (J 114 c).toNat)).map fun k => J 116 ((J 114 c).toNat + k)
def wishM (J : mI) (b : Nat) : Nat → List (Int × List Int)
  | 0 => []
  | k + 1 => wishM J b k ++ (if J 112 (b + k) ≤ 1 then [((if J 112 (b + k) = 0 then J 113 (b + k) else -(J 113 (b + k))), codesM J (b + k))] else [])
def lastM (J : mI) (w : Int) (b : Nat) : Nat → Int → Int
  | 0, x => x
  | k + 1, x => if J 112 (b + k) = w then J 113 (b + k) else lastM J w b k x
def bM (J : mI) : Nat := if J 104 10 < 0 then 0 else 10 * (J 104 10).toNat
def kM (J : mI) : Nat := if J 104 10 < 0 then 0 else (J 111 (J 104 10).toNat).toNat
def offM (J : mI) : mO := (if 0 ≤ J 104 26 then J 104 26 else lastM J 2 (bM J) (kM J) 8, (if lastM J 3 (bM J) (kM J) 18 < 23 then lastM J 3 (bM J) (kM J) 18 else 23), lastM J 4 (bM J) (kM J) 10, wishM J (bM J) (kM J))
