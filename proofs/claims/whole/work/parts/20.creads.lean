/-! ===== the class: what its cells say of a person, of an office ===== -/
theorem chkE {a b : Nat} {A : Prop} (h : a = b) : chk (Nat.beq a b) A = A := by subst h; rw [show Nat.beq a a = true from Nat.beq_refl a]; rfl
theorem chkE2 {a b : Nat} {A : Prop} (h : a = 100) : chk (Nat.beq a 100 || Nat.beq a b) A = A := by subst h; rfl
theorem drf_s {a : Nat} {f : Nat → Prop} : drf (some a) f = f a := rfl
theorem rr_vr {x : Option Nat} {f : Option Nat → Prop} : rr (some (vr x)) f = f x := rfl
theorem rl_vl {x : Int64} {f : Int64 → Prop} : rl (some (vl x)) f = f x := rfl
def pOk (n c p : Nat) : Prop := TY p = 3 ∧ Rs c p 5 = some (p + 1) ∧ Rs c p 6 = some (p + 2) ∧ TY (p + 1) = 100 ∧ TY (p + 2) = 100 ∧ LN n (p + 1) = 6 ∧ LN n (p + 2) = 4
def oOk (n c h : Nat) : Prop := TY h = 2 ∧ Rs c h 3 = some (h + 1) ∧ Rs c h 4 = some (h + 2) ∧ Rs c h 6 = some (h + 3) ∧ TY (h + 1) = 100 ∧ TY (h + 2) = 100 ∧ TY (h + 3) = 100 ∧ LN n (h + 1) = 10 ∧ LN n (h + 2) = 10 ∧ LN n (h + 3) = 100
def perC (I : mI) (p : Nat) : mP := fun i => match i with
  | 0 => I p 0
  | 1 => I p 1
  | 2 => I p 2
  | 3 => I p 3
  | 4 => I p 4
  | i + 5 => if i < 6 then I (p + 1) i else if i < 10 then I (p + 2) (i - 6) else 0
theorem perC5 (I : mI) (p : Nat) {t : Nat} (h : t < 6) : perC I p (5 + t) = I (p + 1) t := by
  rw [Nat.add_comm]
  exact if_pos h
theorem perC11 (I : mI) (p : Nat) {t : Nat} (h : t < 4) : perC I p (11 + t) = I (p + 2) t := by
  rw [show 11 + t = (6 + t) + 5 by omega]
  show (if 6 + t < 6 then I (p + 1) (6 + t) else if 6 + t < 10 then I (p + 2) (6 + t - 6) else 0) = _
  rw [if_neg (by omega), if_pos (by omega), Nat.add_sub_cancel_left]
/-- a step of the class's code, in the reference's numbers -/
def trC (z : Int) : Int := if z = -1 then -33 else if z = -2 then -38 else if z = -3 then -124 else 1000 * (z / 300) + 100 * (z / 100 % 3) + z % 100
def codesG (I : mI) (a : Nat) : Nat → Nat → List Int
  | _, 0 => []
  | k, m + 1 => trC (I a k) :: codesG I a (k + 1) m
def fromC (I : mI) (h : Nat) : Nat → Nat
  | 0 => 0
  | k + 1 => (I (h + 2) k).toNat
def wishC (I : mI) (h : Nat) : Nat → List (Int × List Int)
  | 0 => []
  | k + 1 => wishC I h k ++ [(I (h + 1) k, codesG I (h + 3) (fromC I h k) (fromC I h (k + 1) - fromC I h k))]
def offC (I : mI) (h : Nat) : mO := (I h 0, I h 1, I h 2, wishC I h (I h 5).toNat)
def oC (I : mI) (h : Nat) : Prop := okO (offC I h) ∧ (0 ≤ I h 5 ∧ I h 5 ≤ 10) ∧ (∀ k, k < (I h 5).toNat → (0 ≤ I (h + 2) k ∧ I (h + 2) k ≤ 100) ∧ fromC I h k ≤ fromC I h (k + 1)) ∧ (∀ k, k < 100 → -3 ≤ I (h + 3) k ∧ I (h + 3) k < 1800)
def bwI (x : Int) (P : Prop) : Prop := 0 ≤ x ∧ x < 24 ∧ P
theorem tr_bd {z : Int} (h : 0 ≤ z ∧ z < 1800) : trC z = 1000 * (z / 300) + 100 * (z / 100 % 3) + z % 100 := by
  unfold trC
  rw [if_neg (by omega), if_neg (by omega), if_neg (by omega)]
theorem x_isSo {n d : Nat} {z t hour : Int} {p : Nat} {I : mI} {L : mL} {c : Nat} {K : mK2} (hp : pOk n c p) (hz : 0 ≤ z ∧ z < 1800) (ha : 0 ≤ I p 3 ∧ I p 3 ≤ 99) (k : K (some (vi (b2i (tstS (perC I p) hour t (trC z))))) I L c) : C2 n d 35 [vi z, vr (some p), vi t, vi hour] I L c K := by
  refine Of_isSo ?_
  simp only [chkE hp.1]
  have t1 : trC z / 1000 = z / 300 := by rw [tr_bd hz]; omega
  have t2 : trC z / 100 % 10 = z / 100 % 3 := by rw [tr_bd hz]; omega
  have t3 : trC z % 100 = z % 100 := by rw [tr_bd hz]; omega
  have w1 : wr (z.tdiv 300) = z / 300 := by rw [tdiv_nn hz.1, wri (by omega)]
  have w2 : (wr (z.tdiv 100)).tmod 3 = z / 100 % 3 := by rw [tdiv_nn hz.1, wri (by omega), tmod_nn (by omega)]
  have w3 : z.tmod 100 = z % 100 := tmod_nn hz.1
  have w4 : wr ((I p 3).tdiv 10) = I p 3 / 10 := by rw [tdiv_nn ha.1, wri (by omega)]
  rw [w1, w2, w3, w4]
  unfold tstS at k
  rw [t1, t2, t3] at k
  rw [show factS (perC I p) hour t (z / 300) = if z / 300 = 0 then I p 0 else if z / 300 = 1 then t else if z / 300 = 2 then I p 1 else if z / 300 = 3 then I p 2 else if z / 300 = 4 then I p 3 / 10 else hour from rfl] at k
  have fin : ∀ f : Int, (if z / 100 % 3 = 0 then decide (f < z % 100) else if z / 100 % 3 = 1 then decide (f = z % 100) else decide (z % 100 < f)) = (if z / 100 % 3 = 0 then decide ((if z / 300 = 0 then I p 0 else if z / 300 = 1 then t else if z / 300 = 2 then I p 1 else if z / 300 = 3 then I p 2 else if z / 300 = 4 then I p 3 / 10 else hour) < z % 100) else if z / 100 % 3 = 1 then decide ((if z / 300 = 0 then I p 0 else if z / 300 = 1 then t else if z / 300 = 2 then I p 1 else if z / 300 = 3 then I p 2 else if z / 300 = 4 then I p 3 / 10 else hour) = z % 100) else decide (z % 100 < (if z / 300 = 0 then I p 0 else if z / 300 = 1 then t else if z / 300 = 2 then I p 1 else if z / 300 = 3 then I p 2 else if z / 300 = 4 then I p 3 / 10 else hour))) → (if z / 100 % 3 = 0 then (if f < z % 100 then K (some (vi 1)) I L c else K (some (vi 0)) I L c) else if z / 100 % 3 = 1 then (if f = z % 100 then K (some (vi 1)) I L c else K (some (vi 0)) I L c) else (if z % 100 < f then K (some (vi 1)) I L c else K (some (vi 0)) I L c)) := by
    intro f hf
    rw [← hf] at k
    by_cases s0 : z / 100 % 3 = 0
    · rw [if_pos s0] at k ⊢
      by_cases r : f < z % 100
      · rw [decide_eq_true r] at k; rw [if_pos r]; exact k
      · rw [decide_eq_false r] at k; rw [if_neg r]; exact k
    rw [if_neg s0] at k ⊢
    by_cases s1 : z / 100 % 3 = 1
    · rw [if_pos s1] at k ⊢
      by_cases r : f = z % 100
      · rw [decide_eq_true r] at k; rw [if_pos r]; exact k
      · rw [decide_eq_false r] at k; rw [if_neg r]; exact k
    rw [if_neg s1] at k ⊢
    by_cases r : z % 100 < f
    · rw [decide_eq_true r] at k; rw [if_pos r]; exact k
    · rw [decide_eq_false r] at k; rw [if_neg r]; exact k
  clear k
  by_cases q0 : z / 300 = 0
  · rw [if_pos q0]; exact fin _ (by simp only [if_pos q0])
  rw [if_neg q0]
  by_cases q1 : z / 300 = 1
  · rw [if_pos q1]; exact fin _ (by simp only [if_neg q0, if_pos q1])
  rw [if_neg q1]
  by_cases q2 : z / 300 = 2
  · rw [if_pos q2]; exact fin _ (by simp only [if_neg q0, if_neg q1, if_pos q2])
  rw [if_neg q2]
  by_cases q3 : z / 300 = 3
  · rw [if_pos q3]; exact fin _ (by simp only [if_neg q0, if_neg q1, if_neg q2, if_pos q3])
  rw [if_neg q3]
  by_cases q4 : z / 300 = 4
  · rw [if_pos q4]; exact fin _ (by simp only [if_neg q0, if_neg q1, if_neg q2, if_neg q3, if_pos q4])
  rw [if_neg q4]; exact fin _ (by simp only [if_neg q0, if_neg q1, if_neg q2, if_neg q3, if_neg q4])
/-! the stack of bits -/
def stV : List Bool → Nat
  | [] => 0
  | a :: r => 2 * stV r + (if a = true then 1 else 0)
theorem stV_lt : ∀ r : List Bool, stV r < 2 ^ r.length
  | [] => by decide
  | a :: r => by
    have := stV_lt r
    rw [List.length_cons, Nat.pow_succ]
    unfold stV
    split <;> omega
theorem b_not0 : ∀ a b : Fin 64, bxor (((64 * a.val + b.val) : Nat) : Int) 1 = ((if (64 * a.val + b.val) % 2 = 1 then (64 * a.val + b.val) - 1 else (64 * a.val + b.val) + 1 : Nat) : Int) := by decide +kernel
theorem b_not {v : Nat} (h : v < 4096) : bxor ((v : Nat) : Int) 1 = ((if v % 2 = 1 then v - 1 else v + 1 : Nat) : Int) := by
  have e := b_not0 ⟨v / 64, by omega⟩ ⟨v % 64, by omega⟩
  dsimp only at e
  rw [Nat.div_add_mod] at e
  exact e
theorem b_and0 : ∀ a b : Fin 64, band (bshr (((64 * a.val + b.val) : Nat) : Int) 1) (bior (((64 * a.val + b.val) : Nat) : Int) (-2)) = ((if (64 * a.val + b.val) % 2 = 1 then (64 * a.val + b.val) / 2 else (64 * a.val + b.val) / 2 - (64 * a.val + b.val) / 2 % 2 : Nat) : Int) := by decide +kernel
theorem b_and {v : Nat} (h : v < 4096) : band (bshr ((v : Nat) : Int) 1) (bior ((v : Nat) : Int) (-2)) = ((if v % 2 = 1 then v / 2 else v / 2 - v / 2 % 2 : Nat) : Int) := by
  have e := b_and0 ⟨v / 64, by omega⟩ ⟨v % 64, by omega⟩
  dsimp only at e
  rw [Nat.div_add_mod] at e
  exact e
theorem b_or0 : ∀ a b : Fin 64, bior (bshr (((64 * a.val + b.val) : Nat) : Int) 1) (band (((64 * a.val + b.val) : Nat) : Int) 1) = ((if (64 * a.val + b.val) % 2 = 1 then (64 * a.val + b.val) / 2 - (64 * a.val + b.val) / 2 % 2 + 1 else (64 * a.val + b.val) / 2 : Nat) : Int) := by decide +kernel
theorem b_or {v : Nat} (h : v < 4096) : bior (bshr ((v : Nat) : Int) 1) (band ((v : Nat) : Int) 1) = ((if v % 2 = 1 then v / 2 - v / 2 % 2 + 1 else v / 2 : Nat) : Int) := by
  have e := b_or0 ⟨v / 64, by omega⟩ ⟨v % 64, by omega⟩
  dsimp only at e
  rw [Nat.div_add_mod] at e
  exact e
theorem b_p00 : ∀ a b : Fin 64, bior (bshl (((64 * a.val + b.val) : Nat) : Int) 1) 0 = ((2 * (64 * a.val + b.val) : Nat) : Int) := by decide +kernel
theorem b_p0 {v : Nat} (h : v < 4096) : bior (bshl ((v : Nat) : Int) 1) 0 = ((2 * v : Nat) : Int) := by
  have e := b_p00 ⟨v / 64, by omega⟩ ⟨v % 64, by omega⟩
  dsimp only at e
  rw [Nat.div_add_mod] at e
  exact e
theorem b_p10 : ∀ a b : Fin 64, bior (bshl (((64 * a.val + b.val) : Nat) : Int) 1) 1 = ((2 * (64 * a.val + b.val) + 1 : Nat) : Int) := by decide +kernel
theorem b_p1 {v : Nat} (h : v < 4096) : bior (bshl ((v : Nat) : Int) 1) 1 = ((2 * v + 1 : Nat) : Int) := by
  have e := b_p10 ⟨v / 64, by omega⟩ ⟨v % 64, by omega⟩
  dsimp only at e
  rw [Nat.div_add_mod] at e
  exact e
theorem b_top0 : ∀ a b : Fin 64, band (((64 * a.val + b.val) : Nat) : Int) 1 = (((64 * a.val + b.val) % 2 : Nat) : Int) := by decide +kernel
theorem b_top {v : Nat} (h : v < 4096) : band ((v : Nat) : Int) 1 = ((v % 2 : Nat) : Int) := by
  have e := b_top0 ⟨v / 64, by omega⟩ ⟨v % 64, by omega⟩
  dsimp only at e
  rw [Nat.div_add_mod] at e
  exact e
theorem stV_c (a : Bool) (r : List Bool) : stV (a :: r) = 2 * stV r + (if a = true then 1 else 0) := rfl
theorem wfz_tst12 {h : Nat} {z : Int} {zs : List Int} (q : ¬ z < 0) (w : wfz h (z :: zs) = true) : h < 12 ∧ wfz (h + 1) zs = true := by
  unfold wfz at w
  rw [if_neg (by omega), if_neg (by omega), Bool.and_eq_true, Bool.and_eq_true, decide_eq_true_eq, Nat.blt_eq] at w
  exact w.2
theorem xholds_loop {n d : Nat} {t hour : Int} {h p b : Nat} {I : mI} {L : mL} {c : Nat} {K : mK2} (ho : oOk n c h) (hp : pOk n c p) (ha : 0 ≤ I p 3 ∧ I p 3 ≤ 99) (hc : ∀ k, k < 100 → -3 ≤ I (h + 3) k ∧ I (h + 3) k < 1800) (hb : b ≤ 100) :
    ∀ (m a : Nat) (st : List Bool), a + m = b → st.length ≤ 12 → wfz st.length (codesG I (h + 3) a m) = true → K (some (vi (b2i (topS ((codesG I (h + 3) a m).foldl (stpS (perC I p) hour t) st))))) I L c →
    W2 n (d + 1) 34 10 [some (vr (some h)), none, some (vi (b : Int)), some (vr (some p)), some (vi t), some (vi hour), some (vi ((stV st : Nat) : Int)), some (vi (a : Int)), none, none] [] I L c K := by
  obtain ⟨o1, o2, o3, o4, o5, o6, o7, o8, o9, o0⟩ := ho
  intro m
  induction m with
  | zero =>
    intro a st hab hl w k
    refine Of_holds_10 ?_
    rw [if_neg (by omega)]
    have w1 : st.length = 1 := Nat.eq_of_beq_eq_true w
    obtain ⟨x, rfl⟩ := List.length_eq_one_iff.mp w1
    cases x with
    | true => rw [if_pos (by decide)]; exact k
    | false => rw [if_neg (by decide)]; exact k
  | succ m ih =>
    intro a st hab hl w k
    refine Of_holds_10 ?_
    simp only [chkE o1, o4, drf_s, chkE2 o7, o0, Int.toNat_natCast, wr_nat (show a < 1000000 by omega)]
    rw [if_pos (by omega), if_pos (by omega)]
    refine ⟨by omega, ?_⟩
    rw [show codesG I (h + 3) a (m + 1) = trC (I (h + 3) a) :: codesG I (h + 3) (a + 1) m from rfl] at w k
    rw [List.foldl_cons] at k
    have hz := hc a (by omega)
    generalize I (h + 3) a = z at *
    have sl := stV_lt st
    have s12 : 2 ^ st.length ≤ 2 ^ 12 := Nat.pow_le_pow_right (by decide) hl
    by_cases q3 : z = -3
    · subst q3
      rw [show trC (-3) = -124 by decide] at w k
      obtain ⟨_, w1, w2⟩ := wfz_two (by decide) (by decide) w
      rw [if_pos rfl]
      cases st with
      | nil => exact absurd w1 (by decide)
      | cons y s =>
      cases s with
      | nil => exact absurd w1 (Nat.lt_irrefl 1)
      | cons x r =>
      have hl' : r.length + 2 ≤ 12 := hl
      have e := b_or (v := stV (y :: x :: r)) (by omega)
      rw [e]
      have e2 : (if stV (y :: x :: r) % 2 = 1 then stV (y :: x :: r) / 2 - stV (y :: x :: r) / 2 % 2 + 1 else stV (y :: x :: r) / 2) = stV ((x || y) :: r) := by
        simp only [stV_c]
        cases x <;> cases y <;> simp <;> omega
      rw [e2]
      exact ih (a + 1) ((x || y) :: r) (by omega) (by rw [List.length_cons]; omega) w2 k
    rw [if_neg q3]
    by_cases q2 : z = -2
    · subst q2
      rw [show trC (-2) = -38 by decide] at w k
      obtain ⟨_, w1, w2⟩ := wfz_two (by decide) (by decide) w
      rw [if_pos rfl]
      cases st with
      | nil => exact absurd w1 (by decide)
      | cons y s =>
      cases s with
      | nil => exact absurd w1 (Nat.lt_irrefl 1)
      | cons x r =>
      have hl' : r.length + 2 ≤ 12 := hl
      have e := b_and (v := stV (y :: x :: r)) (by omega)
      rw [e]
      have e2 : (if stV (y :: x :: r) % 2 = 1 then stV (y :: x :: r) / 2 else stV (y :: x :: r) / 2 - stV (y :: x :: r) / 2 % 2) = stV ((x && y) :: r) := by
        simp only [stV_c]
        cases x <;> cases y <;> simp <;> omega
      rw [e2]
      exact ih (a + 1) ((x && y) :: r) (by omega) (by rw [List.length_cons]; omega) w2 k
    rw [if_neg q2]
    by_cases q1 : z = -1
    · subst q1
      rw [show trC (-1) = -33 by decide] at w k
      obtain ⟨w1, w2⟩ := wfz_not w
      rw [if_pos rfl]
      cases st with
      | nil => exact absurd w1 (by decide)
      | cons x r =>
      have hl' : r.length + 1 ≤ 12 := hl
      have e := b_not (v := stV (x :: r)) (by omega)
      rw [e]
      have e2 : (if stV (x :: r) % 2 = 1 then stV (x :: r) - 1 else stV (x :: r) + 1) = stV ((!x) :: r) := by
        simp only [stV_c]
        cases x <;> simp <;> omega
      rw [e2]
      exact ih (a + 1) ((!x) :: r) (by omega) hl w2 k
    rw [if_neg q1]
    have z0 : 0 ≤ z ∧ z < 1800 := by omega
    have tb : ¬ trC z < 0 := by rw [tr_bd z0]; omega
    obtain ⟨w1, w2⟩ := wfz_tst12 tb w
    have st1 : stpS (perC I p) hour t st (trC z) = tstS (perC I p) hour t (trC z) :: st := by
      unfold stpS
      rw [if_neg (by omega), if_neg tb]
    rw [st1] at k
    refine x_isSo hp z0 ha ?_
    rw [ri_vi]
    have s11 : 2 ^ st.length ≤ 2 ^ 11 := Nat.pow_le_pow_right (by decide) (by omega)
    cases hb : tstS (perC I p) hour t (trC z) with
    | true =>
      rw [hb] at k
      rw [if_neg (by decide)]
      have e := b_p1 (v := stV st) (by omega)
      rw [e]
      exact ih (a + 1) (true :: st) (by omega) (by rw [List.length_cons]; omega) w2 k
    | false =>
      rw [hb] at k
      rw [if_pos (by decide)]
      have e := b_p0 (v := stV st) (by omega)
      rw [e]
      exact ih (a + 1) (false :: st) (by omega) (by rw [List.length_cons]; omega) w2 k
theorem x_holds {n d : Nat} {t hour : Int} {h p a b : Nat} {I : mI} {L : mL} {c : Nat} {K : mK2} (ho : oOk n c h) (hp : pOk n c p) (ha : 0 ≤ I p 3 ∧ I p 3 ≤ 99) (hc : ∀ k, k < 100 → -3 ≤ I (h + 3) k ∧ I (h + 3) k < 1800) (hab : a ≤ b) (hb : b ≤ 100) (w : wfz 0 (codesG I (h + 3) a (b - a)) = true) (k : K (some (vi (b2i (evS (perC I p) hour t (codesG I (h + 3) a (b - a)))))) I L c) : C2 n (d + 1) 34 [vr (some h), vi (a : Int), vi (b : Int), vr (some p), vi t, vi hour] I L c K := by
  refine Of_holds ?_
  rw [show (if (0 : Int) < (a : Int) then (a : Int) else 0) = (a : Int) by split <;> omega]
  exact xholds_loop ho hp ha hc hb (b - a) a [] (by omega) (by decide) w k
theorem wishC_step (I : mI) (h k : Nat) : wishC I h (k + 1) = wishC I h k ++ [(I (h + 1) k, codesG I (h + 3) (fromC I h k) (fromC I h (k + 1) - fromC I h k))] := rfl
theorem wishC_mem (I : mI) (h : Nat) : ∀ m k, k < m → (I (h + 1) k, codesG I (h + 3) (fromC I h k) (fromC I h (k + 1) - fromC I h k)) ∈ wishC I h m
  | 0, k, hk => absurd hk (Nat.not_lt_zero _)
  | m + 1, k, hk => by
    rw [wishC_step, List.mem_append]
    by_cases e : k = m
    · subst e
      exact Or.inr (List.mem_singleton.mpr rfl)
    · exact Or.inl (wishC_mem I h m k (by omega))
theorem wishC_pre (I : mI) (h : Nat) : ∀ m w, w ∈ wishC I h m → ∀ j, m ≤ j → w ∈ wishC I h j
  | m, w, hw, 0, hj => by
    obtain rfl : m = 0 := by omega
    exact hw
  | m, w, hw, j + 1, hj => by
    by_cases e : m = j + 1
    · subst e; exact hw
    · rw [wishC_step, List.mem_append]
      exact Or.inl (wishC_pre I h m w hw j (by omega))
theorem wishC_len (I : mI) (h : Nat) : ∀ k, (wishC I h k).length = k
  | 0 => rfl
  | k + 1 => by rw [wishC_step, List.length_append, wishC_len I h k]; rfl
theorem x_liking {n d : Nat} {t hour : Int} {h p : Nat} {I : mI} {L : mL} {c : Nat} {K : mK2} (ho : oOk n c h) (hp : pOk n c p) (oc : oC I h) (hP : okP (perC I p)) (k : K (some (vi (likS (offC I h) (perC I p) hour t))) I L c) : C2 n (d + 2) 33 [vr (some h), vr (some p), vi t, vi hour] I L c K := by
  have ho' := ho
  obtain ⟨o1, o2, o3, o4, o5, o6, o7, o8, o9, o0⟩ := ho
  obtain ⟨c1, c2, c3, c4⟩ := oc
  have ha : 0 ≤ I p 3 ∧ I p 3 ≤ 99 := hP.2.2.2.1
  refine Of_liking ?_
  have hw := c1.2.2.2.2
  have bd := fun j (hj : j ≤ (I h 5).toNat) => add_bd (perC I p) hour t (wishC I h j) 0 (fun w hw' => (hw w (wishC_pre I h j w hw' _ hj)).1)
  have key := loopN (N := (I h 5).toNat) (P := fun j => W2 n (d + 2) 33 9 [some (vr (some h)), some (vr (some p)), some (vi t), some (vi hour), some (vi ((wishC I h j).foldl (addS (perC I p) hour t) 0)), some (vi ((fromC I h j : Nat) : Int)), some (vi (j : Int))] [] I L c K) ?_ ?_ 0 (Nat.zero_le _)
  · exact key
  · refine Of_liking_9 ?_
    rw [chkE o1, if_neg (by omega)]
    exact k
  · intro j hj ih
    obtain ⟨g1, g2⟩ := c3 j hj
    have e1 : I (h + 2) j = ((fromC I h (j + 1) : Nat) : Int) := by
      show I (h + 2) j = (((I (h + 2) j).toNat : Nat) : Int)
      omega
    have w1 := hw _ (wishC_mem I h _ j hj)
    have b1 := bd j (by omega)
    have b2 := wishC_len I h j
    refine Of_liking_9 ?_
    simp only [chkE o1, o2, o3, o4, drf_s, chkE2 o5, chkE2 o6, o8, o9, Int.toNat_natCast, wr_nat (show j < 1000000 by omega)]
    rw [if_pos (by omega), if_pos (by omega)]
    refine ⟨by omega, ?_⟩
    rw [e1]
    refine x_holds ho' hp ha c4 g2 (by omega) w1.2 ?_
    rw [wishC_step, List.foldl_append, List.foldl_cons, List.foldl_nil] at ih
    unfold addS at ih
    simp only [ri_vi, chkE o1, o2, o3, drf_s, chkE2 o5, chkE2 o6, o8, o9, e1]
    have w2 := w1.1
    dsimp only at w2
    by_cases q : evS (perC I p) hour t (codesG I (h + 3) (fromC I h j) (fromC I h (j + 1) - fromC I h j)) = true
    · rw [q]
      rw [if_pos q] at ih
      rw [if_neg (by decide)]
      refine ⟨by omega, by omega, ?_⟩
      rw [wri (by omega)]
      exact ih
    · rw [if_neg q] at ih
      rw [Bool.eq_false_iff.mpr q]
      rw [if_pos (by decide)]
      exact ⟨by omega, ih⟩
theorem x_glow {n d : Nat} {hour : Int} {h : Nat} {I : mI} {L : mL} {c : Nat} {K : mK2} (ho : oOk n c h) (oc : oC I h) (hh : 0 ≤ hour ∧ hour < 24) (k : K (some (vi (glowS (offC I h).2.1 hour))) I L c) : C2 n d 29 [vr (some h), vi hour] I L c K := by
  have hl : 0 ≤ I h 1 ∧ I h 1 < 24 := oc.1.2.1
  refine Of_glow ?_
  rw [chkE ho.1]
  rw [show (offC I h).2.1 = I h 1 from rfl] at k
  generalize I h 1 = l at *
  unfold glowS farS at k
  rw [wri (x := hour - l) (by omega), wri (x := if 0 ≤ hour - l then hour - l else 0 - (hour - l)) (by split <;> omega)]
  rw [show (if 0 ≤ hour - l then hour - l else 0 - (hour - l)) = (if l < hour then hour - l else l - hour) by split <;> split <;> omega]
  have hf : 0 ≤ (if l < hour then hour - l else l - hour) ∧ (if l < hour then hour - l else l - hour) < 24 := by split <;> omega
  generalize (if l < hour then hour - l else l - hour) = far at *
  rw [wri (x := 24 - far) (by omega)]
  rw [show (if 24 - far < far then 24 - far else far) = (if far < 24 - far then far else 24 - far) by split <;> split <;> omega]
  have hg : 0 ≤ (if far < 24 - far then far else 24 - far) ∧ (if far < 24 - far then far else 24 - far) ≤ 24 := by split <;> omega
  generalize (if far < 24 - far then far else 24 - far) = g at *
  rw [wri (x := 9 - g) (by omega)]
  rw [show (if 0 < 9 - g then 9 - g else 0) = (if 9 - g < 0 then 0 else 9 - g) by split <;> split <;> omega]
  exact k
