/-! ===== the reference: odds, means, plans, books, judging ===== -/
theorem c_divisor {n d : Nat} {a b : Nat} {I : mI} {L : mL} {c : Nat} {K : mK2} (k : K (some (vi ((Nat.gcd a b : Nat) : Int))) I L c) : C2 n d 191 [vr (some 104), vi (a : Int), vi (b : Int)] I L c K := by
  refine m_divisor ?_
  have go : ∀ N a b : Nat, b ≤ N → K (some (vi ((Nat.gcd a b : Nat) : Int))) I L c → W2 n d 191 5 [none, none, none, some (vi (a : Int)), some (vi (b : Int)), none] [] I L c K := by
    intro N
    induction N with
    | zero =>
      intro a b hb k
      obtain rfl : b = 0 := by omega
      rw [Nat.gcd_zero_right] at k
      refine m_divisor_5 ?_
      rw [if_pos (by omega)]
      exact k
    | succ N ih =>
      intro a b hb k
      refine m_divisor_5 ?_
      by_cases q : b = 0
      · subst q
        rw [Nat.gcd_zero_right] at k
        rw [if_pos (by omega)]
        exact k
      · rw [if_neg (by omega)]
        unfold nzW
        rw [if_neg (by omega), tmod_nn (by omega), show ((a : Int) % (b : Int)) = ((a % b : Nat) : Int) from (Int.natCast_emod a b).symm]
        have := Nat.mod_lt a (Nat.pos_of_ne_zero q)
        refine ih b (a % b) (by omega) ?_
        rw [Nat.gcd_comm a b, Nat.gcd_rec b a, Nat.gcd_comm] at k
        exact k
  exact go b a b (Nat.le_refl _) k
def lowS (a b : Nat) (side : Int) : Int := if side = 0 then ((a / Nat.gcd a b : Nat) : Int) else ((b / Nat.gcd a b : Nat) : Int)
theorem low_aux {a g : Nat} (ha : a < 100000) : wr ((a : Int).tdiv (g : Int)) = ((a / g : Nat) : Int) := by
  rw [tdiv_nn (by omega), show ((a : Int) / (g : Int)) = ((a / g : Nat) : Int) from (Int.natCast_ediv a g).symm]
  have := Nat.div_le_self a g
  generalize a / g = q at *
  rw [wri (by omega)]
theorem c_lowest {n d : Nat} {a b : Nat} {side : Int} {I : mI} {L : mL} {c : Nat} {K : mK2} (ha : a < 100000) (hb : b < 100000) (h0 : 0 < b) (k : K (some (vl (Int64.ofInt (lowS a b side)))) I L c) : C2 n (d + 1) 192 [vr (some 104), vi (a : Int), vi (b : Int), vi side] I L c K := by
  refine m_lowest (c_divisor ?_)
  have hg : Nat.gcd a b ≠ 0 := by
    have := Nat.gcd_pos_of_pos_right a h0
    omega
  unfold lowS at k
  rw [ri_vi]
  unfold nzW
  by_cases s : side = 0
  · rw [if_pos s] at k ⊢
    rw [if_neg (by omega), low_aux ha]
    exact k
  · rw [if_neg s] at k ⊢
    rw [if_neg (by omega), low_aux hb]
    exact k
abbrev noL : Int64 := Int64.ofInt (-9223372036854775808)
def oddS (O : mO) (P : mP) (t : Nat) (side : Int) : Int := lowS (manyS (fun h => offS O P (h : Int) t) 24) 24 side
theorem c_odds {n d : Nat} {p t x : Int} {I : mI} {L : mL} {c : Nat} {K : mK2} (ho : rI I)
    (k1 : ¬ (isP I p ∧ (0 ≤ t ∧ t ≤ 5) ∧ 0 ≤ x ∧ x ≤ 1) → K (some (vl noL)) I L c)
    (k3 : isP I p ∧ (0 ≤ t ∧ t ≤ 5) ∧ 0 ≤ x ∧ x ≤ 1 → ∀ I', eqx [119] I I' → K (some (vl (Int64.ofInt (oddS (offM I) (perM I p.toNat) t.toNat x)))) I' L c) : C2 n (d + 6) 193 [vr (some 104), vi p, vi t, vi x] I L c K := by
  have hn := ho.2.1
  unfold isP at k1 k3
  refine m_odds ?_
  rw [wri (by omega)]
  by_cases r : (0 ≤ p ∧ p < I 104 0) ∧ (0 ≤ t ∧ t ≤ 5) ∧ 0 ≤ x ∧ x ≤ 1
  · rw [if_neg (by omega), if_neg (by omega), if_neg (by omega), if_neg (by omega), if_neg (by omega), if_neg (by omega)]
    have kk := k3 r
    obtain ⟨p, rfl⟩ : ∃ m : Nat, p = m := ⟨p.toNat, by omega⟩
    obtain ⟨t, rfl⟩ : ∃ m : Nat, t = m := ⟨t.toNat, by omega⟩
    rw [Int.toNat_natCast, Int.toNat_natCast] at kk
    unfold oddS at kk
    have hh := ho.2.2.2.1
    have loop := loopN (N := 24) (P := fun j => ∀ I1, eqp [119] 104 2 I I1 → W2 n (d + 6) 193 42 [some (vr (some 104)), some (vi (p : Int)), some (vi (t : Int)), some (vi x), some (vi (I 104 2)), some (vi ((manyS (fun h => offS (offM I) (perM I p) (h : Int) t) j : Nat) : Int)), some (vi (j : Int))] [] I1 L c K) ?_ ?_ 0 (Nat.zero_le _)
    · exact loop I (eqp_rf _ _ _ _)
    · intro I1 x1
      refine m_odds_42 ?_
      rw [if_neg (by omega)]
      have ml := many_le (fun h => offS (offM I) (perM I p) (h : Int) t) 24
      refine c_lowest (b := 24) (by omega) (by omega) (by omega) ?_
      exact kk _ (eqp_end x1 rfl)
    · intro j hj ih I1 x1
      refine m_odds_42 ?_
      rw [if_pos (by omega)]
      have ml := many_le (fun h => offS (offM I) (perM I p) (h : Int) t) j
      have x2 := eqp_up (v := (j : Int)) x1
      have xx : eqx [1002] I (up2 I 104 2 (j : Int)) := eqx_up (eqx_rf _ _) rfl
      refine c_isOff (rI_e x2 rfl rfl (rI_hour ho (by omega))) (by omega) (by omega) ?_
      intro I2 x3
      rw [ri_vi, offM_e x2 rfl, perM_e x2 rfl, offM_e xx rfl, perM_e xx rfl, up2_same, wr_nat (by omega)]
      have ih' := ih I2 (eqp_tr x1 x3)
      by_cases a : offS (offM I) (perM I p) (j : Int) t = true
      · rw [many_t (f := fun h : Nat => offS (offM I) (perM I p) (h : Int) t) a] at ih'
        rw [a, if_neg (by decide), wr_nat (by omega)]
        exact ih'
      · rw [many_f (f := fun h : Nat => offS (offM I) (perM I p) (h : Int) t) (Bool.eq_false_iff.mpr a)] at ih'
        rw [Bool.eq_false_iff.mpr a, if_pos (by decide), wri (by omega), Int.add_zero]
        exact ih'
  · have kk := k1 r
    repeat' (first | exact kk | (exfalso; omega) | refine ite_i (fun _ => ?_) (fun _ => ?_))
def meanS (O : mO) (Ps : Nat → mP) (n : Nat) (h side : Int) : Int := lowS (allS O Ps h n).toNat n side
theorem c_mean {n d : Nat} {p t : Int} {I : mI} {L : mL} {c : Nat} {K : mK2} (ho : rI I)
    (k1 : ¬ ((0 ≤ p ∧ p < 24) ∧ (0 ≤ t ∧ t ≤ 1) ∧ 0 < I 104 0) → K (some (vl noL)) I L c)
    (k3 : (0 ≤ p ∧ p < 24) ∧ (0 ≤ t ∧ t ≤ 1) ∧ 0 < I 104 0 → ∀ I', eqx [119] I I' → K (some (vl (Int64.ofInt (meanS (offM I) (perM I) (nM I) p t)))) I' L c) : C2 n (d + 9) 194 [vr (some 104), vi p, vi t] I L c K := by
  have hn := ho.2.1
  have e0 : I 104 0 = ((nM I : Nat) : Int) := by unfold nM; omega
  refine m_mean ?_
  by_cases r : (0 ≤ p ∧ p < 24) ∧ (0 ≤ t ∧ t ≤ 1) ∧ 0 < I 104 0
  · rw [if_neg (by omega), if_neg (by omega), if_neg (by omega), if_neg (by omega), if_neg (by omega)]
    have kk := k3 r
    unfold meanS at kk
    have loop := loopN (N := nM I) (P := fun j => ∀ I1, eqx [119] I I1 → W2 n (d + 9) 194 34 [some (vr (some 104)), some (vi p), some (vi t), some (vi (allS (offM I) (perM I) p j)), some (vi (j : Int))] [] I1 L c K) ?_ ?_ 0 (Nat.zero_le _)
    · exact loop I (eqx_rf _ _)
    · intro I1 x1
      refine m_mean_34 ?_
      rw [x1 104 0 rfl, if_neg (by omega), e0]
      have b := all_bd (P := perM I) (hour := p) (okO_M ho.1) (n := nM I) (by omega)
      rw [show allS (offM I) (perM I) p (nM I) = (((allS (offM I) (perM I) p (nM I)).toNat : Nat) : Int) by omega]
      refine c_lowest (by omega) (by omega) (by omega) ?_
      exact kk I1 x1
    · intro j hj ih I1 x1
      refine m_mean_34 ?_
      rw [x1 104 0 rfl, if_pos (by omega)]
      refine c_paysAt (rI_e x1 rfl rfl ho) (by omega) r.1 ?_
      intro I2 x2
      have b1 := all_bd (P := perM I) (hour := p) (okO_M ho.1) (n := j) (by omega)
      have b2 := pays_bd (P := perM I j) (hour := p) (okO_M ho.1)
      rw [ri_vi, offM_e x1 rfl, perM_e x1 rfl, wr_nat (by omega), wri (by omega)]
      exact ih I2 (eqx_tr x1 x2)
  · have kk := k1 r
    repeat' (first | exact kk | (exfalso; omega) | refine ite_i (fun _ => ?_) (fun _ => ?_))
/-! books and judging -/
def kI (I : mI) : Prop := (0 ≤ I 104 47 ∧ I 104 47 ≤ 8) ∧ ∀ k, k < (I 104 47).toNat → 0 ≤ I 135 k ∧ I 135 k < I 104 0
def bkM (I : mI) (k : Nat) : Int × Int := (I 135 k, I 136 k)
def lookedS (O : mO) (Ps : Nat → mP) (hour : Int) (bk : Nat → Int × Int) (nb : Nat) : Int := fstS (fun k => !decide (paysS O (Ps (bk k).1.toNat) hour = (bk k).2)) 0 nb
theorem c_looked {n d : Nat} {I : mI} {L : mL} {c : Nat} {K : mK2} (ho : rI I) (hk : kI I) (k : ∀ I', eqx [119] I I' → K (some (vi (lookedS (offM I) (perM I) (I 104 2) (bkM I) (I 104 47).toNat))) I' L c) : C2 n (d + 8) 198 [vr (some 104)] I L c K := by
  have hn := ho.2.1
  refine m_looked ?_
  unfold lookedS at k
  have loop : ∀ m y, y + m = (I 104 47).toNat → (∀ I', eqx [119] I I' → K (some (vi (fstS (fun k => !decide (paysS (offM I) (perM I (bkM I k).1.toNat) (I 104 2) = (bkM I k).2)) y m))) I' L c) → ∀ I1, eqx [119] I I1 →
      W2 n (d + 8) 198 2 [some (vr (some 104)), some (vi (y : Int))] [] I1 L c K := by
    intro m
    induction m with
    | zero =>
      intro y hy kk I1 x1
      refine m_looked_2 ?_
      rw [x1 104 47 rfl, if_neg (by omega)]
      exact kk I1 x1
    | succ m ih =>
      intro y hy kk I1 x1
      have hb := hk.2 y (by omega)
      have hk1 := hk.1
      refine m_looked_2 ?_
      rw [x1 104 47 rfl, if_pos (by omega)]
      refine ⟨by omega, ?_⟩
      rw [Int.toNat_natCast, x1 135 _ rfl, show I 135 y = (((I 135 y).toNat : Nat) : Int) by omega]
      refine c_pays (rI_e x1 rfl rfl ho) (by omega) ?_
      intro I2 x2
      have x3 := eqx_tr x1 x2
      rw [ri_vi, offM_e x1 rfl, perM_e x1 rfl, x1 104 2 rfl, x3 136 _ rfl, wr_nat (by omega)]
      refine ⟨by omega, ?_⟩
      unfold fstS at kk
      by_cases s : paysS (offM I) (perM I (I 135 y).toNat) (I 104 2) = I 136 y
      · rw [if_pos s]
        have e : (!decide (paysS (offM I) (perM I (bkM I y).1.toNat) (I 104 2) = (bkM I y).2)) = false := by
          show (!decide (paysS (offM I) (perM I (I 135 y).toNat) (I 104 2) = I 136 y)) = false
          rw [decide_eq_true s]; rfl
        simp only [e, if_neg (show ¬ (false = true) by decide)] at kk
        exact ih (y + 1) (by omega) kk I2 x3
      · rw [if_neg s]
        have e : (!decide (paysS (offM I) (perM I (bkM I y).1.toNat) (I 104 2) = (bkM I y).2)) = true := by
          show (!decide (paysS (offM I) (perM I (I 135 y).toNat) (I 104 2) = I 136 y)) = true
          rw [decide_eq_false s]; rfl
        simp only [e, if_pos] at kk
        exact kk I2 x3
  exact loop _ 0 (by omega) k I (eqx_rf _ _)
/-- tapes: sorts, lengths in their bounds -/
def tI (I : mI) : Prop := ∀ t, t < 6 → (-1 ≤ I 151 t ∧ I 151 t ≤ 4) ∧ (0 ≤ I 152 t ∧ I 152 t ≤ 60) ∧ (I 151 t = -1 → I 152 t = 0)
/-- judged: from p on, m are left -/
def judgeS (O : mO) (Ps : Nat → mP) (hour : Int) (len i : Int) (it : Nat → Int64) : Nat → Nat → Int
  | _, 0 => -5
  | p, m + 1 => if i < 0 ∨ len - i ≤ p then 100 + (p : Int) else if lcm3 (it (i.toNat + p)) (Int64.ofInt (paysS O (Ps p) hour)) = 0 then judgeS O Ps hour len i it (p + 1) m else (p : Int)
theorem c_judge {n d : Nat} {t i : Int} {I : mI} {L : mL} {c : Nat} {K : mK2} (ho : rI I) (hT : tI I)
    (hi : -2147483648 ≤ i ∧ i < 2147483648)
    (k1 : ¬ (0 ≤ t ∧ t < 6) → K (some (vi (-1))) I L c)
    (k2 : 0 ≤ t ∧ t < 6 → ¬ (I 151 t.toNat = -1 ∨ I 151 t.toNat = 2) → K (some (vi (-12))) I L c)
    (k3 : 0 ≤ t ∧ t < 6 → I 151 t.toNat = -1 ∨ I 151 t.toNat = 2 → ∀ I', eqx [119] I I' → K (some (vi (judgeS (offM I) (perM I) (I 104 2) (I 152 t.toNat) i (fun k => L 153 (60 * t.toNat + k)) 0 (nM I)))) I' L c) : C2 n (d + 8) 199 [vr (some 104), vi t, vi i] I L c K := by
  have hn := ho.2.1
  have e0 : I 104 0 = ((nM I : Nat) : Int) := by unfold nM; omega
  refine m_judge ?_
  by_cases q : 0 ≤ t ∧ t < 6
  · obtain ⟨t, rfl⟩ : ∃ m : Nat, t = m := ⟨t.toNat, by omega⟩
    rw [Int.toNat_natCast] at k2 k3
    have k2 := k2 q
    have k3 := k3 q
    obtain ⟨b1, b2, b3⟩ := hT t (by omega)
    rw [if_neg (by omega), if_neg (by omega), Int.toNat_natCast]
    have main : I 151 t = -1 ∨ I 151 t = 2 → W2 n (d + 8) 199 34 [some (vr (some 104)), some (vi (t : Int)), some (vi i), some (vi 0)] [] I L c K := by
      intro s
      have loop : ∀ m y, y + m = nM I → (∀ I', eqx [119] I I' → K (some (vi (judgeS (offM I) (perM I) (I 104 2) (I 152 t) i (fun k => L 153 (60 * t + k)) y m))) I' L c) → ∀ I1, eqx [119] I I1 →
          W2 n (d + 8) 199 34 [some (vr (some 104)), some (vi (t : Int)), some (vi i), some (vi (y : Int))] [] I1 L c K := by
        intro m
        induction m with
        | zero =>
          intro y hy kk I1 x1
          refine m_judge_34 ?_
          rw [x1 104 0 rfl, if_neg (by omega)]
          exact kk I1 x1
        | succ m ih =>
          intro y hy kk I1 x1
          have k0 := kk I1 x1
          unfold judgeS at kk k0
          refine m_judge_34 ?_
          rw [x1 104 0 rfl, if_pos (by omega)]
          refine ⟨by omega, ?_⟩
          rw [Int.toNat_natCast, x1 151 _ rfl, x1 152 _ rfl, wri (x := 100 + (y : Int)) (by omega), wri (x := I 152 t - (y : Int)) (by omega), wri (x := _ - 1) (by omega)]
          by_cases a1 : I 151 t < 0
          · rw [if_pos a1]
            rw [if_pos (by omega)] at k0
            exact k0
          rw [if_neg a1]
          by_cases a2 : i < 0
          · rw [if_pos a2]
            rw [if_pos (by omega)] at k0
            exact k0
          rw [if_neg a2]
          refine ⟨by omega, ?_⟩
          by_cases a3 : I 152 t - (y : Int) - 1 < i
          · rw [if_pos a3]
            rw [if_pos (by omega)] at k0
            exact k0
          rw [if_neg a3]
          rw [if_neg (by omega)] at k0
          simp only [if_neg (show ¬ (i < 0 ∨ I 152 t - i ≤ (y : Int)) by omega)] at kk
          have e1 : wr (wr (wr (60 * (t : Int)) + i) + (y : Int)) = ((60 * t + (i.toNat + y) : Nat) : Int) := by rw [wri (x := 60 * (t : Int)) (by omega), wri (x := _ + i) (by omega), wri (by omega)]; omega
          rw [e1, Int.toNat_natCast]
          refine ⟨by omega, ?_⟩
          refine c_pays (rI_e x1 rfl rfl ho) (by omega) ?_
          intro I2 x2
          have x3 := eqx_tr x1 x2
          rw [ri_vi, offM_e x1 rfl, perM_e x1 rfl, x1 104 2 rfl, wr_nat (by omega)]
          by_cases a4 : lcm3 (L 153 (60 * t + (i.toNat + y))) (Int64.ofInt (paysS (offM I) (perM I y) (I 104 2))) = 0
          · rw [if_pos a4]
            simp only [if_pos a4] at kk
            exact ih (y + 1) (by omega) kk I2 x3
          · rw [if_neg a4]
            simp only [if_neg a4] at kk
            exact kk I2 x3
      exact loop _ 0 (by omega) (k3 s) I (eqx_rf _ _)
    refine ⟨by omega, ?_⟩
    by_cases s1 : I 151 t < 0
    · rw [if_pos s1]
      exact main (by omega)
    · rw [if_neg s1]
      refine ⟨by omega, ?_⟩
      by_cases s2 : I 151 t = 2
      · rw [if_pos s2]
        exact main (by omega)
      · rw [if_neg s2]
        exact k2 (by omega)
  · have kk := k1 q
    repeat' (first | exact kk | (exfalso; omega) | refine ite_i (fun _ => ?_) (fun _ => ?_))
/-! a plan, row by row -/
def goS (w x : Int) (Q : mP) (h : Int) : mP × Int := if w = 0 then (yearS Q, h) else if w = 1 then (Q, x) else if w = 2 then ((if x = Q 0 then setP Q 4 1 else Q), h) else (Q, (h + 1) % 24)
/-- rows k of m are gone through, from the first on -/
def planS (pl : Nat → Int × Int) (Q : mP) (h : Int) : Nat → mP × Int
  | 0 => (Q, h)
  | m + 1 => goS (pl m).1 (pl m).2 (planS pl Q h m).1 (planS pl Q h m).2
def plM (I : mI) (k : Nat) : Int × Int := (I 133 k, I 134 k)
def lpI (I : mI) : Prop := (0 ≤ I 104 46 ∧ I 104 46 ≤ 10) ∧ ∀ k, k < (I 104 46).toNat → (0 ≤ I 133 k ∧ I 133 k ≤ 3) ∧ (I 133 k = 1 → 0 ≤ I 134 k ∧ I 134 k < 24) ∧ (I 133 k = 2 → 0 ≤ I 134 k ∧ I 134 k < I 104 0)
theorem year0 (Q : mP) : yearS Q 0 = Q 0 := by
  unfold yearS
  split
  · rfl
  · split
    · show (if (0 : Nat) = 5 + (Q 2 % 6).toNat then 0 else if (0 : Nat) = 3 then Q 3 + 1 else Q 0) = Q 0
      rw [if_neg (by omega), if_neg (by decide)]
    · show (if (0 : Nat) = 3 then Q 3 + 1 else Q 0) = Q 0
      rw [if_neg (by decide)]
theorem go0 (w x : Int) (Q : mP) (h : Int) : (goS w x Q h).1 0 = Q 0 := by
  unfold goS
  split
  · exact year0 Q
  · split
    · rfl
    · split
      · show (if x = Q 0 then setP Q 4 1 else Q) 0 = Q 0
        split
        · show (if (0 : Nat) = 4 then 1 else Q 0) = Q 0
          rw [if_neg (by decide)]
        · rfl
      · rfl
theorem plan0 (pl : Nat → Int × Int) (Q : mP) (h : Int) : ∀ m, (planS pl Q h m).1 0 = Q 0
  | 0 => rfl
  | m + 1 => by
    unfold planS
    rw [go0, plan0 pl Q h m]
/-- the hour does not rest on whom -/
theorem planH (pl : Nat → Int × Int) (Q Q' : mP) (h : Int) : ∀ m, (planS pl Q h m).2 = (planS pl Q' h m).2
  | 0 => rfl
  | m + 1 => by
    unfold planS goS
    rw [planH pl Q Q' h m]
    repeat' split
    all_goals first | rfl | exact planH pl Q Q' h m
def endsS (O : mO) (Ps : Nat → mP) (hour : Int) (pl : Nat → Int × Int) (np : Nat) (n : Nat) (what : Int) : Int :=
  if what = 0 then sumS (fun p => paysS O (planS pl (Ps p) hour np).1 (planS pl (Ps p) hour np).2) n
  else sumS (fun p => if (planS pl (Ps p) hour np).1 4 = 1 then 0 else ((manyS (offS O (planS pl (Ps p) hour np).1 (planS pl (Ps p) hour np).2) 6 : Nat) : Int)) n
theorem plan_step (pl : Nat → Int × Int) (Q : mP) (h : Int) (m : Nat) : planS pl Q h (m + 1) = goS (pl m).1 (pl m).2 (planS pl Q h m).1 (planS pl Q h m).2 := rfl
theorem go_0 {w x : Int} {Q : mP} {h : Int} (e : w = 0) : goS w x Q h = (yearS Q, h) := if_pos e
theorem go_1 {w x : Int} {Q : mP} {h : Int} (e : w = 1) : goS w x Q h = (Q, x) := by
  unfold goS
  rw [if_neg (by omega), if_pos e]
theorem go_2 {w x : Int} {Q : mP} {h : Int} (e : w = 2) : goS w x Q h = ((if x = Q 0 then setP Q 4 1 else Q), h) := by
  unfold goS
  rw [if_neg (by omega), if_neg (by omega), if_pos e]
theorem go_3 {w x : Int} {Q : mP} {h : Int} (e : w = 3) : goS w x Q h = (Q, (h + 1) % 24) := by
  unfold goS
  rw [if_neg (by omega), if_neg (by omega), if_neg (by omega)]
theorem plan_hour {pl : Nat → Int × Int} {Q : mP} {h : Int} (hh : 0 ≤ h ∧ h < 24) : ∀ m, (∀ k, k < m → (pl k).1 = 1 → 0 ≤ (pl k).2 ∧ (pl k).2 < 24) → 0 ≤ (planS pl Q h m).2 ∧ (planS pl Q h m).2 < 24
  | 0, _ => hh
  | m + 1, b => by
    have h1 := plan_hour (Q := Q) hh m (fun k hk => b k (by omega))
    have h2 := b m (by omega)
    rw [plan_step]
    unfold goS
    by_cases a0 : (pl m).1 = 0
    · rw [if_pos a0]; exact h1
    rw [if_neg a0]
    by_cases a1 : (pl m).1 = 1
    · rw [if_pos a1]; exact h2 a1
    rw [if_neg a1]
    by_cases a2 : (pl m).1 = 2
    · rw [if_pos a2]; exact h1
    rw [if_neg a2]
    show 0 ≤ ((planS pl Q h m).2 + 1) % 24 ∧ ((planS pl Q h m).2 + 1) % 24 < 24
    omega
set_option maxHeartbeats 1000000 in
theorem c_ends {n d : Nat} {t : Int} {I : mI} {L : mL} {c : Nat} {K : mK2} (ho : rI I) (hy : 0 ≤ I 104 3 ∧ I 104 3 ≤ 9999) (hl : lpI I)
    (k1 : ¬ (0 ≤ t ∧ t ≤ 1) → K (some (vi (-1))) I L c)
    (k3 : 0 ≤ t ∧ t ≤ 1 → ∀ I', eqx lT I I' → K (some (vi (endsS (offM I) (perM I) (I 104 2) (plM I) (I 104 46).toNat (nM I) t))) I' L c) : C2 n (d + 9) 196 [vr (some 104), vi t] I L c K := by
  have hn := ho.2.1
  have e0 : I 104 0 = ((nM I : Nat) : Int) := by unfold nM; omega
  obtain ⟨hl1, hl2⟩ := hl
  refine m_ends ?_
  by_cases r : 0 ≤ t ∧ t ≤ 1
  · rw [if_neg (by omega), if_neg (by omega)]
    have kk := k3 r
    refine c_save ?_
    intro I1 x1 s1
    rw [rv_no]
    have hH := fun (Q : mP) (m : Nat) (hm : m ≤ (I 104 46).toNat) => plan_hour (pl := plM I) (Q := Q) (h := I 104 2) ho.2.2.2.1 m (fun k hk => (hl2 k (by omega)).2.1)
    have loop := loopN (N := (I 104 46).toNat) (P := fun j => ∀ I2, eqx lB I I2 → keptI I I2 → outI I I2 → rI I2 → (∀ p, p < nM I → perM I2 p = (planS (plM I) (perM I p) (I 104 2) j).1) → (∀ Q, I2 104 2 = (planS (plM I) Q (I 104 2) j).2) → 0 ≤ I2 104 3 → I2 104 3 ≤ 9999 + j → offM I2 = offM I →
        W2 n (d + 9) 196 18 [some (vr (some 104)), some (vi t), some (vi (j : Int)), none] [] I2 L c K) ?_ ?_ 0 (Nat.zero_le _)
    · exact loop I1 (eqx_wk rfl x1) s1 (out_e x1 rfl rfl) (rI_e x1 rfl rfl ho) (fun p _ => perM_e x1 rfl p) (fun Q => x1 104 2 rfl) (by rw [x1 104 3 rfl]; omega) (by rw [x1 104 3 rfl]; omega) (offM_e x1 rfl)
    · intro I2 x2 s2 o2 r2 z2 h2 _ _ O2
      refine m_ends_18 ?_
      rw [x2 104 46 rfl, if_neg (by omega)]
      unfold endsS at kk
      generalize hR : (fun p => planS (plM I) (perM I p) (I 104 2) (I 104 46).toNat) = R at *
      have hR' : ∀ p, planS (plM I) (perM I p) (I 104 2) (I 104 46).toNat = R p := fun p => congrFun hR p
      simp only [hR'] at kk
      have n2 : nM I2 = nM I := nM_e x2 rfl
      have loop2 := loopN (N := nM I) (P := fun j => ∀ I3, eqx [119] I2 I3 → W2 n (d + 9) 196 113 [some (vr (some 104)), some (vi t), some (vi (sumS (fun p => if (R p).1 4 = 1 then 0 else ((manyS (offS (offM I) (R p).1 (R p).2) 6 : Nat) : Int)) j)), some (vi (j : Int))] [] I3 L c K) ?_ ?_ 0 (Nat.zero_le _)
      · exact loop2 I2 (eqx_rf _ _)
      · intro I3 x3
        refine m_ends_113 ?_
        rw [x3 104 0 rfl, x2 104 0 rfl, if_neg (by omega)]
        by_cases t0 : t = 0
        · rw [if_pos t0]
          simp only [if_pos t0] at kk
          refine c_allPay (rI_e x3 rfl rfl r2) ?_
          intro I4 x4
          have x34 := eqx_tr x3 x4
          have ev : allS (offM I3) (perM I3) (I3 104 2) (nM I3) = sumS (fun p => paysS (offM I) (R p).1 (R p).2) (nM I) := by
            rw [offM_e x3 rfl, perM_f x3 rfl, x3 104 2 rfl, nM_e x3 rfl, n2, O2]
            refine sum_cg (fun i hi => ?_)
            rw [z2 i hi, h2 (perM I i), hR']
          rw [ri_vi, ev]
          exact c_putBack (eqx_tr x2 (eqx_wk rfl x34)) (kept_e x34 rfl s2) (out_tr o2 (out_e x34 rfl rfl)) kk
        · rw [if_neg t0]
          simp only [if_neg t0] at kk
          exact c_putBack (eqx_tr x2 (eqx_wk rfl x3)) (kept_e x3 rfl s2) (out_tr o2 (out_e x3 rfl rfl)) kk
      · intro j hj ih I3 x3
        have r3 := rI_e x3 rfl rfl r2
        have sb := sum_bd (f := fun p => if (R p).1 4 = 1 then 0 else ((manyS (offS (offM I) (R p).1 (R p).2) 6 : Nat) : Int)) (B := 6) j (fun i _ => by
          have := many_le (offS (offM I) (R i).1 (R i).2) 6
          exact ite_bd (fun _ => by omega) (fun _ => by omega))
        have ml := many_le (offS (offM I) (R j).1 (R j).2) 6
        have ep : perM I3 j = (R j).1 := by rw [perM_e x3 rfl, z2 j hj, hR']
        have eh : I3 104 2 = (R j).2 := by rw [x3 104 2 rfl, h2 (perM I j), hR']
        have e4 : (R j).1 4 = if Nat.testBit (I3 104 1).toNat j = true then 1 else 0 := by rw [← ep]; rfl
        refine m_ends_113 ?_
        rw [x3 104 0 rfl, x2 104 0 rfl, if_pos (by omega), wr_nat (by omega)]
        refine c_has r3.2.2.1 (by omega) ?_
        rw [ri_vi]
        unfold sumS at ih
        by_cases g : Nat.testBit (I3 104 1).toNat j = true
        · rw [if_pos g] at e4 ⊢
          rw [if_neg (by decide)]
          simp only [if_pos e4] at ih
          rw [wri (by omega)]
          exact ih I3 x3
        · rw [if_neg g] at e4 ⊢
          rw [if_pos rfl]
          simp only [if_neg (show ¬ ((R j).1 4 = 1) by omega)] at ih
          refine c_offMany r3 (by omega) ?_
          intro I4 x4
          have O3 : offM I3 = offM I := by rw [offM_e x3 rfl, O2]
          rw [ri_vi, O3, ep, eh, wri (by omega)]
          exact ih I4 (eqx_tr x3 x4)
    · intro j hj ih I2 x2 s2 o2 r2 z2 h2 y2 w2 O2
      obtain ⟨b1, b2, b3⟩ := hl2 j hj
      have n2 : nM I2 = nM I := nM_e x2 rfl
      have e1 : (plM I j).1 = I 133 j := rfl
      have e2 : (plM I j).2 = I 134 j := rfl
      refine m_ends_18 ?_
      rw [x2 104 46 rfl, if_pos (by omega)]
      simp only [Int.toNat_natCast, wr_nat (show j < 1000000 by omega), up2_ne (show (133 : Nat) ≠ 104 by decide), up2_ne (show (134 : Nat) ≠ 104 by decide)]
      refine ⟨by omega, ?_⟩
      have c33 : I2 133 j = I 133 j := x2 133 _ rfl
      have c34 : I2 134 j = I 134 j := x2 134 _ rfl
      by_cases a0 : I 133 j = 0
      · rw [c33, if_pos a0]
        refine c_goYear r2.2 (by omega) ?_
        intro I3 x3 o3 p3 z3 w3
        have d33 : I3 133 j = I 133 j := by rw [x3 133 _ rfl, c33]
        rw [rv_no, d33]
        refine ⟨by omega, ?_⟩
        rw [if_neg (by omega)]
        refine ⟨by omega, ?_⟩
        rw [if_neg (by omega)]
        refine ⟨by omega, ?_⟩
        rw [if_neg (by omega)]
        refine ih I3 (eqx_tr x2 (eqx_wk rfl x3)) (kept_e x3 rfl s2) (out_tr o2 o3) ⟨oI_e x3 rfl r2.1, p3⟩ ?_ ?_ (by omega) (by omega) (by rw [offM_e x3 rfl, O2])
        · intro p hp
          rw [plan_step, go_0 (by rw [e1, a0]), z3, n2]
          unfold allY
          rw [if_pos hp, ← z2 p hp]
          rfl
        · intro Q
          rw [plan_step, go_0 (by rw [e1, a0]), x3 104 2 rfl]
          exact h2 Q
      rw [c33, if_neg a0]
      refine ⟨by omega, ?_⟩
      by_cases a1 : I 133 j = 1
      · rw [if_pos a1]
        refine ⟨by omega, by omega, ?_⟩
        rw [if_neg (by omega)]
        refine ⟨by omega, ?_⟩
        rw [if_neg (by omega)]
        have xx : eqx [1002] I2 (up2 I2 104 2 (I2 134 j)) := eqx_up (eqx_rf _ _) rfl
        have hb := b2 a1
        refine ih _ (eqx_tr x2 (eqx_wk rfl xx)) (kept_e xx rfl s2) (out_tr o2 (out_e xx rfl rfl)) (rI_hour r2 (by rw [c34]; exact hb)) ?_ ?_ (by rw [xx 104 3 rfl]; omega) (by rw [xx 104 3 rfl]; omega) (by rw [offM_e xx rfl, O2])
        · intro p hp
          rw [plan_step, go_1 (by rw [e1, a1]), perM_e xx rfl]
          exact z2 p hp
        · intro Q
          rw [plan_step, go_1 (by rw [e1, a1]), up2_same, c34, e2]
      rw [if_neg a1]
      refine ⟨by omega, ?_⟩
      by_cases a2 : I 133 j = 2
      · rw [if_pos a2]
        refine ⟨by omega, ?_⟩
        have hb := b3 a2
        rw [c34]
        generalize hv : I 134 j = v at *
        obtain ⟨v, rfl⟩ : ∃ m : Nat, v = m := ⟨v.toNat, by omega⟩
        refine c_goes r2.2 (by omega) ?_
        intro I3 x3 p3 z3
        rw [if_neg (by decide)] at z3
        have d33 : I3 133 j = I 133 j := by rw [x3 133 _ rfl, c33]
        rw [rv_no, d33]
        refine ⟨by omega, ?_⟩
        rw [if_neg (by omega)]
        refine ih I3 (eqx_tr x2 (eqx_wk rfl x3)) (kept_e x3 rfl s2) (out_tr o2 (out_e x3 rfl rfl)) ⟨oI_e x3 rfl r2.1, p3⟩ ?_ ?_ (by rw [x3 104 3 rfl]; omega) (by rw [x3 104 3 rfl]; omega) (by rw [offM_e x3 rfl, O2])
        · intro p hp
          rw [plan_step, go_2 (by rw [e1, a2]), z3, e2, plan0, ← z2 p hp]
          unfold updP
          rw [show perM I p 0 = (p : Int) from rfl]
          show _ = (if (v : Int) = (p : Int) then setP (perM I2 p) 4 1 else perM I2 p)
          by_cases r : p = v
          · rw [if_pos r, if_pos (by omega), r]
          · rw [if_neg r, if_neg (by omega)]
        · intro Q
          rw [plan_step, go_2 (by rw [e1, a2]), x3 104 2 rfl]
          exact h2 Q
      rw [if_neg a2]
      refine ⟨by omega, ?_⟩
      have a3 : I 133 j = 3 := by omega
      rw [if_pos a3]
      have hb := r2.2.2.2.1
      have xx : eqx [1002] I2 (up2 I2 104 2 ((wr (I2 104 2 + 1)).tmod 24)) := eqx_up (eqx_rf _ _) rfl
      have ev : (wr (I2 104 2 + 1)).tmod 24 = (I2 104 2 + 1) % 24 := by rw [wri (by omega), tmod_nn (by omega)]
      refine ih _ (eqx_tr x2 (eqx_wk rfl xx)) (kept_e xx rfl s2) (out_tr o2 (out_e xx rfl rfl)) (rI_hour r2 (by rw [ev]; omega)) ?_ ?_ (by rw [xx 104 3 rfl]; omega) (by rw [xx 104 3 rfl]; omega) (by rw [offM_e xx rfl, O2])
      · intro p hp
        rw [plan_step, go_3 (by rw [e1, a3]), perM_e xx rfl]
        exact z2 p hp
      · intro Q
        rw [plan_step, go_3 (by rw [e1, a3]), up2_same, ev, h2 Q]
  · have kk := k1 r
    repeat' (first | exact kk | (exfalso; omega) | refine ite_i (fun _ => ?_) (fun _ => ?_))
