/-! ===== the reference's reads, on ===== -/
def rI (I : mI) : Prop := oI I ∧ pI I
theorem rI_e {l : List Nat} {I I' : mI} (e : eqx l I I') (h1 : nol l lO = true) (h2 : nol l lQ = true) (o : rI I) : rI I' := ⟨oI_e e h1 o.1, pI_e e h2 o.2⟩
theorem per5 (I : mI) (p : Nat) {t : Nat} (h : t < 6) : perM I p (5 + t) = I 108 (6 * p + t) := by
  rw [Nat.add_comm]
  exact if_pos h
theorem per11 (I : mI) (p : Nat) {t : Nat} (h : t < 4) : perM I p (11 + t) = I 109 (4 * p + t) := by
  rw [show 11 + t = (6 + t) + 5 by omega]
  show (if 6 + t < 6 then I 108 (6 * p + (6 + t)) else if 6 + t < 10 then I 109 (4 * p + (6 + t - 6)) else 0) = _
  rw [if_neg (by omega), if_pos (by omega), Nat.add_sub_cancel_left]
theorem c_fine {n d : Nat} {p t : Nat} {I : mI} {L : mL} {c : Nat} {K : mK2} (ho : rI I) (hp : p < 6) (ht : t < 6) (k : ∀ I', eqx [119] I I' → K (some (vi (fineS (offM I) (perM I p) (I 104 2) t))) I' L c) : C2 n (d + 4) 155 [vr (some 104), vi (p : Int), vi (t : Int)] I L c K := by
  have e1 : wr (wr (6 * (p : Int)) + (t : Int)) = ((6 * p + t : Nat) : Int) := by rw [wri (x := 6 * (p : Int)) (by omega), wri (by omega)]; omega
  have e2 : wr (wr (4 * (p : Int)) + (t : Int).tmod 4) = ((4 * p + t % 4 : Nat) : Int) := by rw [tmod_nn (by omega), wri (x := 4 * (p : Int)) (by omega), wri (by omega)]; omega
  refine m_fine ?_
  simp only [e1, e2, Int.toNat_natCast]
  refine ⟨by omega, ?_⟩
  refine c_liking ho.1 ho.2 hp ?_
  intro I1 x
  rw [ri_vi]
  have o1 := rI_e x rfl rfl ho
  refine c_glow o1.1 o1.2.2.2.1 ?_
  rw [ri_vi]
  have kk := k I1 x
  have hl := lik_bd (perM I p) (I 104 2) t (okO_M ho.1)
  have hO := okO_M ho.1
  have hh := ho.2.2.2.1
  have g0 := (glow_bd (offM I).2.1 (I 104 2)).1
  have g1 := (glow_bd (offM I).2.1 (I 104 2)).2 hO.2.1.1 hO.2.1.2 hh.1 hh.2
  have p1 := ho.2.2.2.2.1 p hp
  have p2 := ho.2.2.2.2.2.1 (6 * p + t) (by omega)
  have p3 := ho.2.2.2.2.2.2 (4 * p + t % 4) (by omega)
  rw [offM_e x rfl, x 104 2 rfl]
  rw [x 105 _ rfl, x 106 _ rfl, x 107 _ rfl, x 109 _ rfl]
  unfold fineS at kk
  rw [show perM I p 1 = I 105 p from rfl, show perM I p 2 = I 106 p from rfl, show perM I p 3 = I 107 p from rfl, per5 I p ht, per11 I p (by omega)] at kk
  generalize likS (offM I) (perM I p) (I 104 2) t = lik at *
  generalize glowS (offM I).2.1 (I 104 2) = glow at *
  generalize I 108 (6 * p + t) = gr at *
  generalize I 109 (4 * p + t % 4) = rw1 at *
  generalize I 105 p = kd at *
  generalize I 106 p = v at *
  generalize I 107 p = ag at *
  generalize I 104 2 = hr at *
  have fin : ∀ w : Int, w = (if kd = 1 then gr + lik + glow / 3 - ag / 20
      else if kd = 2 then gr + lik + glow / 3 + (if hr % 2 = 0 ∧ t < 3 then 3 else 0)
      else if kd = 3 then gr + lik + glow / 3 + (if t = 1 then 5 else 0)
      else if kd = 4 then gr + lik - ag / 20
      else if kd = 5 then gr + lik + glow / 3 + (if hr % 2 = 0 ∧ t < 3 then 3 else 0) + (if ag < 20 then v else 0)
      else if kd = 6 then gr + lik + glow / 3 + (if t = 1 then 5 else 0) + rw1
      else gr + lik + glow / 3) → K (some (vi w)) I1 L c := fun w hw => hw ▸ kk
  simp only [tmod_nn hh.1, tdiv_nn g0, tdiv_nn p1.2.2.1]
  clear k kk
  repeat' (first | refine And.intro (by omega) ?_ | refine ite_i (fun _ => ?_) (fun _ => ?_))
  all_goals (refine fin _ ?_; simp (disch := omega) only [if_pos, if_neg, wri]; try omega)
theorem c_isOff {n d : Nat} {p t : Nat} {I : mI} {L : mL} {c : Nat} {K : mK2} (ho : rI I) (hp : p < 6) (ht : t < 6) (k : ∀ I', eqx [119] I I' → K (some (vi (b2i (offS (offM I) (perM I p) (I 104 2) t)))) I' L c) : C2 n (d + 5) 156 [vr (some 104), vi (p : Int), vi (t : Int)] I L c K := by
  refine m_isOff (c_fine ho hp ht ?_)
  intro I1 x
  rw [ri_vi]
  refine c_taste (rI_e x rfl rfl ho).1.1 ?_
  rw [ri_vi, offM_e x rfl]
  have kk := k I1 x
  unfold offS b2i at kk
  by_cases q : fineS (offM I) (perM I p) (I 104 2) t < (offM I).1
  · rw [decide_eq_false (by omega)] at kk; rw [if_pos q]; exact kk
  · rw [decide_eq_true (by omega)] at kk; rw [if_neg q]; exact kk
theorem bior_bit : ∀ k : Fin 6, ∀ b : Fin (2 ^ k.val), bior (b.val : Int) (bshl 1 (k.val : Int)) = ((b.val + 2 ^ k.val : Nat) : Int) := by decide +kernel
theorem bior_0 : ∀ b : Fin 64, bior (b.val : Int) 0 = (b.val : Int) := by decide +kernel
theorem c_offSet {n d : Nat} {p : Nat} {I : mI} {L : mL} {c : Nat} {K : mK2} (ho : rI I) (hp : p < 6) (k : ∀ I', eqx [119] I I' → K (some (vi ((bitsS (offS (offM I) (perM I p) (I 104 2)) 6 : Nat) : Int))) I' L c) : C2 n (d + 6) 157 [vr (some 104), vi (p : Int)] I L c K := by
  refine m_offSet ?_
  have key := loopN (N := 6) (P := fun j => ∀ I', eqx [119] I I' → W2 n (d + 6) 157 4 [some (vr (some 104)), some (vi (p : Int)), some (vi ((bitsS (offS (offM I) (perM I p) (I 104 2)) j : Nat) : Int)), some (vi (j : Int))] [] I' L c K) ?_ ?_ 0 (Nat.zero_le _)
  · exact key I (eqx_rf _ _)
  · intro I1 x
    refine m_offSet_4 ?_
    rw [if_neg (by omega)]
    exact k I1 x
  · intro j hj ih I1 x
    refine m_offSet_4 ?_
    rw [if_pos (by omega)]
    refine c_isOff (rI_e x rfl rfl ho) hp hj ?_
    intro I2 y
    rw [ri_vi, offM_e x rfl, perM_e x rfl, x 104 2 rfl, wr_nat (by omega)]
    have hb := bits_lt (offS (offM I) (perM I p) (I 104 2)) j
    have hb6 : 2 ^ j ≤ 64 := Nat.pow_le_pow_right (by decide) (by omega : j ≤ 6)
    have ih' := ih I2 (eqx_tr x y)
    unfold bitsS at ih'
    by_cases q : offS (offM I) (perM I p) (I 104 2) j = true
    · rw [if_pos q] at ih'
      rw [q]
      rw [if_neg (by decide), bior_bit ⟨j, hj⟩ ⟨_, hb⟩]
      exact ih'
    · rw [if_neg q] at ih'
      rw [Bool.eq_false_iff.mpr q]
      rw [if_pos (by decide), bior_0 ⟨_, by omega⟩]
      exact ih'
theorem c_offMany {n d : Nat} {p : Nat} {I : mI} {L : mL} {c : Nat} {K : mK2} (ho : rI I) (hp : p < 6) (k : ∀ I', eqx [119] I I' → K (some (vi ((manyS (offS (offM I) (perM I p) (I 104 2)) 6 : Nat) : Int))) I' L c) : C2 n (d + 6) 158 [vr (some 104), vi (p : Int)] I L c K := by
  refine m_offMany ?_
  have key := loopN (N := 6) (P := fun j => ∀ I', eqx [119] I I' → W2 n (d + 6) 158 4 [some (vr (some 104)), some (vi (p : Int)), some (vi ((manyS (offS (offM I) (perM I p) (I 104 2)) j : Nat) : Int)), some (vi (j : Int))] [] I' L c K) ?_ ?_ 0 (Nat.zero_le _)
  · exact key I (eqx_rf _ _)
  · intro I1 x
    refine m_offMany_4 ?_
    rw [if_neg (by omega)]
    exact k I1 x
  · intro j hj ih I1 x
    refine m_offMany_4 ?_
    rw [if_pos (by omega)]
    refine c_isOff (rI_e x rfl rfl ho) hp hj ?_
    intro I2 y
    rw [ri_vi, offM_e x rfl, perM_e x rfl, x 104 2 rfl, wr_nat (by omega)]
    have hb := many_le (offS (offM I) (perM I p) (I 104 2)) j
    have ih' := ih I2 (eqx_tr x y)
    unfold manyS at ih'
    by_cases q : offS (offM I) (perM I p) (I 104 2) j = true
    · rw [if_pos q] at ih'
      rw [q]
      rw [if_neg (by decide), wr_nat (by omega)]
      exact ih'
    · rw [if_neg q] at ih'
      rw [Bool.eq_false_iff.mpr q]
      rw [if_pos (by decide), wri (by omega), Int.add_zero]
      exact ih'
theorem c_pays {n d : Nat} {p : Nat} {I : mI} {L : mL} {c : Nat} {K : mK2} (ho : rI I) (hp : p < 6) (k : ∀ I', eqx [119] I I' → K (some (vi (paysS (offM I) (perM I p) (I 104 2)))) I' L c) : C2 n (d + 7) 159 [vr (some 104), vi (p : Int)] I L c K := by
  have hg := ho.2.2.1
  have hr := (okO_M ho.1).2.2.1
  refine m_pays (c_has hg hp ?_)
  rw [ri_vi]
  have e4 : perM I p 4 = if gonM I p = true then 1 else 0 := rfl
  unfold gonM at e4
  by_cases q : Nat.testBit (I 104 1).toNat p = true
  · rw [if_pos q] at e4 ⊢
    rw [if_neg (by decide)]
    have kk := k I (eqx_rf _ _)
    unfold paysS at kk
    rw [e4, if_pos rfl] at kk
    exact kk
  · rw [if_neg q] at e4 ⊢
    rw [if_pos rfl]
    refine c_rate ho.1.1 ?_
    rw [ri_vi]
    refine c_offMany ho hp ?_
    intro I1 x
    have kk := k I1 x
    have h6 := many_le (offS (offM I) (perM I p) (I 104 2)) 6
    have pb := pays_bd (P := perM I p) (hour := I 104 2) (okO_M ho.1)
    unfold paysS at kk pb
    rw [e4, if_neg (by decide)] at kk pb
    rw [ri_vi, wri (x := 6 - _) (by omega), wri (by omega)]
    exact kk
def allS (O : mO) (P : Nat → mP) (hour : Int) (n : Nat) : Int := sumS (fun p => paysS O (P p) hour) n
theorem all_bd {O : mO} {P : Nat → mP} {hour : Int} (hO : okO O) {n : Nat} (hn : n ≤ 6) : 0 ≤ allS O P hour n ∧ allS O P hour n ≤ 3564 := by
  have := sum_bd (f := fun p => paysS O (P p) hour) (B := 594) n (fun i _ => pays_bd hO)
  unfold allS
  omega
def nM (I : mI) : Nat := (I 104 0).toNat
theorem c_allPay {n d : Nat} {I : mI} {L : mL} {c : Nat} {K : mK2} (ho : rI I) (k : ∀ I', eqx [119] I I' → K (some (vi (allS (offM I) (perM I) (I 104 2) (nM I)))) I' L c) : C2 n (d + 8) 160 [vr (some 104)] I L c K := by
  have hn := ho.2.1
  have e0 : (nM I : Int) = I 104 0 := by unfold nM; omega
  refine m_allPay ?_
  have key := loopN (N := nM I) (P := fun j => ∀ I', eqx [119] I I' → W2 n (d + 8) 160 4 [some (vr (some 104)), some (vi (allS (offM I) (perM I) (I 104 2) j)), some (vi (j : Int))] [] I' L c K) ?_ ?_ 0 (Nat.zero_le _)
  · exact key I (eqx_rf _ _)
  · intro I1 x
    refine m_allPay_4 ?_
    rw [x 104 0 rfl, if_neg (by omega)]
    exact k I1 x
  · intro j hj ih I1 x
    refine m_allPay_4 ?_
    rw [x 104 0 rfl, if_pos (by omega)]
    refine c_pays (rI_e x rfl rfl ho) (by omega) ?_
    intro I2 y
    have b1 := all_bd (P := perM I) (hour := I 104 2) (okO_M ho.1) (n := j) (by omega)
    have b2 := pays_bd (P := perM I j) (hour := I 104 2) (okO_M ho.1)
    rw [ri_vi, offM_e x rfl, perM_e x rfl, x 104 2 rfl, wr_nat (by omega), wri (by omega)]
    exact ih I2 (eqx_tr x y)
theorem show_bd (f : Nat → Int) (taste : Int) (hf : ∀ t, t < 6 → -2000 ≤ f t ∧ f t ≤ 2000) : ∀ k, k ≤ 6 → (-5 ≤ (showS f taste k).1 ∧ (showS f taste k).1 < 6) ∧ (-2000 ≤ (showS f taste k).2 ∧ (showS f taste k).2 ≤ 2000)
  | 0, _ => by unfold showS; omega
  | k + 1, h => by
    have h1 := show_bd f taste hf k (by omega)
    have h2 := hf k (by omega)
    unfold showS
    split
    · exact ⟨⟨by show (-5 : Int) ≤ (k : Int); omega, by show (k : Int) < 6; omega⟩, h2⟩
    · exact h1
theorem c_show {n d : Nat} {p : Nat} {I : mI} {L : mL} {c : Nat} {K : mK2} (ho : rI I) (hp : p < 6) (k : ∀ I', eqx [119] I I' → K (some (vi (showS (fineS (offM I) (perM I p) (I 104 2)) (offM I).1 6).1)) I' L c) : C2 n (d + 5) 161 [vr (some 104), vi (p : Int)] I L c K := by
  refine m_show ?_
  generalize hF : fineS (offM I) (perM I p) (I 104 2) = F at *
  have key := loopN (N := 6) (P := fun j => ∀ I', eqx [119] I I' → W2 n (d + 5) 161 8 [some (vr (some 104)), some (vi (p : Int)), some (vi (showS F (offM I).1 j).1), some (vi (showS F (offM I).1 j).2), some (vi (j : Int)), none] [] I' L c K) ?_ ?_ 0 (Nat.zero_le _)
  · exact key I (eqx_rf _ _)
  · intro I1 x
    refine m_show_8 ?_
    rw [if_neg (by omega)]
    exact k I1 x
  · intro j hj ih I1 x
    refine m_show_8 ?_
    rw [if_pos (by omega)]
    refine c_fine (rI_e x rfl rfl ho) hp hj ?_
    intro I2 y
    have z := eqx_tr x y
    rw [ri_vi]
    refine c_taste (rI_e z rfl rfl ho).1.1 ?_
    rw [ri_vi, offM_e z rfl, offM_e x rfl, perM_e x rfl, x 104 2 rfl, hF, wr_nat (by omega)]
    have ih' := ih I2 z
    unfold showS at ih'
    by_cases q1 : F j < (offM I).1
    · rw [if_pos q1]
      by_cases q2 : (showS F (offM I).1 j).1 < 0
      · rw [if_pos q2]; rw [if_pos ⟨q1, Or.inl q2⟩] at ih'; exact ih'
      · rw [if_neg q2]
        by_cases q3 : (showS F (offM I).1 j).2 < F j
        · rw [if_pos q3]; rw [if_pos ⟨q1, Or.inr q3⟩] at ih'; exact ih'
        · rw [if_neg q3]; rw [if_neg (by rintro ⟨_, a | a⟩ <;> contradiction)] at ih'; exact ih'
    · rw [if_neg q1]; rw [if_neg (fun a => q1 a.1)] at ih'; exact ih'
def ofS (O : mO) (P : mP) (hour what : Int) : Int :=
  if 10 ≤ what ∧ what ≤ 15 then P (5 + (what - 10).toNat)
  else if 20 ≤ what ∧ what ≤ 25 then fineS O P hour (what - 20).toNat
  else if 30 ≤ what ∧ what ≤ 35 then likS O P hour (what - 30)
  else if what = 0 then P 1 else if what = 1 then P 2 else if what = 2 then P 3 else if what = 3 then P 4
  else if what = 4 then paysS O P hour else if what = 5 then ((bitsS (offS O P hour) 6 : Nat) : Int)
  else if what = 6 then (showS (fineS O P hour) O.1 6).1 else -1001
theorem c_of {n d : Nat} {p t : Int} {I : mI} {L : mL} {c : Nat} {K : mK2} (ho : rI I) (k : ∀ I', eqx [119] I I' → K (some (vi (if 0 ≤ p ∧ p < I 104 0 then ofS (offM I) (perM I p.toNat) (I 104 2) t else -1001))) I' L c) : C2 n (d + 8) 162 [vr (some 104), vi p, vi t] I L c K := by
  have hn := ho.2.1
  refine m_of ?_
  by_cases q : 0 ≤ p ∧ p < I 104 0
  · rw [if_pos q] at k
    rw [if_neg (by omega), wri (by omega), if_neg (by omega)]
    obtain ⟨p, rfl⟩ : ∃ m : Nat, p = m := ⟨p.toNat, by omega⟩
    rw [Int.toNat_natCast] at k
    have hp : p < 6 := by omega
    have hg := ho.2.2.1
    unfold ofS at k
    by_cases a1 : 10 ≤ t ∧ t ≤ 15
    · rw [if_pos a1] at k
      have e1 : wr (wr (wr (6 * (p : Int)) + t) - 10) = ((6 * p + (t - 10).toNat : Nat) : Int) := by rw [wri (x := 6 * (p : Int)) (by omega), wri (x := _ + t) (by omega), wri (by omega)]; omega
      rw [e1]
      have kk := k I (eqx_rf _ _)
      rw [per5 I p (by omega)] at kk
      simp (disch := omega) only [↓if_pos, ↓if_neg, ↓andp, Int.toNat_natCast]
      exact kk
    rw [if_neg a1] at k
    by_cases a2 : 20 ≤ t ∧ t ≤ 25
    · rw [if_pos a2] at k
      simp (disch := omega) only [↓if_pos, ↓if_neg]
      rw [show wr (t - 20) = (((t - 20).toNat : Nat) : Int) by rw [wri (by omega)]; omega]
      exact c_fine ho hp (by omega) k
    rw [if_neg a2] at k
    by_cases a3 : 30 ≤ t ∧ t ≤ 35
    · rw [if_pos a3] at k
      simp (disch := omega) only [↓if_pos, ↓if_neg]
      rw [wri (x := t - 30) (by omega)]
      exact c_liking ho.1 ho.2 hp k
    rw [if_neg a3] at k
    by_cases b0 : t = 0
    · subst b0
      simp (disch := omega) only [↓if_pos, ↓if_neg, ↓andp, Int.toNat_natCast]
      exact k I (eqx_rf _ _)
    rw [if_neg b0] at k
    by_cases b1 : t = 1
    · subst b1
      simp (disch := omega) only [↓if_pos, ↓if_neg, ↓andp, Int.toNat_natCast]
      exact k I (eqx_rf _ _)
    rw [if_neg b1] at k
    by_cases b2 : t = 2
    · subst b2
      simp (disch := omega) only [↓if_pos, ↓if_neg, ↓andp, Int.toNat_natCast]
      exact k I (eqx_rf _ _)
    rw [if_neg b2] at k
    by_cases b3 : t = 3
    · subst b3
      simp (disch := omega) only [↓if_pos, ↓if_neg]
      refine c_has hg hp ?_
      have kk : K (some (vi (if Nat.testBit (I 104 1).toNat p = true then 1 else 0))) I L c := k I (eqx_rf _ _)
      rw [ri_vi]
      by_cases r : Nat.testBit (I 104 1).toNat p = true
      · rw [if_pos r] at kk ⊢; exact kk
      · rw [if_neg r] at kk ⊢; exact kk
    rw [if_neg b3] at k
    by_cases b4 : t = 4
    · subst b4
      simp (disch := omega) only [↓if_pos, ↓if_neg]
      exact c_pays ho hp k
    rw [if_neg b4] at k
    by_cases b5 : t = 5
    · subst b5
      simp (disch := omega) only [↓if_pos, ↓if_neg]
      exact c_offSet ho hp k
    rw [if_neg b5] at k
    by_cases b6 : t = 6
    · subst b6
      simp (disch := omega) only [↓if_pos, ↓if_neg]
      exact c_show ho hp k
    rw [if_neg b6] at k
    have fin := k I (eqx_rf _ _)
    repeat' (first | exact fin | (exfalso; omega) | split)
  · rw [if_neg q] at k
    have fin := k I (eqx_rf _ _)
    by_cases q1 : p < 0
    · rw [if_pos q1]; exact fin
    · rw [if_neg q1, wri (by omega), if_pos (by omega)]; exact fin
def toldS (O : mO) (P : Nat → mP) (hour year : Int) (n : Nat) (what : Int) : Int :=
  if what = 0 then year else if what = 1 then hour else if what = 2 then O.1 else if what = 3 then O.2.1 else if what = 4 then O.2.2.1 else if what = 5 then glowS O.2.1 hour else if what = 6 then allS O P hour n else -1
theorem c_told {n d : Nat} {t : Int} {I : mI} {L : mL} {c : Nat} {K : mK2} (ho : rI I) (k : ∀ I', eqx [119] I I' → K (some (vi (toldS (offM I) (perM I) (I 104 2) (I 104 3) (nM I) t))) I' L c) : C2 n (d + 9) 163 [vr (some 104), vi t] I L c K := by
  refine m_told ?_
  unfold toldS at k
  have k0 := k I (eqx_rf _ _)
  by_cases b0 : t = 0
  · rw [if_pos b0] at k0 ⊢; exact k0
  rw [if_neg b0] at k0 k ⊢
  by_cases b1 : t = 1
  · rw [if_pos b1] at k0 ⊢; exact k0
  rw [if_neg b1] at k0 k ⊢
  by_cases b2 : t = 2
  · rw [if_pos b2] at k0 ⊢; exact c_taste ho.1.1 k0
  rw [if_neg b2] at k0 k ⊢
  by_cases b3 : t = 3
  · rw [if_pos b3] at k0 ⊢; exact c_light ho.1.1 k0
  rw [if_neg b3] at k0 k ⊢
  by_cases b4 : t = 4
  · rw [if_pos b4] at k0 ⊢; exact c_rate ho.1.1 k0
  rw [if_neg b4] at k0 k ⊢
  by_cases b5 : t = 5
  · rw [if_pos b5] at k0 ⊢; exact c_glow ho.1 ho.2.2.2.1 k0
  rw [if_neg b5] at k0 k ⊢
  by_cases b6 : t = 6
  · rw [if_pos b6] at k ⊢; exact c_allPay ho k
  rw [if_neg b6] at k0 k ⊢
  exact k0
