/-! ===== the reference: two of them, tastes, looks ===== -/
/-- all but one place, and but the cells of l -/
def eqp (l : List Nat) (a k : Nat) (I I' : mI) : Prop := ∀ h j, jk l h j = false → ¬ (h = a ∧ j = k) → I' h j = I h j
theorem eqp_rf (l : List Nat) (a k : Nat) (I : mI) : eqp l a k I I := fun _ _ _ _ => rfl
theorem eqp_up {l : List Nat} {a k : Nat} {I I1 : mI} {v : Int} (e : eqp l a k I I1) : eqx l (up2 I a k v) (up2 I1 a k v) := by
  intro h j q
  show (if h = a ∧ j = k then v else I1 h j) = (if h = a ∧ j = k then v else I h j)
  by_cases r : h = a ∧ j = k
  · rw [if_pos r, if_pos r]
  · rw [if_neg r, if_neg r, e h j q r]
theorem eqp_tr {l : List Nat} {a k : Nat} {I I1 I2 : mI} {v : Int} (e : eqp l a k I I1) (x : eqx l (up2 I1 a k v) I2) : eqp l a k I I2 := by
  intro h j q r
  rw [x h j q]
  show (if h = a ∧ j = k then v else I1 h j) = _
  rw [if_neg r, e h j q r]
theorem eqp_end {l : List Nat} {a k : Nat} {I I1 : mI} {v : Int} (e : eqp l a k I I1) (hv : v = I a k) : eqx l I (up2 I1 a k v) := by
  intro h j q
  show (if h = a ∧ j = k then v else I1 h j) = _
  by_cases r : h = a ∧ j = k
  · rw [if_pos r, hv, r.1, r.2]
  · rw [if_neg r, e h j q r]
theorem many_t {f : Nat → Bool} {k : Nat} (h : f k = true) : manyS f (k + 1) = manyS f k + 1 := by
  show manyS f k + (if f k = true then 1 else 0) = _
  rw [if_pos h]
theorem many_f {f : Nat → Bool} {k : Nat} (h : f k = false) : manyS f (k + 1) = manyS f k := by
  show manyS f k + (if f k = true then 1 else 0) = _
  rw [if_neg (by rw [h]; decide)]
  rfl
def jointS (O : mO) (A B : mP) (hour : Int) : Int := O.2.2.1 * (manyS (fun t => !(offS O A hour t || offS O B hour t)) 6 : Nat)
theorem joint_bd {O : mO} {A B : mP} {hour : Int} (hO : okO O) : 0 ≤ jointS O A B hour ∧ jointS O A B hour ≤ 594 := by
  have h3 := hO.2.2.1
  have h6 := many_le (fun t => !(offS O A hour t || offS O B hour t)) 6
  unfold jointS
  generalize manyS (fun t => !(offS O A hour t || offS O B hour t)) 6 = m at *
  have a : (0 : Int) ≤ (m : Int) := by omega
  have b : (m : Int) ≤ 6 := by omega
  have c := Int.mul_nonneg h3.1 a
  have e : O.2.2.1 * (m : Int) ≤ 99 * 6 := Int.mul_le_mul h3.2 b a (by omega)
  omega
theorem c_jointlyOf {n d : Nat} {p q : Nat} {I : mI} {L : mL} {c : Nat} {K : mK2} (ho : rI I) (hp : p < 6) (hq : q < 6) (k : ∀ I', eqx [119] I I' → K (some (vi (jointS (offM I) (perM I p) (perM I q) (I 104 2)))) I' L c) : C2 n (d + 6) 178 [vr (some 104), vi (p : Int), vi (q : Int)] I L c K := by
  refine m_jointlyOf ?_
  have loop := loopN (N := 6) (P := fun j => ∀ I1, eqx [119] I I1 → W2 n (d + 6) 178 5 [some (vr (some 104)), some (vi (p : Int)), some (vi (q : Int)), some (vi ((manyS (fun t => !(offS (offM I) (perM I p) (I 104 2) t || offS (offM I) (perM I q) (I 104 2) t)) j : Nat) : Int)), some (vi (j : Int))] [] I1 L c K) ?_ ?_ 0 (Nat.zero_le _)
  · exact loop I (eqx_rf _ _)
  · intro I1 x1
    refine m_jointlyOf_5 ?_
    rw [if_neg (by omega)]
    refine c_rate (rI_e x1 rfl rfl ho).1.1 ?_
    have bd := joint_bd (A := perM I p) (B := perM I q) (hour := I 104 2) (okO_M ho.1)
    unfold jointS at bd
    rw [ri_vi, offM_e x1 rfl, wri (by omega)]
    exact k I1 x1
  · intro j hj ih I1 x1
    refine m_jointlyOf_5 ?_
    rw [if_pos (by omega)]
    have ml := many_le (fun t => !(offS (offM I) (perM I p) (I 104 2) t || offS (offM I) (perM I q) (I 104 2) t)) j
    refine c_isOff (rI_e x1 rfl rfl ho) hp hj ?_
    intro I2 x2
    have x3 := eqx_tr x1 x2
    rw [ri_vi, offM_e x1 rfl, perM_e x1 rfl, x1 104 2 rfl, wr_nat (show j < 1000000 by omega)]
    by_cases a : offS (offM I) (perM I p) (I 104 2) j = true
    · have ih' := ih I2 x3
      rw [many_f (by rw [a]; rfl)] at ih'
      rw [a]
      rw [if_neg (by decide), wri (by omega), Int.add_zero]
      exact ih'
    · rw [Bool.eq_false_iff.mpr a]
      rw [if_pos (by decide)]
      refine c_isOff (rI_e x3 rfl rfl ho) hq hj ?_
      intro I3 x4
      have ih' := ih I3 (eqx_tr x3 x4)
      rw [ri_vi, offM_e x3 rfl, perM_e x3 rfl, x3 104 2 rfl]
      by_cases b : offS (offM I) (perM I q) (I 104 2) j = true
      · rw [many_f (by rw [b, Bool.or_true]; rfl)] at ih'
        rw [b]
        rw [if_neg (by decide), wri (by omega), Int.add_zero]
        exact ih'
      · rw [many_t (by rw [Bool.eq_false_iff.mpr a, Bool.eq_false_iff.mpr b]; rfl)] at ih'
        rw [Bool.eq_false_iff.mpr b]
        rw [if_pos (by decide), wr_nat (by omega)]
        exact ih'
theorem c_jointly {n d : Nat} {p t : Int} {I : mI} {L : mL} {c : Nat} {K : mK2} (ho : rI I)
    (k1 : ¬ (isP I p ∧ isP I t) → K (some (vi (-1))) I L c)
    (k2 : isP I p ∧ isP I t → p = t → K (some (vi (-2))) I L c)
    (k3 : isP I p ∧ isP I t → p ≠ t → ∀ I', eqx [119] I I' → K (some (vi (jointS (offM I) (perM I p.toNat) (perM I t.toNat) (I 104 2)))) I' L c) : C2 n (d + 7) 179 [vr (some 104), vi p, vi t] I L c K := by
  have hn := ho.2.1
  unfold isP at k1 k2 k3
  refine m_jointly ?_
  rw [wri (by omega)]
  by_cases q : (0 ≤ p ∧ p < I 104 0) ∧ 0 ≤ t ∧ t < I 104 0
  · obtain ⟨p, rfl⟩ : ∃ m : Nat, p = m := ⟨p.toNat, by omega⟩
    obtain ⟨t, rfl⟩ : ∃ m : Nat, t = m := ⟨t.toNat, by omega⟩
    have kk := k3 q
    rw [Int.toNat_natCast, Int.toNat_natCast] at kk
    rw [if_neg (by omega), if_neg (by omega), if_neg (by omega), if_neg (by omega)]
    by_cases r : (p : Int) = t
    · rw [if_pos r]; exact k2 q r
    · rw [if_neg r]
      exact c_jointlyOf ho (by omega) (by omega) (kk r)
  · have kk := k1 q
    repeat' (first | exact kk | (exfalso; omega) | refine ite_i (fun _ => ?_) (fun _ => ?_))
def tasS (O : mO) (m : Int) : mO := (m, O.2)
theorem offM_tas (I : mI) {m : Int} (h : 0 ≤ m) : offM (up2 I 104 26 m) = tasS (offM I) m := by
  have e1 : bM (up2 I 104 26 m) = bM I := rfl
  have e2 : kM (up2 I 104 26 m) = kM I := rfl
  have c2 : up2 I 104 26 m 112 = I 112 := up2_ne (by decide)
  have c3 : up2 I 104 26 m 113 = I 113 := up2_ne (by decide)
  have c4 : up2 I 104 26 m 114 = I 114 := up2_ne (by decide)
  have c5 : up2 I 104 26 m 115 = I 115 := up2_ne (by decide)
  have c6 : up2 I 104 26 m 116 = I 116 := up2_ne (by decide)
  unfold offM tasS
  rw [e1, e2, lastM_c c2 c3, lastM_c c2 c3, lastM_c c2 c3, wishM_c c2 c3 c4 c5 c6, up2_same, if_pos h]
theorem rI_tas {I : mI} {m : Int} (o : rI I) (h : -1 ≤ m ∧ m ≤ 60) : rI (up2 I 104 26 m) := by
  obtain ⟨⟨h1, h2, h3, h4⟩, hp⟩ := o
  refine ⟨⟨h1, h2, ?_, ?_⟩, pI_e (l := [1026]) (eqx_up (eqx_rf _ _) rfl) rfl hp⟩
  · intro i hi
    have := h3 i hi
    rw [show codesM (up2 I 104 26 m) (bM (up2 I 104 26 m) + i) = codesM I (bM I + i) from codesM_c (up2_ne (by decide)) (up2_ne (by decide)) (up2_ne (by decide)) _]
    exact this
  · rw [up2_same]; exact h
def raisesS (O : mO) (Ps : Nat → mP) (hour : Int) (n : Nat) (q : Int) : Int := fstS (fun m => decide (q ≤ allS (tasS O m) Ps hour n)) 0 61
theorem c_raises {n d : Nat} {q : Int} {I : mI} {L : mL} {c : Nat} {K : mK2} (ho : rI I) (ht : I 104 26 = -1)
    (k1 : ¬ (0 ≤ q ∧ q ≤ 9999) → K (some (vi (-2))) I L c)
    (k3 : 0 ≤ q ∧ q ≤ 9999 → ∀ I', eqx [119] I I' → K (some (vi (raisesS (offM I) (perM I) (I 104 2) (nM I) q))) I' L c) : C2 n (d + 9) 185 [vr (some 104), vi q] I L c K := by
  refine m_raises ?_
  by_cases r : 0 ≤ q ∧ q ≤ 9999
  · rw [if_neg (by omega), if_neg (by omega)]
    have loop : ∀ m y, y + m = 61 → (∀ I', eqx [119] I I' → K (some (vi (fstS (fun m => decide (q ≤ allS (tasS (offM I) m) (perM I) (I 104 2) (nM I))) y m))) I' L c) → ∀ I1, eqp [119] 104 26 I I1 →
        W2 n (d + 9) 185 20 [some (vr (some 104)), some (vi q), some (vi (-5)), some (vi (y : Int))] [] I1 L c K := by
      intro m
      induction m with
      | zero =>
        intro y hy kk I1 x1
        refine m_raises_20 ?_
        rw [if_neg (by omega)]
        exact kk _ (eqp_end x1 ht.symm)
      | succ m ih =>
        intro y hy kk I1 x1
        refine m_raises_20 ?_
        rw [if_pos (by omega), if_pos (by decide)]
        have x2 := eqp_up (v := (y : Int)) x1
        have r1 : rI (up2 I 104 26 (y : Int)) := rI_tas ho (by omega)
        refine c_allPay (rI_e x2 rfl rfl r1) ?_
        intro I2 x3
        rw [ri_vi, offM_e x2 rfl, perM_f x2 rfl, nM_e x2 rfl, x2 104 2 rfl, offM_tas I (by omega), wr_nat (by omega)]
        unfold fstS at kk
        have x4 := eqp_tr x1 x3
        by_cases s : q ≤ allS (tasS (offM I) (y : Int)) (perM I) (I 104 2) (nM I)
        · rw [show (if allS (tasS (offM I) (y : Int)) (perM (up2 I 104 26 (y : Int))) (up2 I 104 26 (y : Int) 104 2) (nM (up2 I 104 26 (y : Int))) < q then _ else _) = _ from if_neg (by show ¬ (allS (tasS (offM I) (y : Int)) (perM I) (I 104 2) (nM I) < q); omega)]
          simp only [if_pos (decide_eq_true s)] at kk
          refine m_raises_20 ?_
          refine ite_i (fun _ => ?_) (fun _ => ?_)
          · rw [if_neg (by omega)]
            exact kk _ (eqp_end x4 ht.symm)
          · exact kk _ (eqp_end x4 ht.symm)
        · rw [show (if allS (tasS (offM I) (y : Int)) (perM (up2 I 104 26 (y : Int))) (up2 I 104 26 (y : Int) 104 2) (nM (up2 I 104 26 (y : Int))) < q then _ else _) = _ from if_pos (by show allS (tasS (offM I) (y : Int)) (perM I) (I 104 2) (nM I) < q; omega)]
          simp only [decide_eq_false s, if_neg (show ¬ (false = true) by decide)] at kk
          exact ih (y + 1) (by omega) kk I2 x4
    exact loop 61 0 rfl (k3 r) I (eqp_rf _ _ _ _)
  · have kk := k1 r
    repeat' (first | exact kk | (exfalso; omega) | refine ite_i (fun _ => ?_) (fun _ => ?_))
/-! looks: who, part, off, when -/
def lkM (I : mI) (k : Nat) : Int × Int × Int × Int := (I 129 k, I 130 k, I 132 k, I 131 k)
def lI (I : mI) : Prop := (0 ≤ I 104 41 ∧ I 104 41 ≤ 6) ∧ ∀ k, k < (I 104 41).toNat → (0 ≤ I 129 k ∧ I 129 k < I 104 0) ∧ (0 ≤ I 130 k ∧ I 130 k ≤ 5) ∧ (0 ≤ I 132 k ∧ I 132 k ≤ 1) ∧ (0 ≤ I 131 k ∧ I 131 k ≤ 20)
theorem lI_e {l : List Nat} {I I' : mI} (e : eqx l I I') (h : nol l [104, 1000, 1041, 129, 130, 131, 132] = true) (o : lI I) : lI I' := by
  have n := fun k (hk : k ∈ [104, 1000, 1041, 129, 130, 131, 132]) => nol_e h hk
  unfold lI
  rw [fld_e e (k := 0) (n _ (by decide)) (n _ (by decide)), fld_e e (k := 41) (n _ (by decide)) (n _ (by decide)), cell_e e (h := 129) rfl (n _ (by decide)), cell_e e (h := 130) rfl (n _ (by decide)), cell_e e (h := 131) rfl (n _ (by decide)), cell_e e (h := 132) rfl (n _ (by decide))]
  exact o
theorem lkM_e {l : List Nat} {I I' : mI} (e : eqx l I I') (h : nol l [129, 130, 131, 132] = true) : lkM I' = lkM I := by
  have n := fun k (hk : k ∈ [129, 130, 131, 132]) => nol_e h hk
  funext k
  unfold lkM
  rw [cell_e e (h := 129) rfl (n _ (by decide)), cell_e e (h := 130) rfl (n _ (by decide)), cell_e e (h := 131) rfl (n _ (by decide)), cell_e e (h := 132) rfl (n _ (by decide))]
def seenS (O : mO) (Ps : Nat → mP) (hour : Int) (lk : Nat → Int × Int × Int × Int) (k : Nat) : Bool :=
  decide (b2i (offS O (ageS (Ps (lk k).1.toNat) (lk k).2.2.2.toNat) hour (lk k).2.1.toNat) = (lk k).2.2.1)
def allB (g : Nat → Bool) : Nat → Bool
  | 0 => true
  | k + 1 => allB g k && g k
theorem allB_no {g : Nat → Bool} {k : Nat} (h : allB g k = false) : ∀ m, allB g (k + m) = false
  | 0 => h
  | m + 1 => by
    show (allB g (k + m) && g (k + m)) = false
    rw [allB_no h m]
    rfl
def looksS (O : mO) (Ps : Nat → mP) (hour : Int) (lk : Nat → Int × Int × Int × Int) (n : Nat) : Bool := allB (seenS O Ps hour lk) n
theorem c_isLooked {n d : Nat} {I : mI} {L : mL} {c : Nat} {K : mK2} (ho : rI I) (hy : 0 ≤ I 104 3 ∧ I 104 3 ≤ 9999) (hl : lI I) (k : ∀ I', eqx lT I I' → K (some (vi (b2i (looksS (offM I) (perM I) (I 104 2) (lkM I) (I 104 41).toNat)))) I' L c) : C2 n (d + 6) 187 [vr (some 104)] I L c K := by
  have hn := ho.2.1
  have e0 : I 104 0 = ((nM I : Nat) : Int) := by unfold nM; omega
  refine m_isLooked ?_
  have fin : ∀ (j : Nat) (I1 : mI), eqx lT I I1 → allB (seenS (offM I) (perM I) (I 104 2) (lkM I)) j = false → j ≤ (I 104 41).toNat → W2 n (d + 6) 187 4 [some (vr (some 104)), some (vi 0), some (vi (j : Int))] [] I1 L c K := by
    intro j I1 x1 h1 h2
    have kk := k I1 x1
    unfold looksS at kk
    have := allB_no h1 ((I 104 41).toNat - j)
    rw [show j + ((I 104 41).toNat - j) = (I 104 41).toNat by omega] at this
    rw [this] at kk
    refine m_isLooked_4 ?_
    rw [if_pos rfl]
    exact ite_i (fun _ => kk) (fun _ => kk)
  have loop := loopN (N := (I 104 41).toNat) (P := fun j => ∀ I1, eqx lT I I1 → allB (seenS (offM I) (perM I) (I 104 2) (lkM I)) j = true → W2 n (d + 6) 187 4 [some (vr (some 104)), some (vi 1), some (vi (j : Int))] [] I1 L c K) ?_ ?_ 0 (Nat.zero_le _)
  · exact loop I (eqx_rf _ _) rfl
  · intro I1 x1 h1
    have kk := k I1 x1
    unfold looksS at kk
    rw [h1] at kk
    refine m_isLooked_4 ?_
    rw [x1 104 41 rfl, if_neg (by have := hl.1; omega)]
    exact kk
  · intro j hj ih I1 x1 h1
    obtain ⟨hl1, hl2⟩ := hl
    obtain ⟨⟨w1, w2⟩, ⟨p1, p2⟩, ⟨f1, f2⟩, ⟨y1, y2⟩⟩ := hl2 j hj
    refine m_isLooked_4 ?_
    rw [x1 104 41 rfl, if_pos (by omega), if_neg (by decide)]
    refine c_save ?_
    intro I2 x2 s2
    have x12 : eqx lT I I2 := eqx_tr x1 (eqx_wk rfl x2)
    rw [rv_no, Int.toNat_natCast, x12 131 _ rfl]
    refine ⟨by omega, ?_⟩
    have r1 := rI_e x1 rfl rfl ho
    have r2 := rI_e x2 rfl rfl r1
    rw [show I 131 j = (((I 131 j).toNat : Nat) : Int) by omega]
    refine c_goYears r2.2 (by rw [x12 104 3 rfl]; omega) (by omega) ?_
    intro I3 x3 o3 p3 z3 w3
    have r3 : rI I3 := ⟨oI_e x3 rfl r2.1, p3⟩
    rw [nM_e x12 rfl, perM_f x12 rfl] at z3
    rw [rv_no, x3 129 _ rfl, x12 129 _ rfl, x3 130 _ rfl, x12 130 _ rfl]
    refine ⟨by omega, by omega, ?_⟩
    rw [show I 129 j = (((I 129 j).toNat : Nat) : Int) by omega, show I 130 j = (((I 130 j).toNat : Nat) : Int) by omega]
    refine c_isOff r3 (by omega) (by omega) ?_
    intro I4 x4
    rw [ri_vi, x4 132 _ rfl, x3 132 _ rfl, x12 132 _ rfl, z3, offM_e x3 rfl, offM_e x12 rfl, x3 104 2 rfl, x12 104 2 rfl, wr_nat (by omega)]
    rw [show allY (nM I) (I 131 j).toNat (perM I) (I 129 j).toNat = ageS (perM I (I 129 j).toNat) (I 131 j).toNat by unfold allY; rw [if_pos (by omega)]]
    refine ⟨by omega, ?_⟩
    have s4 : keptI I1 I4 := kept_e x4 rfl (kept_e x3 rfl s2)
    have x14 : eqx lB I1 I4 := eqx_tr (eqx_tr (eqx_wk rfl x2) (eqx_wk rfl x3)) (eqx_wk rfl x4)
    have o14 : outI I1 I4 := out_tr (out_tr (out_e x2 rfl rfl) o3) (out_e x4 rfl rfl)
    by_cases s : b2i (offS (offM I) (ageS (perM I (I 129 j).toNat) (I 131 j).toNat) (I 104 2) (I 130 j).toNat) = I 132 j
    · rw [if_pos s]
      refine c_putBack x14 s4 o14 ?_
      intro I5 x5
      refine ih I5 (eqx_tr x1 x5) ?_
      show (allB _ j && _) = true
      rw [h1]
      exact decide_eq_true s
    · rw [if_neg s]
      refine c_putBack x14 s4 o14 ?_
      intro I5 x5
      refine fin (j + 1) I5 (eqx_tr x1 x5) ?_ (by omega)
      show (allB _ j && _) = false
      rw [h1]
      exact decide_eq_false s
/-- from the highest down, i of N: how many are so, and the last -/
def downS (g : Nat → Bool) (N : Nat) : Nat → Int × Int
  | 0 => (0, -5)
  | i + 1 => if g (N - 1 - i) = true then ((downS g N i).1 + 1, ((N - 1 - i : Nat) : Int)) else downS g N i
theorem down_bd (g : Nat → Bool) (N : Nat) : ∀ i, 0 ≤ (downS g N i).1 ∧ (downS g N i).1 ≤ i
  | 0 => by unfold downS; omega
  | i + 1 => by
    have := down_bd g N i
    unfold downS
    split
    · show 0 ≤ (downS g N i).1 + 1 ∧ (downS g N i).1 + 1 ≤ ((i + 1 : Nat) : Int)
      omega
    · omega
def tastesS (O : mO) (Ps : Nat → mP) (hour : Int) (lk : Nat → Int × Int × Int × Int) (nl : Nat) : Int × Int := downS (fun m => looksS (tasS O m) Ps hour lk nl) 61 61
theorem c_tastes {n d : Nat} {t : Int} {I : mI} {L : mL} {c : Nat} {K : mK2} (ho : rI I) (hy : 0 ≤ I 104 3 ∧ I 104 3 ≤ 9999) (hl : lI I) (ht : I 104 26 = -1)
    (k1 : ¬ (0 ≤ t ∧ t ≤ 1) → K (some (vi (-1))) I L c)
    (k3 : 0 ≤ t ∧ t ≤ 1 → ∀ I', eqx lT I I' → K (some (vi (if t = 0 then (tastesS (offM I) (perM I) (I 104 2) (lkM I) (I 104 41).toNat).1 else (tastesS (offM I) (perM I) (I 104 2) (lkM I) (I 104 41).toNat).2))) I' L c) : C2 n (d + 7) 188 [vr (some 104), vi t] I L c K := by
  refine m_tastes ?_
  by_cases r : 0 ≤ t ∧ t ≤ 1
  · rw [if_neg (by omega), if_neg (by omega)]
    have kk := k3 r
    unfold tastesS at kk
    generalize hg : (fun m : Nat => looksS (tasS (offM I) m) (perM I) (I 104 2) (lkM I) (I 104 41).toNat) = g at *
    have loop := loopN (N := 61) (P := fun j => ∀ I1, eqp lT 104 26 I I1 → W2 n (d + 7) 188 21 [some (vr (some 104)), some (vi t), some (vi (downS g 61 j).1), some (vi (downS g 61 j).2), some (vi (60 - (j : Int)))] [] I1 L c K) ?_ ?_ 0 (Nat.zero_le _)
    · exact loop I (eqp_rf _ _ _ _)
    · intro I1 x1
      refine m_tastes_21 ?_
      rw [if_pos (by omega)]
      have k2 := kk _ (eqp_end x1 ht.symm)
      by_cases s : t = 0
      · rw [if_pos s] at k2 ⊢; exact k2
      · rw [if_neg s] at k2 ⊢; exact k2
    · intro j hj ih I1 x1
      refine m_tastes_21 ?_
      rw [if_neg (by omega), show (60 - (j : Int)) = ((61 - 1 - j : Nat) : Int) by omega]
      have x2 := eqp_up (v := ((61 - 1 - j : Nat) : Int)) x1
      have r1 : rI (up2 I 104 26 ((61 - 1 - j : Nat) : Int)) := rI_tas ho (by omega)
      have xx : eqx [1026] I (up2 I 104 26 ((61 - 1 - j : Nat) : Int)) := eqx_up (eqx_rf _ _) rfl
      refine c_isLooked (rI_e x2 rfl rfl r1) (by rw [x2 104 3 rfl, xx 104 3 rfl]; exact hy) (lI_e x2 rfl (lI_e xx rfl hl)) ?_
      intro I2 x3
      rw [ri_vi, offM_e x2 rfl, perM_f x2 rfl, x2 104 2 rfl, lkM_e x2 rfl, x2 104 41 rfl, offM_tas I (by omega), perM_f xx rfl, xx 104 2 rfl, lkM_e xx rfl, xx 104 41 rfl]
      have ih' := ih I2 (eqp_tr x1 x3)
      unfold downS at ih'
      have hg1 : looksS (tasS (offM I) ((61 - 1 - j : Nat) : Int)) (perM I) (I 104 2) (lkM I) (I 104 41).toNat = g (61 - 1 - j) := congrFun hg _
      have b := down_bd g 61 j
      rw [hg1, wri (by omega), show ((61 - 1 - j : Nat) : Int) + -1 = 60 - ((j + 1 : Nat) : Int) by omega]
      by_cases s : g (61 - 1 - j) = true
      · rw [if_pos s] at ih'
        rw [s, if_neg (by decide), wri (by omega)]
        exact ih'
      · rw [if_neg s] at ih'
        rw [Bool.eq_false_iff.mpr s, if_pos (by decide)]
        exact ih'
  · have kk := k1 r
    repeat' (first | exact kk | (exfalso; omega) | refine ite_i (fun _ => ?_) (fun _ => ?_))
def gracesS (O : mO) (Ps : Nat → mP) (hour : Int) (lk : Nat → Int × Int × Int × Int) (nl : Nat) (p i : Nat) : Int × Int := downS (fun m => looksS O (updP Ps p (setP (Ps p) i m)) hour lk nl) 10 10
theorem c_graces {n d : Nat} {p t x : Int} {I : mI} {L : mL} {c : Nat} {K : mK2} (ho : rI I) (hy : 0 ≤ I 104 3 ∧ I 104 3 ≤ 9999) (hl : lI I)
    (k1 : ¬ (isP I p ∧ (0 ≤ t ∧ t ≤ 5) ∧ 0 ≤ x ∧ x ≤ 1) → K (some (vi (-1))) I L c)
    (k3 : isP I p ∧ (0 ≤ t ∧ t ≤ 5) ∧ 0 ≤ x ∧ x ≤ 1 → ∀ I', eqx lT I I' → K (some (vi (if x = 0 then (gracesS (offM I) (perM I) (I 104 2) (lkM I) (I 104 41).toNat p.toNat (5 + t.toNat)).1 else (gracesS (offM I) (perM I) (I 104 2) (lkM I) (I 104 41).toNat p.toNat (5 + t.toNat)).2))) I' L c) : C2 n (d + 7) 189 [vr (some 104), vi p, vi t, vi x] I L c K := by
  have hn := ho.2.1
  unfold isP at k1 k3
  refine m_graces ?_
  rw [wri (x := I 104 0 - 1) (by omega)]
  by_cases r : (0 ≤ p ∧ p < I 104 0) ∧ (0 ≤ t ∧ t ≤ 5) ∧ 0 ≤ x ∧ x ≤ 1
  · rw [if_neg (by omega), if_neg (by omega), if_neg (by omega), if_neg (by omega), if_neg (by omega), if_neg (by omega)]
    have kk := k3 r
    obtain ⟨p, rfl⟩ : ∃ m : Nat, p = m := ⟨p.toNat, by omega⟩
    obtain ⟨t, rfl⟩ : ∃ m : Nat, t = m := ⟨t.toNat, by omega⟩
    rw [Int.toNat_natCast, Int.toNat_natCast] at kk
    unfold gracesS at kk
    have e1 : wr (wr (6 * (p : Int)) + (t : Int)) = ((6 * p + t : Nat) : Int) := by rw [wri (x := 6 * (p : Int)) (by omega), wri (by omega)]; omega
    rw [e1, Int.toNat_natCast]
    refine ⟨by omega, ?_⟩
    generalize hg : (fun m : Nat => looksS (offM I) (updP (perM I) p (setP (perM I p) (5 + t) m)) (I 104 2) (lkM I) (I 104 41).toNat) = g at *
    have loop := loopN (N := 10) (P := fun j => ∀ I1, eqp lT 108 (6 * p + t) I I1 → W2 n (d + 7) 189 52 [some (vr (some 104)), some (vi (p : Int)), some (vi (t : Int)), some (vi x), some (vi (I 108 (6 * p + t))), some (vi (downS g 10 j).1), some (vi (downS g 10 j).2), some (vi (9 - (j : Int)))] [] I1 L c K) ?_ ?_ 0 (Nat.zero_le _)
    · exact loop I (eqp_rf _ _ _ _)
    · intro I1 x1
      refine m_graces_52 ?_
      rw [if_pos (by omega), e1, Int.toNat_natCast]
      refine ⟨by omega, ?_⟩
      have k2 := kk _ (eqp_end x1 rfl)
      by_cases s : x = 0
      · rw [if_pos s] at k2 ⊢; exact k2
      · rw [if_neg s] at k2 ⊢; exact k2
    · intro j hj ih I1 x1
      refine m_graces_52 ?_
      rw [if_neg (by omega), show (9 - (j : Int)) = ((10 - 1 - j : Nat) : Int) by omega, e1, Int.toNat_natCast]
      refine ⟨by omega, ?_⟩
      have x2 := eqp_up (v := ((10 - 1 - j : Nat) : Int)) x1
      have xx : eqx [108] I (up2 I 108 (6 * p + t) ((10 - 1 - j : Nat) : Int)) := eqx_up (eqx_rf _ _) rfl
      have r1 : rI (up2 I 108 (6 * p + t) ((10 - 1 - j : Nat) : Int)) := ⟨oI_e xx rfl ho.1, pI_up ho.2 (by omega) (by omega) (by omega) (fun _ => by omega) (by omega) (by omega)⟩
      refine c_isLooked (rI_e x2 rfl rfl r1) (by rw [x2 104 3 rfl, xx 104 3 rfl]; exact hy) (lI_e x2 rfl (lI_e xx rfl hl)) ?_
      intro I2 x3
      rw [ri_vi, offM_e x2 rfl, perM_f x2 rfl, x2 104 2 rfl, lkM_e x2 rfl, x2 104 41 rfl, offM_e xx rfl, per_108 I p t _ (by omega), xx 104 2 rfl, lkM_e xx rfl, xx 104 41 rfl]
      have ih' := ih I2 (eqp_tr x1 x3)
      unfold downS at ih'
      have hg1 : looksS (offM I) (updP (perM I) p (setP (perM I p) (5 + t) ((10 - 1 - j : Nat) : Int))) (I 104 2) (lkM I) (I 104 41).toNat = g (10 - 1 - j) := congrFun hg _
      have b := down_bd g 10 j
      rw [hg1, wri (x := _ + -1) (by omega), show ((10 - 1 - j : Nat) : Int) + -1 = 9 - ((j + 1 : Nat) : Int) by omega]
      by_cases s : g (10 - 1 - j) = true
      · rw [if_pos s] at ih'
        rw [s, if_neg (by decide), wri (by omega)]
        exact ih'
      · rw [if_neg s] at ih'
        rw [Bool.eq_false_iff.mpr s, if_pos (by decide)]
        exact ih'
  · have kk := k1 r
    repeat' (first | exact kk | (exfalso; omega) | refine ite_i (fun _ => ?_) (fun _ => ?_))
theorem c_can {n d : Nat} {p x : Int} {I : mI} {L : mL} {c : Nat} {K : mK2} (ho : rI I) (hy : 0 ≤ I 104 3 ∧ I 104 3 ≤ 9999) (hl : lI I)
    (k1 : ¬ (isP I p ∧ 0 ≤ x ∧ x ≤ 1) → K (some (vi (-1))) I L c)
    (k3 : isP I p ∧ 0 ≤ x ∧ x ≤ 1 → ∀ I', eqx lT I I' → K (some (vi (if x = 0 then (gracesS (offM I) (perM I) (I 104 2) (lkM I) (I 104 41).toNat p.toNat 2).1 else (gracesS (offM I) (perM I) (I 104 2) (lkM I) (I 104 41).toNat p.toNat 2).2))) I' L c) : C2 n (d + 7) 190 [vr (some 104), vi p, vi x] I L c K := by
  have hn := ho.2.1
  unfold isP at k1 k3
  refine m_can ?_
  rw [wri (x := I 104 0 - 1) (by omega)]
  by_cases r : (0 ≤ p ∧ p < I 104 0) ∧ 0 ≤ x ∧ x ≤ 1
  · rw [if_neg (by omega), if_neg (by omega), if_neg (by omega), if_neg (by omega)]
    have kk := k3 r
    obtain ⟨p, rfl⟩ : ∃ m : Nat, p = m := ⟨p.toNat, by omega⟩
    rw [Int.toNat_natCast] at kk
    unfold gracesS at kk
    rw [Int.toNat_natCast]
    refine ⟨by omega, ?_⟩
    generalize hg : (fun m : Nat => looksS (offM I) (updP (perM I) p (setP (perM I p) 2 m)) (I 104 2) (lkM I) (I 104 41).toNat) = g at *
    have loop := loopN (N := 10) (P := fun j => ∀ I1, eqp lT 106 p I I1 → W2 n (d + 7) 190 38 [some (vr (some 104)), some (vi (p : Int)), some (vi x), some (vi (I 106 p)), some (vi (downS g 10 j).1), some (vi (downS g 10 j).2), some (vi (9 - (j : Int)))] [] I1 L c K) ?_ ?_ 0 (Nat.zero_le _)
    · exact loop I (eqp_rf _ _ _ _)
    · intro I1 x1
      refine m_can_38 ?_
      rw [if_pos (by omega), Int.toNat_natCast]
      refine ⟨by omega, ?_⟩
      have k2 := kk _ (eqp_end x1 rfl)
      by_cases s : x = 0
      · rw [if_pos s] at k2 ⊢; exact k2
      · rw [if_neg s] at k2 ⊢; exact k2
    · intro j hj ih I1 x1
      refine m_can_38 ?_
      rw [if_neg (by omega), show (9 - (j : Int)) = ((10 - 1 - j : Nat) : Int) by omega, Int.toNat_natCast]
      refine ⟨by omega, ?_⟩
      have x2 := eqp_up (v := ((10 - 1 - j : Nat) : Int)) x1
      have xx : eqx [106] I (up2 I 106 p ((10 - 1 - j : Nat) : Int)) := eqx_up (eqx_rf _ _) rfl
      have r1 : rI (up2 I 106 p ((10 - 1 - j : Nat) : Int)) := ⟨oI_e xx rfl ho.1, pI_up ho.2 (by omega) (fun _ => by omega) (by omega) (by omega) (by omega) (by omega)⟩
      refine c_isLooked (rI_e x2 rfl rfl r1) (by rw [x2 104 3 rfl, xx 104 3 rfl]; exact hy) (lI_e x2 rfl (lI_e xx rfl hl)) ?_
      intro I2 x3
      rw [ri_vi, offM_e x2 rfl, perM_f x2 rfl, x2 104 2 rfl, lkM_e x2 rfl, x2 104 41 rfl, offM_e xx rfl, per_106 I p, xx 104 2 rfl, lkM_e xx rfl, xx 104 41 rfl]
      have ih' := ih I2 (eqp_tr x1 x3)
      unfold downS at ih'
      have hg1 : looksS (offM I) (updP (perM I) p (setP (perM I p) 2 ((10 - 1 - j : Nat) : Int))) (I 104 2) (lkM I) (I 104 41).toNat = g (10 - 1 - j) := congrFun hg _
      have b := down_bd g 10 j
      rw [hg1, wri (x := _ + -1) (by omega), show ((10 - 1 - j : Nat) : Int) + -1 = 9 - ((j + 1 : Nat) : Int) by omega]
      by_cases s : g (10 - 1 - j) = true
      · rw [if_pos s] at ih'
        rw [s, if_neg (by decide), wri (by omega)]
        exact ih'
      · rw [if_neg s] at ih'
        rw [Bool.eq_false_iff.mpr s, if_pos (by decide)]
        exact ih'
  · have kk := k1 r
    repeat' (first | exact kk | (exfalso; omega) | refine ite_i (fun _ => ?_) (fun _ => ?_))
