/-! ===== the class: plans and looks, on the guess ===== -/
def plC (I : mI) (k : Nat) : Int × Int := (I 22 (4 * k), I 22 (4 * k + 1))
theorem okP_f {Q : mP} {b : Int} (h : okP Q) (hb : 0 ≤ b ∧ b ≤ 1) : okP (setP Q 4 b) := by
  obtain ⟨h0, h1, h2, h3, h4, h5⟩ := h
  refine ⟨h0, h1, h2, h3, hb, fun i hi => ?_⟩
  show 0 ≤ (if i = 4 then b else Q i) ∧ (if i = 4 then b else Q i) ≤ 9
  rw [if_neg (by omega)]
  exact h5 i hi
theorem okP_plan {pl : Nat → Int × Int} {Q : mP} {h : Int} (o : okP Q) : ∀ m, okP (planS pl Q h m).1
  | 0 => o
  | m + 1 => by
    rw [plan_step]
    have ih := okP_plan (pl := pl) (h := h) o m
    unfold goS
    split
    · exact okP_year ih
    · split
      · exact ih
      · split
        · show okP (if (pl m).2 = (planS pl Q h m).1 0 then setP (planS pl Q h m).1 4 1 else (planS pl Q h m).1)
          split
          · exact okP_f ih (by decide)
          · exact ih
        · exact ih
theorem set_same {Q : mP} {i : Nat} {x : Int} (h : Q i = x) : setP Q i x = Q := by
  funext j
  show (if j = i then x else Q j) = Q j
  by_cases q : j = i
  · rw [if_pos q, q, h]
  · rw [if_neg q]
theorem x_goByPlan {n d p : Nat} {I : mI} {L : mL} {c : Nat} {K : mK2} (hp : pOk n c p) (hn : p + 3 ≤ 81) (hP : okP (perC I p)) (h2 : 0 ≤ I 17 2 ∧ I 17 2 < 24) (hs : 0 ≤ I 21 2 ∧ I 21 2 ≤ 10) (hl : ∀ k, k < (I 21 2).toNat → (0 ≤ (plC I k).1 ∧ (plC I k).1 ≤ 3) ∧ ((plC I k).1 = 1 → 0 ≤ (plC I k).2 ∧ (plC I k).2 < 24))
    (k : ∀ I', eqx gI3 I I' → perC I' 81 = (planS (plC I) (perC I p) (I 17 2) (I 21 2).toNat).1 → K (some (vi (planS (plC I) (perC I p) (I 17 2) (I 21 2).toNat).2)) I' L c) : C2 n (d + 1) 24 [vr (some 80), vr (some 17), vr (some p)] I L c K := by
  refine As_goByPlan (x_copyP pOk_guess hp (by decide) (by omega) hP.2.2.2.2.1 ?_)
  intro I1 x1 z1
  have hH := fun (m : Nat) (hm : m ≤ (I 21 2).toNat) => plan_hour (pl := plC I) (Q := perC I p) (h := I 17 2) h2 m (fun k hk => (hl k (by omega)).2)
  rw [rv_no, chkE (show TY 17 = 7 from rfl), x1 17 2 rfl]
  have loop := loopN (N := (I 21 2).toNat) (P := fun j => ∀ I2, eqx gI3 I I2 → perC I2 81 = (planS (plC I) (perC I p) (I 17 2) j).1 → W2 n (d + 1) 24 16 [some (vr (some 80)), some (vr (some 17)), some (vr (some p)), some (vi (planS (plC I) (perC I p) (I 17 2) j).2), some (vi (j : Int)), none] [] I2 L c K) ?_ ?_ 0 (Nat.zero_le _)
  · exact loop I1 x1 z1
  · intro I2 x2 z2
    refine As_goByPlan_16 ?_
    rw [chkE (show TY 17 = 7 from rfl), show Rs c 17 6 = some 21 from rfl, drf_s, chkE (show TY 21 = 5 from rfl), x2 21 2 rfl, if_neg (by omega)]
    exact k I2 x2 z2
  · intro j hj ih I2 x2 z2
    obtain ⟨b1, b2⟩ := hl j hj
    refine As_goByPlan_16 ?_
    rw [chkE (show TY 17 = 7 from rfl), show Rs c 17 6 = some 21 from rfl, drf_s, chkE (show TY 21 = 5 from rfl), x2 21 2 rfl, if_pos (by omega), chkE (show TY 17 = 7 from rfl), drf_s, chkE (show TY 21 = 5 from rfl)]
    refine x_cell (j := 1) rOk_p (by decide) (by omega) (by decide) ?_
    rw [ri_vi, chkE (show TY 17 = 7 from rfl), show Rs c 17 6 = some 21 from rfl, drf_s, chkE (show TY 21 = 5 from rfl)]
    refine x_cell0 rOk_p (by decide) (by omega) ?_
    have e1 : I2 22 (4 * j) = (plC I j).1 := x2 22 _ rfl
    have e2 : I2 22 (4 * j + 1) = (plC I j).2 := x2 22 _ rfl
    rw [ri_vi, e1, e2]
    simp only [chkE hp.1, wr_nat (show j < 1000000 by omega)]
    have ok2 := okP_plan (pl := plC I) (h := I 17 2) hP j
    by_cases a0 : (plC I j).1 = 0
    · rw [if_pos a0]
      refine x_grow (y := 1) pOk_guess (by decide) (by rw [z2]; exact ok2) (by decide) ?_
      intro I3 x3 z3
      have ih' := ih I3 (eqx_tr x2 (eqx_wk rfl x3))
      rw [plan_step, go_0 a0] at ih'
      rw [rv_no]
      exact ih' (by rw [z3, z2]; rfl)
    rw [if_neg a0]
    have ih' := ih I2 x2
    rw [plan_step] at ih'
    by_cases a1 : (plC I j).1 = 1
    · rw [if_pos a1]
      rw [go_1 a1] at ih'
      exact ih' z2
    rw [if_neg a1]
    by_cases a2 : (plC I j).1 = 2
    · rw [if_pos a2]
      have f4 : perC I2 81 4 = I2 81 4 := rfl
      have f0 : I2 p 0 = (planS (plC I) (perC I p) (I 17 2) j).1 0 := by
        rw [plan0]
        show I2 p 0 = I p 0
        rw [cell_n x2 (by omega) (by simp [gI3]; omega)]
      have xx : ∀ v, eqx gI3 I (up2 I2 81 4 v) := fun v => eqx_up x2 rfl
      have ih2 := fun v => ih _ (xx v)
      rw [plan_step, go_2 a2] at ih2
      by_cases q4 : I2 81 4 = 0
      · rw [if_pos q4]
        by_cases q0 : (plC I j).2 = I2 p 0
        · rw [if_pos q0]
          refine ih2 1 ?_
          rw [perC_f _ _ _ _ (by decide), z2]
          show _ = (if (plC I j).2 = (planS (plC I) (perC I p) (I 17 2) j).1 0 then _ else _)
          rw [if_pos (by rw [← f0]; exact q0)]
        · rw [if_neg q0]
          refine ih2 0 ?_
          rw [perC_f _ _ _ _ (by decide), z2]
          show _ = (if (plC I j).2 = (planS (plC I) (perC I p) (I 17 2) j).1 0 then _ else _)
          rw [if_neg (by rw [← f0]; exact q0)]
          exact set_same (by rw [← z2, f4, q4])
      · rw [if_neg q4]
        have g4 := ok2.2.2.2.2.1
        rw [← z2, f4] at g4
        refine ih2 1 ?_
        rw [perC_f _ _ _ _ (by decide), z2]
        show _ = (if (plC I j).2 = (planS (plC I) (perC I p) (I 17 2) j).1 0 then _ else _)
        split
        · rfl
        · exact set_same (by rw [← z2, f4]; omega)
    rw [if_neg a2]
    have a3 : (plC I j).1 = 3 := by omega
    rw [go_3 a3] at ih'
    have hb := hH j (by omega)
    rw [wri (by omega), tmod_nn (by omega)]
    exact ih' z2
/-! looks -/
def lkC (I : mI) (k : Nat) : Int × Int × Int × Int := (I 20 (4 * k), I 20 (4 * k + 1), I 20 (4 * k + 2), I 20 (4 * k + 3))
def lCI (I : mI) : Prop := (0 ≤ I 19 2 ∧ I 19 2 ≤ 6) ∧ ∀ k, k < (I 19 2).toNat → (0 ≤ (lkC I k).1 ∧ (lkC I k).1 < I 17 1) ∧ (0 ≤ (lkC I k).2.1 ∧ (lkC I k).2.1 ≤ 5) ∧ (0 ≤ (lkC I k).2.2.1 ∧ (lkC I k).2.2.1 ≤ 1) ∧ (0 ≤ (lkC I k).2.2.2 ∧ (lkC I k).2.2.2 ≤ 20)
abbrev lA : List Nat := [81, 82, 83, 88]
def finL (O : mO) (Ps : Nat → mP) (hour : Int) (lk : Nat → Int × Int × Int × Int) (k : Nat) : Int := fineS O (ageS (Ps (lk k).1.toNat) (lk k).2.2.2.toNat) hour (lk k).2.1.toNat
theorem x_fillLooks {n d h : Nat} {I : mI} {L : mL} {c : Nat} {K : mK2} (ho : oOk n c h) (hr : h = 69 ∨ h = 76 ∨ 155 ≤ h) (oc : oC I h) (hP : cP I) (hl : lCI I) (k : ∀ I', eqx lA I I' → (∀ i, i < (I 19 2).toNat → I' 88 i = finL (offC I h) (perN I) (I 17 2) (lkC I) i) → K none I' L c) : C2 n (d + 4) 21 [vr (some 80), vr (some 17), vr (some h)] I L c K := by
  obtain ⟨p1, p2, p3, p4⟩ := hP
  obtain ⟨l1, l2⟩ := hl
  refine As_fillLooks ?_
  rw [chkE (show TY 17 = 7 from rfl), show Rs c 17 5 = some 19 from rfl, drf_s]
  have loop := loopN (N := (I 19 2).toNat) (P := fun j => ∀ I1, eqx lA I I1 → (∀ i, i < j → I1 88 i = finL (offC I h) (perN I) (I 17 2) (lkC I) i) → W2 n (d + 4) 21 8 [some (vr (some 80)), some (vr (some 17)), some (vr (some h)), some (vr (some 19)), some (vi (j : Int)), none, none] [] I1 L c K) ?_ ?_ 0 (Nat.zero_le _)
  · exact loop I (eqx_rf _ _) (fun i hi => absurd hi (Nat.not_lt_zero _))
  · intro I1 x1 z1
    refine As_fillLooks_8 ?_
    rw [chkE (show TY 19 = 5 from rfl), x1 19 2 rfl, if_neg (by omega)]
    exact k I1 x1 z1
  · intro j hj ih I1 x1 z1
    obtain ⟨⟨w1, w2⟩, ⟨t1, t2⟩, ⟨f1, f2⟩, y1, y2⟩ := l2 j hj
    refine As_fillLooks_8 ?_
    rw [chkE (show TY 19 = 5 from rfl), x1 19 2 rfl, if_pos (by omega), if_pos (by omega), chkE (show TY 19 = 5 from rfl)]
    refine x_cell0 rOk_l (by decide) (by omega) ?_
    have e0 : I1 20 (4 * j) = (lkC I j).1 := x1 20 _ rfl
    rw [ri_vi, e0, if_neg (by omega), if_pos (by omega), chkE (show TY 17 = 7 from rfl), show Rs c 17 0 = some 18 from rfl, drf_s]
    refine chk_i rfl ⟨by rw [show LN n 18 = 6 from rfl]; omega, ?_⟩
    rw [chkE (show TY 19 = 5 from rfl)]
    refine x_cell (j := 3) rOk_l (by decide) (by omega) (by decide) ?_
    have e3 : I1 20 (4 * j + 3) = (lkC I j).2.2.2 := x1 20 _ rfl
    rw [ri_vi, e3, Rs18 (by omega), show (lkC I j).2.2.2 = (((lkC I j).2.2.2.toNat : Nat) : Int) by omega]
    have pe : perC I1 (25 + 3 * (lkC I j).1.toNat) = perN I (lkC I j).1.toNat := perC_n x1 (by omega) (by simp; omega) (by simp; omega) (by simp; omega)
    have po : okP (perN I (lkC I j).1.toNat) := (p3 _ (by omega)).1
    refine x_older (pOk_now (by omega)) (by omega) (by rw [pe]; exact po) (by omega) ?_
    intro I2 x2 z2
    have x12 : eqx lA I I2 := eqx_tr x1 (eqx_wk rfl x2)
    rw [rr_vr, drf_s, chkE (show TY 19 = 5 from rfl)]
    refine x_cell (j := 1) rOk_l (by decide) (by omega) (by decide) ?_
    have e1 : I2 20 (4 * j + 1) = (lkC I j).2.1 := x12 20 _ rfl
    rw [ri_vi, e1, chkE (show TY 17 = 7 from rfl), chkE ho.1, x12 17 2 rfl, show (lkC I j).2.1 = (((lkC I j).2.1.toNat : Nat) : Int) by omega]
    refine x_fine ho pOk_guess (oC_s x12 rfl hr oc) (by rw [z2, pe]; exact okP_age po _) p2 (by omega) ?_
    rw [ri_vi, z2, pe, off_s x12 rfl hr, wr_nat (by omega), Int.toNat_natCast]
    refine ⟨by omega, ih _ (eqx_up x12 rfl) ?_⟩
    intro i hi
    by_cases r : i = j
    · rw [r, up2_same]; rfl
    · rw [up2_at r, cell_n x2 (by decide) (by decide)]
      exact z1 i (by omega)
theorem allB_t {g : Nat → Bool} {k : Nat} (h : allB g k = true) (h2 : g k = true) : allB g (k + 1) = true := by
  show (allB g k && g k) = true
  rw [h, h2]; rfl
theorem allB_f {g : Nat → Bool} {k : Nat} (h2 : g k = false) : allB g (k + 1) = false := by
  show (allB g k && g k) = false
  rw [h2, Bool.and_false]
theorem allB_le {g : Nat → Bool} {k m : Nat} (h : allB g k = false) (hm : k ≤ m) : allB g m = false := by
  have := allB_no h (m - k)
  rw [show k + (m - k) = m by omega] at this
  exact this
def loB (F : Nat → Int) (lk : Nat → Int × Int × Int × Int) (taste : Int) (k : Nat) : Bool := decide (b2i (decide (taste ≤ F k)) = (lk k).2.2.1)
theorem x_areLooksSo {n d : Nat} {taste : Int} {I : mI} {L : mL} {c : Nat} {K : mK2} (hl : lCI I) (k : K (some (vi (b2i (allB (loB (I 88) (lkC I) taste) (I 19 2).toNat)))) I L c) : C2 n (d + 1) 22 [vr (some 80), vr (some 19), vi taste] I L c K := by
  obtain ⟨l1, l2⟩ := hl
  refine As_areLooksSo ?_
  have loop := loopN (N := (I 19 2).toNat) (P := fun j => allB (loB (I 88) (lkC I) taste) j = true → W2 n (d + 1) 22 2 [some (vr (some 80)), some (vr (some 19)), some (vi taste), some (vi (j : Int))] [] I L c K) ?_ ?_ 0 (Nat.zero_le _)
  · exact loop rfl
  · intro h1
    refine As_areLooksSo_2 ?_
    rw [chkE (show TY 19 = 5 from rfl), if_neg (by omega)]
    rw [h1] at k
    exact k
  · intro j hj ih h1
    have fb := (l2 j hj).2.2.1
    have fin : loB (I 88) (lkC I) taste j = false → K (some (vi 0)) I L c := by
      intro h2
      rw [allB_le (allB_f h2) (by omega)] at k
      exact k
    have e2 : I 20 (4 * j + 2) = (lkC I j).2.2.1 := rfl
    refine As_areLooksSo_2 ?_
    rw [chkE (show TY 19 = 5 from rfl), if_pos (by omega), if_pos (by omega), Int.toNat_natCast, wr_nat (by omega)]
    refine ⟨by omega, ?_⟩
    by_cases q : I 88 j < taste
    · rw [if_pos q, chkE (show TY 19 = 5 from rfl)]
      refine x_cell (j := 2) rOk_l (by decide) (by omega) (by decide) ?_
      rw [ri_vi, e2]
      have ev : loB (I 88) (lkC I) taste j = decide ((0 : Int) = (lkC I j).2.2.1) := by
        unfold loB
        rw [decide_eq_false (show ¬ taste ≤ I 88 j by omega)]
        rfl
      by_cases r : (lkC I j).2.2.1 = 1
      · rw [if_pos r]
        exact fin (by rw [ev]; exact decide_eq_false (by omega))
      · rw [if_neg r]
        exact ih (allB_t h1 (by rw [ev]; exact decide_eq_true (by omega)))
    · rw [if_neg q, chkE (show TY 19 = 5 from rfl)]
      refine x_cell (j := 2) rOk_l (by decide) (by omega) (by decide) ?_
      rw [ri_vi, e2]
      have ev : loB (I 88) (lkC I) taste j = decide ((1 : Int) = (lkC I j).2.2.1) := by
        unfold loB
        rw [decide_eq_true (show taste ≤ I 88 j by omega)]
        rfl
      by_cases r : (lkC I j).2.2.1 = 1
      · rw [if_pos r]
        exact ih (allB_t h1 (by rw [ev]; exact decide_eq_true (by omega)))
      · rw [if_neg r]
        exact fin (by rw [ev]; exact decide_eq_false (by omega))
theorem allB_cg {f g : Nat → Bool} : ∀ {m : Nat}, (∀ i, i < m → f i = g i) → allB f m = allB g m
  | 0, _ => rfl
  | m + 1, h => by unfold allB; rw [allB_cg (fun i hi => h i (by omega)), h m (by omega)]
theorem looks_is {O : mO} {Ps : Nat → mP} {hour taste : Int} {lk : Nat → Int × Int × Int × Int} {F : Nat → Int} {m : Nat} (h : ∀ i, i < m → F i = finL O Ps hour lk i) : allB (loB F lk taste) m = looksS (tasS O taste) Ps hour lk m := by
  refine allB_cg (fun i hi => ?_)
  unfold loB
  rw [h i hi]
  rfl
theorem tas_self (O : mO) : tasS O O.1 = O := rfl
theorem x_areLooksSoBy {n d h : Nat} {I : mI} {L : mL} {c : Nat} {K : mK2} (ho : oOk n c h) (hr : h = 69 ∨ h = 76 ∨ 155 ≤ h) (oc : oC I h) (hP : cP I) (hl : lCI I) (k : ∀ I', eqx lA I I' → K (some (vi (b2i (looksS (offC I h) (perN I) (I 17 2) (lkC I) (I 19 2).toNat)))) I' L c) : C2 n (d + 5) 23 [vr (some 80), vr (some 17), vr (some h)] I L c K := by
  refine As_areLooksSoBy (x_fillLooks ho hr oc hP hl ?_)
  intro I1 x1 z1
  have c0 : I1 20 = I 20 := cell_n x1 (by decide) (by decide)
  have c9 : I1 19 = I 19 := cell_n x1 (by decide) (by decide)
  have lk1 : lkC I1 = lkC I := by unfold lkC; rw [c0]
  have h0 : I1 h 0 = (offC I h).1 := by
    rw [← off_s x1 rfl hr]; rfl
  rw [rv_no, chkE (show TY 17 = 7 from rfl), chkE ho.1, show Rs c 17 5 = some 19 from rfl, h0]
  have hl1 : lCI I1 := by
    unfold lCI
    rw [c9, lk1, x1 17 1 rfl]
    exact hl
  refine x_areLooksSo hl1 ?_
  rw [ri_vi, lk1, c9, looks_is z1, tas_self]
  have kk := k I1 x1
  refine b01_i ?_ kk
  unfold b2i
  split <;> omega
