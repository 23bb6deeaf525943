/-! ===== the same call of both: the image, acts, counts ===== -/
theorem OF_16 {I : mI} {c : Nat} {v : Int} (o : OF I c) : OF (up2 I 16 2 v) c := by
  have e : eqx [16] I (up2 I 16 2 v) := eqx_up (eqx_rf _ _) rfl
  have e' : ∀ w, eqx [16] (up2 I 104 10 w) (up2 (up2 I 16 2 v) 104 10 w) := fun w => eqx_cut (eqx_wk rfl e)
  obtain ⟨o1, o2, o3, ⟨o4, o5⟩, o6, o7, o8, o9⟩ := o
  refine ⟨o1, by rw [up2_at (by decide)]; exact o2, by rw [up2_ne (by decide)]; exact o3, ⟨oC_2 e rfl (Or.inl rfl) o4, by rw [off_2 e rfl (Or.inl rfl)]; exact o5⟩, oI_e (e' _) rfl o6, ?_, ?_, ?_⟩
  · intro j hj
    obtain ⟨a1, a2, a3⟩ := o7 j hj
    have hh := oH_6 (j := j) (by omega)
    refine ⟨oC_2 e rfl (Or.inr hh) a1, oI_e (e' _) rfl a2, ?_⟩
    rw [off_2 e rfl (Or.inr hh), offM_e (e' _) rfl]
    exact a3
  · intro j j1 j2 k hk
    have n := sc2_n (l := [16]) rfl (Or.inr (oH_6 (j := j) j2)) 3 (by decide)
    rw [cell_n e n.1 n.2]
    exact o8 j j1 j2 k hk
  · intro i hi
    rw [up2_ne (by decide)]
    exact o9 i hi
theorem eqo_K {I J : mI} (e : eqo 43 I J) : eqx lKc I J := by
  intro h k q
  have : ¬ inT2 43 h := fun w => by
    unfold inT2 at w
    exact (jk_f.mp q).1 (by omega) (mem_Kc w.1 (by omega))
  rw [e h this]
theorem eqo_T {I J : mI} (e : eqo 17 I J) : eqx lTc I J := by
  intro h k q
  have : ¬ inT2 17 h := fun w => by
    unfold inT2 at w
    exact (jk_f.mp q).1 (by omega) (mem_Tc w.1 (by omega))
  rw [e h this]
theorem nn_im : nol lKc (lTc ++ lTr) = true ∧ nol lKc (lOr ++ lXr ++ lAr ++ lPr ++ lSr) = true ∧ nol lIm (lTc ++ lTr) = true ∧ nol lIm (lOr ++ lXr ++ lAr ++ lPr ++ lSr) = true ∧ nol lIm lKc = true := by decide +kernel
theorem p_image {n d : Nat} {I : mI} {L : mL} {c : Nat} {Q : mI → mL → Nat → Prop} (r : RC I L c) (q : ∀ I' L', RC I' L' c → Q I' L' c) : PT n (d + 20) 95 [vr (some 16)] 200 [vr (some 104)] I L c Q := by
  obtain ⟨r1, r2, r3, r4, r5, r6, r7, r8, r9⟩ := r
  obtain ⟨m1, m2, m3, m4, m5⟩ := nn_im
  refine x_image (d := d + 18) (x_copyT tOk_kept tOk_now (by decide) (Or.inr (by decide)) r1.2.2.1 ?_)
  intro I1 x1 a1 _
  have y1 := eqo_K x1
  rw [rv_no, up2_ne (show (17 : Nat) ≠ 16 by decide), ri_vi]
  have f17 : I1 17 = I 17 := cell_n y1 (by decide) (by decide)
  have c17 : ∀ h, 17 ≤ h → h ≤ 42 → I1 h = I h := fun h b1 b2 => x1 h (by unfold inT2; omega)
  generalize hI2 : up2 I1 16 2 1 = I2
  have y2 : eqx [16] I1 I2 := by rw [← hI2]; exact eqx_up (eqx_rf _ _) rfl
  have f132 : I2 132 = I 132 := by rw [cell_n y2 (by decide) (by decide), cell_n y1 (by decide) (by decide)]
  refine c_image (by rw [f132]; exact rc_tb ⟨r1, r2, r3, r4, r5, r6, r7, r8, r9⟩) ?_
  intro J x3 F G6 G36 G24 G10 G8
  rw [ri_vi]
  obtain ⟨F52, F53, F54, F55, F56, F57, F58, F59, F60⟩ := F
  have g : ∀ k, I2 104 k = I 104 k := fun k => by
    rw [← hI2, up2_ne (show (104 : Nat) ≠ 16 by decide), x1 104 (by unfold inT2; omega)]
  have cr : ∀ a, 105 ≤ a → a ≤ 136 → I2 a = I a := fun a b1 b2 => by
    rw [cell_n y2 (by omega) (by simp; omega), x1 a (by unfold inT2; omega)]
  have cJ : ∀ a, 17 ≤ a → a ≤ 68 → J a = I1 a := fun a b1 b2 => by
    rw [cell_n x3 (by omega) (by simp; omega), cell_n y2 (by omega) (by simp; omega)]
  obtain ⟨⟨a11, a12, a13, a14⟩, ap, ⟨al1, al2⟩, ⟨am1, am2⟩, ⟨ab1, ab2⟩⟩ := a1
  have s17 : ∀ k, sw J 17 k = I1 43 k := fun k => by rw [sw_cls J (by decide) (by decide), cJ _ (by decide) (by decide)]
  have s19 : ∀ k, sw J 19 k = I1 45 k := fun k => by rw [sw_cls J (by decide) (by decide), cJ _ (by decide) (by decide)]
  have s20 : ∀ k, sw J 20 k = I1 46 k := fun k => by rw [sw_cls J (by decide) (by decide), cJ _ (by decide) (by decide)]
  have s21 : ∀ k, sw J 21 k = I1 47 k := fun k => by rw [sw_cls J (by decide) (by decide), cJ _ (by decide) (by decide)]
  have s22 : ∀ k, sw J 22 k = I1 48 k := fun k => by rw [sw_cls J (by decide) (by decide), cJ _ (by decide) (by decide)]
  have s23 : ∀ k, sw J 23 k = I1 49 k := fun k => by rw [sw_cls J (by decide) (by decide), cJ _ (by decide) (by decide)]
  have s24 : ∀ k, sw J 24 k = I1 50 k := fun k => by rw [sw_cls J (by decide) (by decide), cJ _ (by decide) (by decide)]
  have pJ : ∀ p, p < 6 → perC J (51 + 3 * p) = perC I (25 + 3 * p) := fun p hp => by
    rw [perC_c (cJ _ (by omega) (by omega)) (cJ _ (by omega) (by omega)) (cJ _ (by omega) (by omega))]
    exact ap p hp
  have agr : agrF I (sw J) := by
    refine ⟨⟨⟨?_, ?_, ?_, ?_⟩, ?_, ⟨?_, ?_⟩, ⟨?_, ?_⟩, ⟨?_, ?_⟩⟩, ⟨⟨?_, ?_, ?_, ?_, ?_, ?_, ?_, ?_⟩, ?_, ?_, ?_, ?_, ?_⟩⟩
    · rw [s17]; exact a11
    · rw [s17]; exact a12
    · rw [s17]; exact a13
    · rw [s17]; exact a14
    · intro p hp
      show perC (sw J) (25 + 3 * p) = perC I (25 + 3 * p)
      rw [sw_per J hp, pJ p hp]
    · show sw J 19 2 = I 19 2
      rw [s19]; exact al1
    · intro i hi
      show sw J 20 i = I 20 i
      rw [s20]; exact al2 i hi
    · show sw J 21 2 = I 21 2
      rw [s21]; exact am1
    · intro i hi
      show sw J 22 i = I 22 i
      rw [s22]; exact am2 i hi
    · show sw J 23 2 = I 23 2
      rw [s23]; exact ab1
    · intro i hi
      show sw J 24 i = I 24 i
      rw [s24]; exact ab2 i hi
    · show J 104 53 = I 104 10
      rw [F53, g]
    · show J 104 54 = I 104 0
      rw [F54, g]
    · show J 104 55 = I 104 1
      rw [F55, g]
    · show J 104 56 = I 104 2
      rw [F56, g]
    · show J 104 57 = I 104 3
      rw [F57, g]
    · show J 104 58 = I 104 41
      rw [F58, g]
    · show J 104 59 = I 104 46
      rw [F59, g]
    · show J 104 60 = I 104 47
      rw [F60, g]
    · intro k hk
      obtain ⟨w1, w2, w3, w4, w5, w6, w7⟩ := G6 k hk
      refine ⟨?_, ?_, ?_, ?_, ?_, ?_, ?_⟩
      · show J 137 k = I 105 k
        rw [w1, cr 105 (by decide) (by decide)]
      · show J 138 k = I 106 k
        rw [w2, cr 106 (by decide) (by decide)]
      · show J 139 k = I 107 k
        rw [w3, cr 107 (by decide) (by decide)]
      · show J 142 k = I 129 k
        rw [w4, cr 129 (by decide) (by decide)]
      · show J 143 k = I 130 k
        rw [w5, cr 130 (by decide) (by decide)]
      · show J 144 k = I 131 k
        rw [w6, cr 131 (by decide) (by decide)]
      · show J 149 k = I 132 k
        rw [w7, cr 132 (by decide) (by decide)]
    · intro k hk
      show J 140 k = I 108 k
      rw [G36 k hk, cr 108 (by decide) (by decide)]
    · intro k hk
      show J 141 k = I 109 k
      rw [G24 k hk, cr 109 (by decide) (by decide)]
    · intro k hk
      obtain ⟨w1, w2⟩ := G10 k hk
      refine ⟨?_, ?_⟩
      · show J 145 k = I 133 k
        rw [w1, cr 133 (by decide) (by decide)]
      · show J 146 k = I 134 k
        rw [w2, cr 134 (by decide) (by decide)]
    · intro k hk
      obtain ⟨w1, w2⟩ := G8 k hk
      refine ⟨?_, ?_⟩
      · show J 147 k = I 135 k
        rw [w1, cr 135 (by decide) (by decide)]
      · show J 148 k = I 136 k
        rw [w2, cr 136 (by decide) (by decide)]
  have J0 : J 104 0 = I 104 0 := by rw [x3 104 0 rfl, g]
  refine ⟨by rw [f17, J0]; exact r1.1.1, q _ _ ?_⟩
  have t2 : TW I2 c := TW_agr (agr_e y2 rfl rfl) (TW_agr (agr_e y1 (nol_sub m1 (by decide)) (nol_sub m1 (by decide))) r1)
  have o2 : OF I2 c := by rw [← hI2]; exact OF_16 (OF_e y1 rfl (nol_sub m2 (by decide)) r3)
  have z2 : SZ I2 := SZ_e y2 rfl (SZ_e y1 rfl r8)
  refine ⟨TW_agr (agr_e x3 (nol_sub m3 (by decide)) (nol_sub m3 (by decide))) t2, ⟨?_, Or.inr F52, fun _ => TW_agr agr r1, ?_, ?_⟩, OF_e x3 rfl (nol_sub m4 (by decide)) o2, TX_e x3 (nol_sub m4 (by decide)) (TX_e y2 rfl (TX_e y1 (nol_sub m2 (by decide)) r4)), AC_e x3 (nol_sub m4 (by decide)) (AC_e y2 rfl (AC_e y1 (nol_sub m2 (by decide)) r5)), TP_e x3 (nol_sub m4 (by decide)) (TP_e y2 rfl (TP_e y1 (nol_sub m2 (by decide)) r6)), ST_e x3 (nol_sub m4 (by decide)) (ST_e y2 rfl (ST_e y1 (nol_sub m2 (by decide)) r7)), SZ_e x3 rfl z2, by rw [x3 104 26 rfl, g]; exact r9⟩
  · rw [F52, cell_n x3 (a := 16) (by decide) (by decide), ← hI2, up2_same]
  · intro p hp
    have : J (51 + 3 * p) 4 = perC I (25 + 3 * p) 4 := by rw [← pJ p hp]; rfl
    rw [this]
    exact r1.2.2.1 p hp
  · intro k hk
    rw [(G6 k hk).2.2.2.2.2.2, f132]
    exact rc_tb ⟨r1, r2, r3, r4, r5, r6, r7, r8, r9⟩ k hk
theorem nn_un : nol (lTc ++ lUn) lRest = true ∧ sc2 (lTc ++ lUn) = true := by decide +kernel
theorem p_undo {n d : Nat} {I : mI} {L : mL} {c : Nat} {Q : mI → mL → Nat → Prop} (r : RC I L c) (q : ∀ I' L', RC I' L' c → Q I' L' c) : PT n (d + 20) 96 [vr (some 16)] 201 [vr (some 104)] I L c Q := by
  obtain ⟨r1, r2, r3, r4, r5, r6, r7, r8, r9⟩ := r
  have r : RC I L c := ⟨r1, r2, r3, r4, r5, r6, r7, r8, r9⟩
  obtain ⟨k1, k2, k3, k4, k5⟩ := r2
  refine x_undo (d := d + 18) ?_
  by_cases h : I 16 2 = 0
  · rw [if_pos h, ri_vi]
    refine m_undo ?_
    rw [if_pos (by rw [← k1]; exact h), ri_vi]
    exact ⟨rfl, q _ _ r⟩
  · rw [if_neg h]
    have h1 : I 104 52 = 1 := by omega
    have tw := k3 h1
    refine x_copyT tOk_now tOk_kept (by decide) (Or.inl (by decide)) k4 ?_
    intro I1 x1 a1 z1
    have y1 := eqo_T x1
    rw [rv_no, ri_vi]
    have g : ∀ k, I1 104 k = I 104 k := fun k => by rw [x1 104 (by unfold inT2; omega)]
    have cr : ∀ a, 105 ≤ a → I1 a = I a := fun a b1 => x1 a (by unfold inT2; omega)
    refine c_undo (by rw [cr 149 (by decide)]; exact k5) (by rw [g, h1]; decide) ?_
    intro J x3 F G6 G36 G24 G10 G8
    rw [ri_vi]
    obtain ⟨F53, F54, F55, F56, F57, F58, F59, F60⟩ := F
    have cJ : ∀ a, 17 ≤ a → a ≤ 42 → J a = I1 a := fun a b1 b2 => cell_n x3 (by omega) (by simp; omega)
    obtain ⟨⟨a11, a12, a13, a14⟩, ap, ⟨al1, al2⟩, ⟨am1, am2⟩, ⟨ab1, ab2⟩⟩ := a1
    have agr : agrF (sw I) J := by
      refine ⟨⟨⟨?_, ?_, ?_, ?_⟩, ?_, ⟨?_, ?_⟩, ⟨?_, ?_⟩, ⟨?_, ?_⟩⟩, ⟨⟨?_, ?_, ?_, ?_, ?_, ?_, ?_, ?_⟩, ?_, ?_, ?_, ?_, ?_⟩⟩
      · rw [cJ 17 (by decide) (by decide), sw_cls I (by decide) (by decide)]; exact a11
      · rw [cJ 17 (by decide) (by decide), sw_cls I (by decide) (by decide)]; exact a12
      · rw [cJ 17 (by decide) (by decide), sw_cls I (by decide) (by decide)]; exact a13
      · rw [cJ 17 (by decide) (by decide), sw_cls I (by decide) (by decide)]; exact a14
      · intro p hp
        show perC J (25 + 3 * p) = perC (sw I) (25 + 3 * p)
        rw [sw_per I hp, perC_c (cJ _ (by omega) (by omega)) (cJ _ (by omega) (by omega)) (cJ _ (by omega) (by omega))]
        exact ap p hp
      · show J 19 2 = sw I 19 2
        rw [cJ 19 (by decide) (by decide), sw_cls I (by decide) (by decide)]; exact al1
      · intro i hi
        show J 20 i = sw I 20 i
        rw [cJ 20 (by decide) (by decide), sw_cls I (by decide) (by decide)]; exact al2 i hi
      · show J 21 2 = sw I 21 2
        rw [cJ 21 (by decide) (by decide), sw_cls I (by decide) (by decide)]; exact am1
      · intro i hi
        show J 22 i = sw I 22 i
        rw [cJ 22 (by decide) (by decide), sw_cls I (by decide) (by decide)]; exact am2 i hi
      · show J 23 2 = sw I 23 2
        rw [cJ 23 (by decide) (by decide), sw_cls I (by decide) (by decide)]; exact ab1
      · intro i hi
        show J 24 i = sw I 24 i
        rw [cJ 24 (by decide) (by decide), sw_cls I (by decide) (by decide)]; exact ab2 i hi
      · show J 104 10 = I 104 53
        rw [F53, g]
      · show J 104 0 = I 104 54
        rw [F54, g]
      · show J 104 1 = I 104 55
        rw [F55, g]
      · show J 104 2 = I 104 56
        rw [F56, g]
      · show J 104 3 = I 104 57
        rw [F57, g]
      · show J 104 41 = I 104 58
        rw [F58, g]
      · show J 104 46 = I 104 59
        rw [F59, g]
      · show J 104 47 = I 104 60
        rw [F60, g]
      · intro k hk
        obtain ⟨w1, w2, w3, w4, w5, w6, w7⟩ := G6 k hk
        refine ⟨?_, ?_, ?_, ?_, ?_, ?_, ?_⟩
        · show J 105 k = I 137 k
          rw [w1, cr 137 (by decide)]
        · show J 106 k = I 138 k
          rw [w2, cr 138 (by decide)]
        · show J 107 k = I 139 k
          rw [w3, cr 139 (by decide)]
        · show J 129 k = I 142 k
          rw [w4, cr 142 (by decide)]
        · show J 130 k = I 143 k
          rw [w5, cr 143 (by decide)]
        · show J 131 k = I 144 k
          rw [w6, cr 144 (by decide)]
        · show J 132 k = I 149 k
          rw [w7, cr 149 (by decide)]
      · intro k hk
        show J 108 k = I 140 k
        rw [G36 k hk, cr 140 (by decide)]
      · intro k hk
        show J 109 k = I 141 k
        rw [G24 k hk, cr 141 (by decide)]
      · intro k hk
        obtain ⟨w1, w2⟩ := G10 k hk
        refine ⟨?_, ?_⟩
        · show J 133 k = I 145 k
          rw [w1, cr 145 (by decide)]
        · show J 134 k = I 146 k
          rw [w2, cr 146 (by decide)]
      · intro k hk
        obtain ⟨w1, w2⟩ := G8 k hk
        refine ⟨?_, ?_⟩
        · show J 135 k = I 147 k
          rw [w1, cr 147 (by decide)]
        · show J 136 k = I 148 k
          rw [w2, cr 148 (by decide)]
    have tJ := TW_agr agr tw
    have x4 : eqx (lTc ++ lUn) I J := eqx_tr (eqx_wk (by decide) y1) (eqx_wk (by decide) x3)
    obtain ⟨s1, s2, s3⟩ := r8
    refine ⟨by rw [← tJ.1.1, cJ 17 (by decide) (by decide)], q _ _ (RC_t x4 nn_un.1 nn_un.2 tJ ⟨?_, ?_, ?_⟩ r)⟩
    · rw [cJ 19 (by decide) (by decide)]; exact ((z1 0 (by decide)).1).trans s1
    · rw [cJ 21 (by decide) (by decide)]; exact ((z1 0 (by decide)).2.1).trans s2
    · rw [cJ 23 (by decide) (by decide)]; exact ((z1 0 (by decide)).2.2).trans s3
/-! acts -/
theorem nn_act : nol [89, 90, 150, 1074] (lTc ++ lTr ++ lKc ++ lKr ++ lOr ++ lXr ++ lPr ++ lSr) = true := by decide +kernel
theorem RC_act {I J : mI} {L : mL} {c : Nat} (r : RC I L c) (e : eqx [89, 90, 150, 1074] I J) (a : AC J) : RC J L c := by
  obtain ⟨r1, r2, r3, r4, r5, r6, r7, r8, r9⟩ := r
  have m := nn_act
  exact ⟨TW_agr (agr_e e (nol_sub m (by decide)) (nol_sub m (by decide))) r1, KP_e e (nol_sub m (by decide)) (nol_sub m (by decide)) r2, OF_e e rfl (nol_sub m (by decide)) r3, TX_e e (nol_sub m (by decide)) r4, a, TP_e e (nol_sub m (by decide)) r6, ST_e e (nol_sub m (by decide)) r7, SZ_e e rfl r8, by rw [e 104 26 rfl]; exact r9⟩
theorem aTell_len (P : mP) (x : Int) : (aTell P x).2.length ≤ 20 := by
  have h1 := aPay_len P x
  have h2 := aPay_len P 1
  have h3 := aPay_len P (wr (x - P 0))
  unfold aTell
  repeat' split
  all_goals simp only [aPT, List.length_cons, List.length_append, List.length_nil] at *
  all_goals omega
theorem actS_len (P : mP) (a x : Int) : (actS P a x).2.length ≤ 20 := by
  have h1 := aPay_len P x
  have h2 := aShow_len P x
  have h3 := aTell_len P x
  unfold actS
  repeat' split
  all_goals omega
theorem p_act {n d : Nat} {p a x : Int} {I : mI} {L : mL} {c : Nat} {Q : mI → mL → Nat → Prop} (r : RC I L c) (q : ∀ I' L', RC I' L' c → Q I' L' c) : PT n (d + 20) 97 [vr (some 16), vi p, vi a, vi x] 210 [vr (some 104), vi p, vi a, vi x] I L c Q := by
  obtain ⟨e1, e2, e3⟩ := rc_17 r
  have hn := rc_n r
  have hn0 := (rc_pI r).1
  refine x_act (d := d + 17) (Ac_forget ?_)
  have x1 : eqx lRC I (up2 I 89 1 0) := eqx_up (eqx_rf _ _) rfl
  have r0 : rnC (up2 I 89 1 0) [] := ⟨up2_same, fun k _ h => absurd h (Nat.not_lt_zero _)⟩
  rw [rv_no, up2_ne (show (17 : Nat) ≠ 89 by decide)]
  generalize hI1 : up2 I 89 1 0 = I1 at *
  have f0 : I1 104 0 = I 104 0 := x1 104 0 rfl
  rw [e1]
  by_cases h : (0 ≤ p ∧ p < I 104 0) ∧ 0 ≤ a ∧ a ≤ 2
  · obtain ⟨p, rfl⟩ : ∃ m : Nat, p = m := ⟨p.toNat, by omega⟩
    have hp : p < 6 := by omega
    have po := pOk_now (n := n) (c := c) hp
    rw [if_neg (by omega), if_pos (by omega), if_pos (by omega), if_neg (by omega), if_pos (by omega), Int.toNat_natCast, Rs18 hp]
    refine ⟨by omega, Ac_begin (d := d + 17) ?_⟩
    rw [chkE po.1]
    have pe : perC I1 (25 + 3 * p) = perM I p := by
      rw [perC_R x1 (by omega)]; exact rc_per r (by omega)
    have hk : 0 ≤ I1 (25 + 3 * p) 1 ∧ I1 (25 + 3 * p) 1 ≤ 6 := by
      have : I1 (25 + 3 * p) 1 = perM I p 1 := by rw [← pe]; rfl
      rw [this]
      exact (okP_M (rc_pI r) hp).2.1
    have st1 : stat I1 := stat_R x1 r.2.2.2.2.2.2.1.1
    have fin : ∀ J, eqx lRC I1 J → rnC J (actS (perM I p) a x).2 → C2 n (d + 20) 210 [vr (some 104), vi (p : Int), vi a, vi x] J L c (fun rr I' L' c' => ri rr (fun w => (actS (perM I p) a x).1 = w ∧ Q I' L' c')) := by
      intro J x2 r2
      have x3 : eqx lRC I J := eqx_tr x1 x2
      have pJ : perM J = perM I := perM_f x3 rfl
      have fJ : J 104 0 = I 104 0 := x3 104 0 rfl
      refine c_act (d := d + 12) (by rw [fJ]; exact hn0) (fun w => absurd (by unfold isP; rw [fJ]; exact h) w) (fun _ M x4 r4 => ?_)
      rw [pJ, Int.toNat_natCast] at r4
      rw [ri_vi, pJ, Int.toNat_natCast]
      refine ⟨rfl, q _ _ (RC_act r (eqx_tr (eqx_wk rfl x3) (eqx_wk rfl x4)) ⟨_, ?_, r4, by have := actS_len (perM I p) a x; omega⟩)⟩
      unfold rnC
      rw [cell_n x4 (a := 89) (by decide) (by decide), cell_n x4 (a := 90) (by decide) (by decide)]
      exact r2
    have all : ∀ (i : Nat) (f : mP → Int → Int × List Int) (ym : Nat), conK n (d + 18) (25 + 3 * p) i f ym → a = (i : Int) → (∀ P, f P x = actS P a x) → C2 n (d + 18) 3 [vr (some 89), vr (some (25 + 3 * p)), vi (I1 (25 + 3 * p) 1), vi a, vi x, vi 0] I1 L c (fun r1 I2 L3 c4 => ri r1 (fun x5 => ri (some (vi x5)) (fun x9 => ri (some (vi x9)) (fun v => C2 n (d + 20) 210 [vr (some 104), vi (p : Int), vi a, vi x] I2 L3 c4 (fun r I L c => ri r (fun w => v = w ∧ Q I L c)))))) := by
      intro i f ym hk2 hai hf
      rw [hai]
      refine hk2 x 0 [] I1 L c _ st1 (Nat.zero_le _) r0 (Nat.zero_le _) po hk ?_
      intro J x2 r2
      rw [ri_vi, ri_vi, ri_vi, ← hai]
      rw [pe, List.nil_append, hf] at r2
      rw [pe, hf]
      exact fin J x2 r2
    by_cases a0 : a = 0
    · exact all 0 aShow 38 (k_shows (d := d + 14) (by omega)) a0 (fun P => by unfold actS; rw [if_pos a0])
    by_cases a1 : a = 1
    · exact all 1 aPay 35 (k_pays (d := d + 8) (by omega)) a1 (fun P => by unfold actS; rw [if_neg a0, if_pos a1])
    · exact all 2 aTell 33 (k_tells (d := d + 4) (by omega)) (by omega) (fun P => by unfold actS; rw [if_neg a0, if_neg a1])
  · have kk : C2 n (d + 20) 210 [vr (some 104), vi p, vi a, vi x] I1 L c (fun rr I' L' c' => ri rr (fun w => (0 : Int) = w ∧ Q I' L' c')) := by
      refine c_act (d := d + 12) (by rw [f0]; exact hn0) (fun _ M x4 r4 => ?_) (fun w => absurd (by unfold isP at w; rw [f0] at w; exact w) h)
      rw [ri_vi]
      refine ⟨rfl, q _ _ (RC_act r (eqx_tr (eqx_wk rfl x1) (eqx_wk rfl x4)) ⟨_, ?_, r4, by decide⟩)⟩
      unfold rnC
      rw [cell_n x4 (a := 89) (by decide) (by decide), cell_n x4 (a := 90) (by decide) (by decide)]
      exact r0
    repeat' (first | (rw [ri_vi]; exact kk) | (exfalso; omega) | refine ite_i (fun _ => ?_) (fun _ => ?_))
theorem p_trace {n d : Nat} {p : Int} {I : mI} {L : mL} {c : Nat} {Q : mI → mL → Nat → Prop} (r : RC I L c) (q : ∀ I' L', RC I' L' c → Q I' L' c) : PT n (d + 20) 98 [vr (some 16), vi p] 211 [vr (some 104), vi p] I L c Q := by
  obtain ⟨l, ⟨a1, a2⟩, ⟨b1, b2⟩, _⟩ := r.2.2.2.2.1
  refine x_trace (d := d + 20) ?_
  rw [a1]
  by_cases h : 0 ≤ p ∧ p < 20 ∧ p < (l.length : Int)
  · rw [if_neg (by omega), if_pos (by omega), if_pos (by omega), ri_vi]
    refine ⟨by omega, m_trace (d := d + 19) ?_⟩
    rw [if_neg (by omega), if_neg (by omega), b1, if_pos (by omega), ri_vi]
    refine ⟨by omega, ?_, q _ _ r⟩
    rw [a2 _ (by omega) (by omega), b2 _ (by omega) (by omega)]
  · have kk : C2 n (d + 20) 211 [vr (some 104), vi p] I L c (fun rr I' L' c' => ri rr (fun w => (-1 : Int) = w ∧ Q I' L' c')) := by
      refine m_trace (d := d + 19) ?_
      rw [b1]
      have fin : (-1 : Int) = -1 ∧ Q I L c := ⟨rfl, q _ _ r⟩
      repeat' (first | (rw [ri_vi]; exact fin) | (exfalso; omega) | refine ite_i (fun _ => ?_) (fun _ => ?_))
    repeat' (first | (rw [ri_vi]; exact kk) | (exfalso; omega) | refine ite_i (fun _ => ?_) (fun _ => ?_))
theorem p_count {n d : Nat} {p : Int} {I : mI} {L : mL} {c : Nat} {Q : mI → mL → Nat → Prop} (r : RC I L c) (q : ∀ I' L', RC I' L' c → Q I' L' c) : PT n (d + 20) 100 [vr (some 16), vi p] 213 [vr (some 104), vi p] I L c Q := by
  obtain ⟨e1, e2, e3⟩ := rc_17 r
  obtain ⟨l, ⟨a1, _⟩, ⟨b1, _⟩, _⟩ := r.2.2.2.2.1
  have f1 : I 16 5 = I 104 9 := by rw [r.2.2.1.2.1, r.2.2.1.2.2.1]
  have f2 := (rc_LPt r).1
  have f3 := (rc_PPt r).1
  have f4 := (rc_BPt r).1
  have f5 := r.2.2.2.1.2.1
  have f6 : I 89 1 = I 104 74 := by rw [a1, b1]
  refine x_count (d := d + 20) ?_
  have all : ∀ v : Int, v = (if p = 0 then I 104 0 else if p = 1 then I 104 9 else if p = 2 then I 104 41 else if p = 3 then I 104 46 else if p = 4 then I 104 47 else if p = 5 then I 104 11 else if p = 6 then I 104 74 else -2) → C2 n (d + 20) 213 [vr (some 104), vi p] I L c (fun rr I' L' c' => ri rr (fun w => v = w ∧ Q I' L' c')) := by
    intro v hv
    refine m_count (d := d + 20) ?_
    have fin : ∀ w : Int, v = w → ri (some (vi w)) (fun w => v = w ∧ Q I L c) := fun w hw => ⟨hw, q _ _ r⟩
    repeat' (first | refine ite_i (fun _ => ?_) (fun _ => ?_))
    all_goals (refine fin _ ?_; rw [hv]; simp (disch := assumption) only [if_pos, if_neg])
  repeat' (first | refine ite_i (fun _ => ?_) (fun _ => ?_))
  all_goals (rw [ri_vi]; refine all _ ?_; simp (disch := assumption) only [if_pos, if_neg]; try assumption)
theorem under_loop {n d : Nat} {k : Int} {I : mI} {L : mL} {c : Nat} {K : mK2} (s : stat I) : ∀ (f st : Nat) (kd : Int), st + f = 7 → -1 ≤ kd ∧ kd < 7 → (∀ b : Bool, (b = true ↔ ∃ i, i < f ∧ Nat.rec (motive := fun _ => Int) kd (fun _ x => if x < 0 then x else aboT.getD x.toNat 0) i = k ∧ 0 ≤ k) → K (some (vi (b2i b))) I L c) → W2 n d 111 4 [none, some (vi k), some (vi kd), some (vi (st : Int))] [] I L c K := by
  intro f
  induction f with
  | zero =>
    intro st kd hst _ kk
    refine x_isUnder_4 ?_
    rw [if_neg (by omega)]
    exact kk false ⟨fun a => (Bool.false_ne_true a).elim, fun ⟨i, hi, _⟩ => absurd hi (Nat.not_lt_zero _)⟩
  | succ f ih =>
    intro st kd hst hk kk
    refine x_isUnder_4 ?_
    rw [if_pos (by omega)]
    have neg : ∀ i, kd < 0 → Nat.rec (motive := fun _ => Int) kd (fun _ x => if x < 0 then x else aboT.getD x.toNat 0) i = kd := by
      intro i hneg
      induction i with
      | zero => rfl
      | succ i ihi =>
        show (if (Nat.rec (motive := fun _ => Int) kd (fun _ x => if x < 0 then x else aboT.getD x.toNat 0) i) < 0 then _ else _) = kd
        rw [ihi, if_pos hneg]
    by_cases q0 : kd < 0
    · rw [if_pos q0]
      refine kk false ⟨fun a => (Bool.false_ne_true a).elim, fun ⟨i, _, h1, h2⟩ => ?_⟩
      rw [neg i q0] at h1
      omega
    · rw [if_neg q0, if_pos (by omega)]
      by_cases q1 : kd = k
      · rw [if_pos q1]
        exact kk true ⟨fun _ => ⟨0, by omega, q1, by omega⟩, fun _ => rfl⟩
      · rw [if_neg q1, s.2 _ (by omega), wr_nat (by omega)]
        refine ⟨by omega, ih (st + 1) _ (by omega) (abo_bd ⟨kd.toNat, by omega⟩) ?_⟩
        intro b hb
        refine kk b ?_
        rw [hb]
        have sh : ∀ i, Nat.rec (motive := fun _ => Int) (aboT.getD kd.toNat 0) (fun _ x => if x < 0 then x else aboT.getD x.toNat 0) i = Nat.rec (motive := fun _ => Int) kd (fun _ x => if x < 0 then x else aboT.getD x.toNat 0) (i + 1) := by
          intro i
          induction i with
          | zero =>
            show _ = (if kd < 0 then kd else aboT.getD kd.toNat 0)
            rw [if_neg q0]
            rfl
          | succ i ihi =>
            show (if (Nat.rec (motive := fun _ => Int) (aboT.getD kd.toNat 0) (fun _ x => if x < 0 then x else aboT.getD x.toNat 0) i) < 0 then _ else _) = (if (Nat.rec (motive := fun _ => Int) kd (fun _ x => if x < 0 then x else aboT.getD x.toNat 0) (i + 1)) < 0 then _ else _)
            rw [ihi]
        constructor
        · rintro ⟨i, hi, h1, h2⟩
          exact ⟨i + 1, by omega, by rw [← sh]; exact h1, h2⟩
        · rintro ⟨i, hi, h1, h2⟩
          cases i with
          | zero => exact absurd h1 q1
          | succ i => exact ⟨i, by omega, by rw [sh]; exact h1, h2⟩
/-- a kind, and those above it -/
def undT : Nat → Nat → Bool
  | kd, k => decide (k = 0) || (decide (kd = k) || ((decide (k = 1) && decide (kd = 4)) || ((decide (k = 2) && decide (kd = 5)) || (decide (k = 3) && decide (kd = 6)))))
def undI (kd k : Nat) : Bool := (List.range 7).any fun i => decide (Nat.rec (motive := fun _ => Int) (kd : Int) (fun _ x => if x < 0 then x else aboT.getD x.toNat 0) i = (k : Int))
theorem und_eq : ∀ kd k : Fin 7, undI kd.val k.val = undT kd.val k.val := by decide +kernel
theorem p_taken {n d : Nat} {p k : Int} {I : mI} {L : mL} {c : Nat} {Q : mI → mL → Nat → Prop} (r : RC I L c) (q : ∀ I' L', RC I' L' c → Q I' L' c) : PT n (d + 20) 99 [vr (some 16), vi p, vi k] 212 [vr (some 104), vi p, vi k] I L c Q := by
  obtain ⟨e1, e2, e3⟩ := rc_17 r
  have hn := rc_n r
  have hn0 := (rc_pI r).1
  refine x_taken (d := d + 19) ?_
  rw [e1]
  by_cases h : (0 ≤ k ∧ k < 7) ∧ 0 ≤ p ∧ p < I 104 0
  · obtain ⟨p, rfl⟩ : ∃ m : Nat, p = m := ⟨p.toNat, by omega⟩
    obtain ⟨k, rfl⟩ : ∃ m : Nat, k = m := ⟨k.toNat, by omega⟩
    have hp : p < 6 := by omega
    have hk7 : k < 7 := by omega
    have po := pOk_now (n := n) (c := c) hp
    rw [if_neg (by omega), if_pos (by omega), if_neg (by omega), if_pos (by omega), if_pos (by omega), Int.toNat_natCast, Rs18 hp, drf_s]
    simp only [chkE po.1]
    refine ⟨by omega, x_isUnder ?_⟩
    have ek : I (25 + 3 * p) 1 = I 105 p := by
      have : perN I p 1 = perM I p 1 := by rw [rc_per r (by omega)]
      exact this
    have bk := (okP_M (rc_pI r) hp).2.1
    rw [show perM I p 1 = I 105 p from rfl] at bk
    rw [ek]
    generalize hkd : I 105 p = kd at *
    obtain ⟨kd, rfl⟩ : ∃ m : Nat, kd = m := ⟨kd.toNat, by omega⟩
    refine under_loop r.2.2.2.2.2.2.1.1 7 0 kd rfl (by omega) ?_
    intro b hb
    have hb2 : b = undT kd k := by
      rw [← und_eq ⟨kd, by omega⟩ ⟨k, hk7⟩]
      unfold undI
      cases hb3 : b with
      | true =>
        obtain ⟨i, hi, h1, _⟩ := hb.mp hb3
        symm
        rw [List.any_eq_true]
        exact ⟨i, List.mem_range.mpr hi, decide_eq_true h1⟩
      | false =>
        symm
        rw [List.any_eq_false]
        intro i hi h1
        have := hb.mpr ⟨i, List.mem_range.mp hi, of_decide_eq_true h1, by omega⟩
        rw [hb3] at this
        cases this
    rw [ri_vi, hb2]
    have ref : ∀ v : Int, v = (if undT kd k = true then (kd : Int) else -12) → C2 n (d + 20) 212 [vr (some 104), vi (p : Int), vi (k : Int)] I L c (fun rr I' L' c' => ri rr (fun w => v = w ∧ Q I' L' c')) := by
      intro v hv
      refine m_taken (d := d + 18) ?_
      rw [wri (x := I 104 0 - 1) (by omega), Int.toNat_natCast, hkd]
      have fin : ∀ w : Int, v = w → ri (some (vi w)) (fun w => v = w ∧ Q I L c) := fun w hw => ⟨hw, q _ _ r⟩
      rw [if_neg (by omega), if_neg (by omega), if_neg (by omega), if_neg (by omega)]
      refine ⟨by omega, ?_⟩
      unfold undT at hv
      simp only [Bool.or_eq_true, Bool.and_eq_true, decide_eq_true_eq] at hv
      repeat' (first | refine ite_i (fun _ => ?_) (fun _ => ?_))
      all_goals first | (exfalso; omega) | (refine fin _ ?_; rw [hv]; first | rw [if_pos (by omega)] | rw [if_neg (by omega)])
    cases hu : undT kd k with
    | true =>
      rw [if_neg (by decide), ri_vi]
      exact ref _ (by rw [hu]; rfl)
    | false =>
      rw [if_pos (by decide), ri_vi]
      exact ref _ (by rw [hu]; rfl)
  · have kk : ∀ v : Int, (¬ (0 ≤ k ∧ k < 7) → v = -2) → (0 ≤ k ∧ k < 7 → v = -11) → C2 n (d + 20) 212 [vr (some 104), vi p, vi k] I L c (fun rr I' L' c' => ri rr (fun w => v = w ∧ Q I' L' c')) := by
      intro v h1 h2
      refine m_taken (d := d + 18) ?_
      rw [wri (x := I 104 0 - 1) (by omega)]
      have f1 : ¬ (0 ≤ k ∧ k < 7) → ri (some (vi (-2))) (fun w => v = w ∧ Q I L c) := fun w => ⟨h1 w, q _ _ r⟩
      have f2 : 0 ≤ k ∧ k < 7 → ri (some (vi (-11))) (fun w => v = w ∧ Q I L c) := fun w => ⟨h2 w, q _ _ r⟩
      repeat' (first | exact f1 (by omega) | exact f2 (by omega) | (exfalso; omega) | refine ite_i (fun _ => ?_) (fun _ => ?_))
    by_cases hk : 0 ≤ k ∧ k < 7
    · have k2 := kk (-11) (fun a => absurd hk a) (fun _ => rfl)
      repeat' (first | (rw [ri_vi]; exact k2) | (exfalso; omega) | refine ite_i (fun _ => ?_) (fun _ => ?_))
    · have k2 := kk (-2) (fun _ => rfl) (fun a => absurd a hk)
      repeat' (first | (rw [ri_vi]; exact k2) | (exfalso; omega) | refine ite_i (fun _ => ?_) (fun _ => ?_))
