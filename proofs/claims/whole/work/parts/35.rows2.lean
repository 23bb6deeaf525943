/-! ===== the same call of both: looks, plans, books told; the image ===== -/
def LPt (I : mI) : Prop := I 19 2 = I 104 41 ∧ lI I ∧ ∀ k, k < (I 104 41).toNat → lkC I k = lkM I k
def PPt (I : mI) : Prop := I 21 2 = I 104 46 ∧ lpI I ∧ ∀ k, k < (I 104 46).toNat → (plC I k).1 = (plM I k).1 ∧ ((plM I k).1 = 1 ∨ (plM I k).1 = 2 → (plC I k).2 = (plM I k).2)
def BPt (I : mI) : Prop := I 23 2 = I 104 47 ∧ kI I ∧ ∀ k, k < (I 104 47).toNat → bkC I k = bkM I k
theorem LPt_e {l : List Nat} {I J : mI} (e : eqx l I J) (h : nol l [19, 20, 104, 1000, 1041, 129, 130, 131, 132] = true) (o : LPt I) : LPt J := by
  have cc : ∀ a, a ∈ [19, 20, 104, 1000, 1041, 129, 130, 131, 132] → a ≠ 104 → J a = I a := fun a x y => cell_n e y (nol_m h x)
  unfold LPt lI lkC lkM
  rw [cc 19 (by decide) (by decide), cc 20 (by decide) (by decide), cc 129 (by decide) (by decide), cc 130 (by decide) (by decide), cc 131 (by decide) (by decide), cc 132 (by decide) (by decide), fld_e e (k := 41) (nol_e h (by decide)) (nol_e h (by decide)), fld_e e (k := 0) (nol_e h (by decide)) (nol_e h (by decide))]
  exact o
theorem PPt_e {l : List Nat} {I J : mI} (e : eqx l I J) (h : nol l [21, 22, 104, 1000, 1046, 133, 134] = true) (o : PPt I) : PPt J := by
  have cc : ∀ a, a ∈ [21, 22, 104, 1000, 1046, 133, 134] → a ≠ 104 → J a = I a := fun a x y => cell_n e y (nol_m h x)
  unfold PPt lpI plC plM
  rw [cc 21 (by decide) (by decide), cc 22 (by decide) (by decide), cc 133 (by decide) (by decide), cc 134 (by decide) (by decide), fld_e e (k := 46) (nol_e h (by decide)) (nol_e h (by decide)), fld_e e (k := 0) (nol_e h (by decide)) (nol_e h (by decide))]
  exact o
theorem BPt_e {l : List Nat} {I J : mI} (e : eqx l I J) (h : nol l [23, 24, 104, 1000, 1047, 135, 136] = true) (o : BPt I) : BPt J := by
  have cc : ∀ a, a ∈ [23, 24, 104, 1000, 1047, 135, 136] → a ≠ 104 → J a = I a := fun a x y => cell_n e y (nol_m h x)
  unfold BPt kI bkC bkM
  rw [cc 23 (by decide) (by decide), cc 24 (by decide) (by decide), cc 135 (by decide) (by decide), cc 136 (by decide) (by decide), fld_e e (k := 47) (nol_e h (by decide)) (nol_e h (by decide)), fld_e e (k := 0) (nol_e h (by decide)) (nol_e h (by decide))]
  exact o
abbrev lFix : List Nat := [17, 25, 26, 27, 28, 29, 30, 31, 32, 33, 34, 35, 36, 37, 38, 39, 40, 41, 42, 104, 1000, 1001, 1002, 1003, 1010, 105, 106, 107, 108, 109]
theorem TW_rows {l : List Nat} {I J : mI} {c : Nat} (t : TW I c) (e : eqx l I J) (h : nol l lFix = true) (a : LPt J) (b : PPt J) (d : BPt J) (g : ∀ k, k < 6 → 0 ≤ J 132 k ∧ J 132 k ≤ 1) : TW J c := by
  have cc : ∀ a, a ∈ lFix → a ≠ 104 → J a = I a := fun a x y => cell_n e y (nol_m h x)
  have fr : ∀ k, 1000 + k ∈ lFix → J 104 k = I 104 k := fun k x => fld_e e (nol_e h (by decide)) (nol_e h x)
  have mm : ∀ a, 25 ≤ a → a ≤ 42 → a ∈ lFix := fun a h1 h2 => by
    have : a ∈ lPe := mem_Pe h1 h2
    exact List.mem_cons_of_mem _ (List.mem_append_left (bs := [104, 1000, 1001, 1002, 1003, 1010, 105, 106, 107, 108, 109]) this)
  obtain ⟨t1, t2, t3, t4, t5, t6, _⟩ := t
  refine ⟨?_, ?_, ?_, pI_e e (nol_sub h (by decide)) t4, by rw [fr 3 (by decide)]; exact t5, by rw [fr 10 (by decide)]; exact t6, a, b, d, g⟩
  · rw [cc 17 (by decide) (by decide), fr 0 (by decide), fr 2 (by decide), fr 3 (by decide), fr 10 (by decide)]; exact t1
  · intro p hp
    rw [nM_e e (nol_sub h (by decide))] at hp
    have n6 : nM I ≤ 6 := by unfold nM; have := t4.1; omega
    rw [perM_e e (nol_sub h (by decide)), ← t2 p hp]
    exact perC_c (cc _ (mm _ (by omega) (by omega)) (by omega)) (cc _ (mm _ (by omega) (by omega)) (by omega)) (cc _ (mm _ (by omega) (by omega)) (by omega))
  · intro p hp
    rw [cc _ (mm _ (by omega) (by omega)) (by omega)]
    exact t3 p hp
theorem rc_LPt {I : mI} {L : mL} {c : Nat} (r : RC I L c) : LPt I := r.1.2.2.2.2.2.2.1
theorem rc_PPt {I : mI} {L : mL} {c : Nat} (r : RC I L c) : PPt I := r.1.2.2.2.2.2.2.2.1
theorem rc_BPt {I : mI} {L : mL} {c : Nat} (r : RC I L c) : BPt I := r.1.2.2.2.2.2.2.2.2.1
theorem rc_tb {I : mI} {L : mL} {c : Nat} (r : RC I L c) : ∀ k, k < 6 → 0 ≤ I 132 k ∧ I 132 k ≤ 1 := r.1.2.2.2.2.2.2.2.2.2
abbrev lSee : List Nat := [19, 20, 1041, 129, 130, 131, 132]
theorem nn_see : nol lSee lRest = true ∧ nol lSee lFix = true ∧ nol lSee [21, 22, 104, 1000, 1046, 133, 134] = true ∧ nol lSee [23, 24, 104, 1000, 1047, 135, 136] = true := by decide +kernel
theorem c_see {n d : Nat} {p t x y : Int} {I : mI} {L : mL} {c : Nat} {K : mK2} (hn : 0 ≤ I 104 0 ∧ I 104 0 ≤ 6) (hl : 0 ≤ I 104 41 ∧ I 104 41 ≤ 6) (hx : 0 ≤ x ∧ x ≤ 1)
    (k0 : p = -1 → K (some (vi 0)) (up2 I 104 41 0) L c)
    (k1 : p ≠ -1 → ¬ (isP I p ∧ 0 ≤ t ∧ t ≤ 5) → K (some (vi (-1))) I L c)
    (k2 : isP I p ∧ 0 ≤ t ∧ t ≤ 5 → ¬ (0 ≤ y ∧ y ≤ 20) → K (some (vi (-2))) I L c)
    (k4 : isP I p ∧ 0 ≤ t ∧ t ≤ 5 → 0 ≤ y ∧ y ≤ 20 → I 104 41 = 6 → K (some (vi (-4))) I L c)
    (k3 : isP I p ∧ 0 ≤ t ∧ t ≤ 5 → 0 ≤ y ∧ y ≤ 20 → I 104 41 < 6 → K (some (vi (I 104 41 + 1))) (up2 (up2 (up2 (up2 (up2 I 129 (I 104 41).toNat p) 130 (I 104 41).toNat t) 132 (I 104 41).toNat x) 131 (I 104 41).toNat y) 104 41 (I 104 41 + 1)) L c) : C2 n (d + 2) 186 [vr (some 104), vi p, vi t, vi x, vi y] I L c K := by
  unfold isP at k1 k2 k3 k4
  refine m_see ?_
  rw [wri (x := I 104 0 - 1) (by omega)]
  by_cases h0 : p = -1
  · rw [if_pos h0]; exact k0 h0
  rw [if_neg h0]
  by_cases h : (0 ≤ p ∧ p < I 104 0) ∧ 0 ≤ t ∧ t ≤ 5
  · by_cases h2 : 0 ≤ y ∧ y ≤ 20
    · rw [if_neg (by omega), if_neg (by omega), if_neg (by omega), if_neg (by omega), if_neg (by omega), if_neg (by omega)]
      by_cases h3 : I 104 41 = 6
      · rw [if_pos h3]; exact k4 h h2 h3
      · rw [if_neg h3]
        simp (disch := decide) only [up2_ne, up2_same]
        rw [wri (x := I 104 41 + 1) (by omega)]
        exact ⟨by omega, by omega, by omega, b01_i hx ⟨by omega, k3 h h2 (by omega)⟩⟩
    · have kk := k2 h h2
      repeat' (first | exact kk | (exfalso; omega) | refine ite_i (fun _ => ?_) (fun _ => ?_))
  · have kk := k1 h0 h
    repeat' (first | exact kk | (exfalso; omega) | refine ite_i (fun _ => ?_) (fun _ => ?_))
theorem p_see {n d : Nat} {p t x y : Int} {I : mI} {L : mL} {c : Nat} {Q : mI → mL → Nat → Prop} (r : RC I L c) (hx : 0 ≤ x ∧ x ≤ 1) (q : ∀ I' L', RC I' L' c → Q I' L' c) : PT n (d + 20) 84 [vr (some 16), vi p, vi t, vi x, vi y] 186 [vr (some 104), vi p, vi t, vi x, vi y] I L c Q := by
  obtain ⟨e1, e2, e3⟩ := rc_17 r
  have hn := rc_n r
  have hn0 := (rc_pI r).1
  obtain ⟨s1, s2, s3⟩ := rc_SZ r
  obtain ⟨a1, a2, a3⟩ := rc_LPt r
  have hl := a2.1
  obtain ⟨n1, n2, n3, n4⟩ := nn_see
  refine x_see (d := d + 19) ?_
  by_cases h0 : p = -1
  · rw [if_pos h0, ri_vi]
    refine c_see (d := d + 18) hn0 hl hx (fun _ => ?_) (fun a => absurd h0 a) (fun a => by unfold isP at a; rw [up2_ne (show (104 : Nat) ≠ 19 by decide)] at a; omega) (fun a => by unfold isP at a; rw [up2_ne (show (104 : Nat) ≠ 19 by decide)] at a; omega) (fun a => by unfold isP at a; rw [up2_ne (show (104 : Nat) ≠ 19 by decide)] at a; omega)
    rw [ri_vi]
    refine ⟨rfl, q _ _ ?_⟩
    have x1 : eqx lSee I (up2 (up2 I 19 2 0) 104 41 0) := eqx_up (eqx_up (eqx_rf _ _) rfl) rfl
    refine RC_t x1 n1 rfl (TW_rows r.1 x1 n2 ⟨?_, ⟨?_, ?_⟩, ?_⟩ (PPt_e x1 n3 (rc_PPt r)) (BPt_e x1 n4 (rc_BPt r)) (fun k hk => by rw [up2_ne (by decide), up2_ne (by decide)]; exact rc_tb r k hk)) ⟨?_, ?_, ?_⟩ r
    · rw [up2_same, up2_ne (by decide), up2_same]
    · rw [up2_same]; decide
    · intro k hk; rw [up2_same] at hk; exact absurd hk (Nat.not_lt_zero _)
    · intro k hk; rw [up2_same] at hk; exact absurd hk (Nat.not_lt_zero _)
    · rw [up2_ne (by decide), up2_at (by decide)]; exact s1
    · rw [up2_ne (by decide), up2_ne (by decide)]; exact s2
    · rw [up2_ne (by decide), up2_ne (by decide)]; exact s3
  rw [if_neg h0]
  by_cases h : (0 ≤ p ∧ p < I 104 0) ∧ 0 ≤ t ∧ t ≤ 5
  · by_cases h2 : 0 ≤ y ∧ y ≤ 20
    · by_cases h3 : I 104 41 < 6
      · rw [if_neg (by omega), if_pos (by omega), if_pos (by omega), if_neg (by omega), if_pos (by omega), if_neg (by omega), if_neg (by omega), if_pos (by omega)]
        have main : C2 n (d + 19) 58 [vr (some 19), vi p, vi t, vi x, vi y] I L c (fun r1 I2 L3 c4 => ri r1 (fun x5 => (fun r I L c => ri r (fun v => C2 n (d + 20) 186 [vr (some 104), vi p, vi t, vi x, vi y] I L c (fun r I L c => ri r (fun w => v = w ∧ Q I L c)))) (some (vi x5)) I2 L3 c4)) := by
          refine x_put (m := (I 104 41).toNat) rOk_l (by decide) (by decide) (by omega) (by omega) ?_ (by decide)
          intro I1 x1 _ u2 ui ulow u0 u1' u2' u3'
          rw [ri_vi]
          dsimp only
          rw [ri_vi]
          have f : ∀ k, I1 104 k = I 104 k := fun k => x1 104 k (jk_f.mpr ⟨fun _ => by decide, fun _ => by simp; omega⟩)
          refine c_see (d := d + 18) (by rw [f]; exact hn0) (by rw [f]; exact hl) hx (fun a => absurd a h0) (fun _ a => absurd (by unfold isP; rw [f]; exact h) a) (fun _ a => absurd h2 a) (fun _ _ a => absurd a (by rw [f]; omega)) (fun _ _ _ => ?_)
          rw [ri_vi, f]
          generalize hI2 : up2 (up2 (up2 (up2 (up2 I1 129 (I 104 41).toNat p) 130 (I 104 41).toNat t) 132 (I 104 41).toNat x) 131 (I 104 41).toNat y) 104 41 (I 104 41 + 1) = I2
          have x2 : eqx lSee I I2 := by
            rw [← hI2]
            exact eqx_up (eqx_up (eqx_up (eqx_up (eqx_up (eqx_wk rfl x1) rfl) rfl) rfl) rfl) rfl
          have c129 : I2 129 = up2 I1 129 (I 104 41).toNat p 129 := by rw [← hI2]; simp (disch := decide) only [up2_ne]
          have c130 : I2 130 = up2 I1 130 (I 104 41).toNat t 130 := by rw [← hI2]; funext k; simp [up2]
          have c132 : I2 132 = up2 I1 132 (I 104 41).toNat x 132 := by rw [← hI2]; funext k; simp [up2]
          have c131 : I2 131 = up2 I1 131 (I 104 41).toNat y 131 := by rw [← hI2]; funext k; simp [up2]
          have c20 : I2 20 = I1 20 := by rw [← hI2]; simp (disch := decide) only [up2_ne]
          have c19 : I2 19 = I1 19 := by rw [← hI2]; simp (disch := decide) only [up2_ne]
          have g41 : I2 104 41 = I 104 41 + 1 := by rw [← hI2, up2_same]
          have g0 : I2 104 0 = I 104 0 := x2 104 0 rfl
          have low : ∀ a, a ≠ 20 → a ≠ 19 → ∀ k, I1 a k = I a k := fun a b1 b2 k => x1 a k (jk_f.mpr ⟨fun _ => by simp [b1, b2], fun _ => by simp; omega⟩)
          refine ⟨by omega, q _ _ (RC_t x2 n1 rfl (TW_rows r.1 x2 n2 ⟨?_, ⟨?_, ?_⟩, ?_⟩ (PPt_e x2 n3 (rc_PPt r)) (BPt_e x2 n4 (rc_BPt r)) ?_) ⟨?_, ?_, ?_⟩ r)⟩
          · rw [c19, u2, g41]; omega
          · rw [g41]; omega
          · intro k hk
            rw [g41] at hk
            rw [c129, c130, c131, c132, g0]
            by_cases w : k = (I 104 41).toNat
            · rw [w, up2_same, up2_same, up2_same, up2_same]
              exact ⟨h.1, h.2, hx, h2⟩
            · rw [up2_at w, up2_at w, up2_at w, up2_at w, low 129 (by decide) (by decide), low 130 (by decide) (by decide), low 131 (by decide) (by decide), low 132 (by decide) (by decide)]
              exact a2.2 k (by omega)
          · intro k hk
            rw [g41] at hk
            unfold lkC lkM
            rw [c129, c130, c131, c132, c20]
            by_cases w : k = (I 104 41).toNat
            · rw [w, up2_same, up2_same, up2_same, up2_same, u0, u1', u2', u3']
            · rw [up2_at w, up2_at w, up2_at w, up2_at w, low 129 (by decide) (by decide), low 130 (by decide) (by decide), low 131 (by decide) (by decide), low 132 (by decide) (by decide), ulow _ (by omega), ulow _ (by omega), ulow _ (by omega), ulow _ (by omega)]
              exact a3 k (by omega)
          · intro k hk
            rw [c132]
            by_cases w : k = (I 104 41).toNat
            · rw [w, up2_same]; exact hx
            · rw [up2_at w, low 132 (by decide) (by decide)]; exact rc_tb r k hk
          · rw [c19, ui 0 (by decide)]; exact s1
          · rw [x2 21 0 rfl]; exact s2
          · rw [x2 23 0 rfl]; exact s3
        by_cases hx0 : x = 0
        · rw [if_pos hx0]; subst hx0; exact main
        · rw [if_neg hx0]
          have : x = 1 := by omega
          subst this
          exact main
      · have kk : C2 n (d + 20) 186 [vr (some 104), vi p, vi t, vi x, vi y] I L c (fun rr I' L' c' => ri rr (fun w => (-4 : Int) = w ∧ Q I' L' c')) := by
          refine c_see (d := d + 18) hn0 hl hx (fun a => absurd a h0) (fun _ a => absurd h a) (fun _ a => absurd h2 a) (fun _ _ _ => ?_) (fun _ _ a => absurd a h3)
          rw [ri_vi]; exact ⟨rfl, q _ _ r⟩
        repeat' (first | (rw [ri_vi]; exact kk) | (exfalso; omega) | refine ite_i (fun _ => ?_) (fun _ => ?_))
    · have kk : C2 n (d + 20) 186 [vr (some 104), vi p, vi t, vi x, vi y] I L c (fun rr I' L' c' => ri rr (fun w => (-2 : Int) = w ∧ Q I' L' c')) := by
        refine c_see (d := d + 18) hn0 hl hx (fun a => absurd a h0) (fun _ a => absurd h a) (fun _ _ => ?_) (fun _ a => absurd a h2) (fun _ a => absurd a h2)
        rw [ri_vi]; exact ⟨rfl, q _ _ r⟩
      repeat' (first | (rw [ri_vi]; exact kk) | (exfalso; omega) | refine ite_i (fun _ => ?_) (fun _ => ?_))
  · have kk : C2 n (d + 20) 186 [vr (some 104), vi p, vi t, vi x, vi y] I L c (fun rr I' L' c' => ri rr (fun w => (-1 : Int) = w ∧ Q I' L' c')) := by
      refine c_see (d := d + 18) hn0 hl hx (fun a => absurd a h0) (fun _ _ => ?_) (fun a => absurd a h) (fun a => absurd a h) (fun a => absurd a h)
      rw [ri_vi]; exact ⟨rfl, q _ _ r⟩
    repeat' (first | (rw [ri_vi]; exact kk) | (exfalso; omega) | refine ite_i (fun _ => ?_) (fun _ => ?_))
abbrev lBook : List Nat := [23, 24, 1047, 135, 136]
theorem nn_book : nol lBook lRest = true ∧ nol lBook lFix = true ∧ nol lBook [21, 22, 104, 1000, 1046, 133, 134] = true ∧ nol lBook [19, 20, 104, 1000, 1041, 129, 130, 131, 132] = true := by decide +kernel
theorem c_book {n d : Nat} {p t : Int} {I : mI} {L : mL} {c : Nat} {K : mK2} (hn : 0 ≤ I 104 0 ∧ I 104 0 ≤ 6) (hl : 0 ≤ I 104 47 ∧ I 104 47 ≤ 8)
    (k0 : p = -1 → K (some (vi 0)) (up2 I 104 47 0) L c)
    (k1 : p ≠ -1 → ¬ isP I p → K (some (vi (-1))) I L c)
    (k2 : isP I p → ¬ (0 ≤ t ∧ t ≤ 999) → K (some (vi (-2))) I L c)
    (k4 : isP I p → 0 ≤ t ∧ t ≤ 999 → I 104 47 = 8 → K (some (vi (-4))) I L c)
    (k3 : isP I p → 0 ≤ t ∧ t ≤ 999 → I 104 47 < 8 → K (some (vi (I 104 47 + 1))) (up2 (up2 (up2 I 135 (I 104 47).toNat p) 136 (I 104 47).toNat t) 104 47 (I 104 47 + 1)) L c) : C2 n (d + 2) 197 [vr (some 104), vi p, vi t] I L c K := by
  unfold isP at k1 k2 k3 k4
  refine m_book ?_
  rw [wri (x := I 104 0 - 1) (by omega)]
  by_cases h0 : p = -1
  · rw [if_pos h0]; exact k0 h0
  rw [if_neg h0]
  by_cases h : 0 ≤ p ∧ p < I 104 0
  · by_cases h2 : 0 ≤ t ∧ t ≤ 999
    · rw [if_neg (by omega), if_neg (by omega), if_neg (by omega), if_neg (by omega)]
      by_cases h3 : I 104 47 = 8
      · rw [if_pos h3]; exact k4 h h2 h3
      · rw [if_neg h3]
        simp (disch := decide) only [up2_ne, up2_same]
        rw [wri (x := I 104 47 + 1) (by omega)]
        exact ⟨by omega, by omega, k3 h h2 (by omega)⟩
    · have kk := k2 h h2
      repeat' (first | exact kk | (exfalso; omega) | refine ite_i (fun _ => ?_) (fun _ => ?_))
  · have kk := k1 h0 h
    repeat' (first | exact kk | (exfalso; omega) | refine ite_i (fun _ => ?_) (fun _ => ?_))
theorem p_book {n d : Nat} {p t : Int} {I : mI} {L : mL} {c : Nat} {Q : mI → mL → Nat → Prop} (r : RC I L c) (q : ∀ I' L', RC I' L' c → Q I' L' c) : PT n (d + 20) 92 [vr (some 16), vi p, vi t] 197 [vr (some 104), vi p, vi t] I L c Q := by
  obtain ⟨e1, e2, e3⟩ := rc_17 r
  have hn := rc_n r
  have hn0 := (rc_pI r).1
  obtain ⟨s1, s2, s3⟩ := rc_SZ r
  obtain ⟨a1, a2, a3⟩ := rc_BPt r
  have hl := a2.1
  obtain ⟨n1, n2, n3, n4⟩ := nn_book
  refine x_book (d := d + 19) ?_
  by_cases h0 : p = -1
  · rw [if_pos h0, ri_vi]
    refine c_book (d := d + 18) hn0 hl (fun _ => ?_) (fun a => absurd h0 a) (fun a => by unfold isP at a; omega) (fun a => by unfold isP at a; omega) (fun a => by unfold isP at a; omega)
    rw [ri_vi]
    refine ⟨rfl, q _ _ ?_⟩
    have x1 : eqx lBook I (up2 (up2 I 23 2 0) 104 47 0) := eqx_up (eqx_up (eqx_rf _ _) rfl) rfl
    refine RC_t x1 n1 rfl (TW_rows r.1 x1 n2 (LPt_e x1 n4 (rc_LPt r)) (PPt_e x1 n3 (rc_PPt r)) ⟨?_, ⟨?_, ?_⟩, ?_⟩ (fun k hk => by rw [x1 132 k rfl]; exact rc_tb r k hk)) ⟨?_, ?_, ?_⟩ r
    · rw [up2_same, up2_ne (by decide), up2_same]
    · rw [up2_same]; decide
    · intro k hk; rw [up2_same] at hk; exact absurd hk (Nat.not_lt_zero _)
    · intro k hk; rw [up2_same] at hk; exact absurd hk (Nat.not_lt_zero _)
    · rw [up2_ne (by decide), up2_ne (by decide)]; exact s1
    · rw [up2_ne (by decide), up2_ne (by decide)]; exact s2
    · rw [up2_ne (by decide), up2_at (by decide)]; exact s3
  rw [if_neg h0]
  by_cases h : 0 ≤ p ∧ p < I 104 0
  · by_cases h2 : 0 ≤ t ∧ t ≤ 999
    · by_cases h3 : I 104 47 < 8
      · rw [if_neg (by omega), if_pos (by omega), if_pos (by omega), if_neg (by omega), if_neg (by omega), if_pos (by omega)]
        refine x_put (m := (I 104 47).toNat) rOk_b (by decide) (by decide) (by omega) (by omega) ?_ (by decide)
        intro I1 x1 _ u2 ui ulow u0 u1' u2' u3'
        rw [ri_vi, ri_vi]
        have f : ∀ k, I1 104 k = I 104 k := fun k => x1 104 k (jk_f.mpr ⟨fun _ => by decide, fun _ => by simp; omega⟩)
        refine c_book (d := d + 18) (by rw [f]; exact hn0) (by rw [f]; exact hl) (fun a => absurd a h0) (fun _ a => absurd (by unfold isP; rw [f]; exact h) a) (fun _ a => absurd h2 a) (fun _ _ a => absurd a (by rw [f]; omega)) (fun _ _ _ => ?_)
        rw [ri_vi, f]
        generalize hI2 : up2 (up2 (up2 I1 135 (I 104 47).toNat p) 136 (I 104 47).toNat t) 104 47 (I 104 47 + 1) = I2
        have x2 : eqx lBook I I2 := by
          rw [← hI2]
          exact eqx_up (eqx_up (eqx_up (eqx_wk rfl x1) rfl) rfl) rfl
        have c135 : I2 135 = up2 I1 135 (I 104 47).toNat p 135 := by rw [← hI2]; simp (disch := decide) only [up2_ne]
        have c136 : I2 136 = up2 I1 136 (I 104 47).toNat t 136 := by rw [← hI2]; funext k; simp [up2]
        have c24 : I2 24 = I1 24 := by rw [← hI2]; simp (disch := decide) only [up2_ne]
        have c23 : I2 23 = I1 23 := by rw [← hI2]; simp (disch := decide) only [up2_ne]
        have g47 : I2 104 47 = I 104 47 + 1 := by rw [← hI2, up2_same]
        have g0 : I2 104 0 = I 104 0 := x2 104 0 rfl
        have low : ∀ a, a ≠ 24 → a ≠ 23 → ∀ k, I1 a k = I a k := fun a b1 b2 k => x1 a k (jk_f.mpr ⟨fun _ => by simp [b1, b2], fun _ => by simp; omega⟩)
        refine ⟨by omega, q _ _ (RC_t x2 n1 rfl (TW_rows r.1 x2 n2 (LPt_e x2 n4 (rc_LPt r)) (PPt_e x2 n3 (rc_PPt r)) ⟨?_, ⟨?_, ?_⟩, ?_⟩ ?_) ⟨?_, ?_, ?_⟩ r)⟩
        · rw [c23, u2, g47]; omega
        · rw [g47]; omega
        · intro k hk
          rw [g47] at hk
          rw [c135, g0]
          by_cases w : k = (I 104 47).toNat
          · rw [w, up2_same]; exact h
          · rw [up2_at w, low 135 (by decide) (by decide)]
            exact a2.2 k (by omega)
        · intro k hk
          rw [g47] at hk
          unfold bkC bkM
          rw [c135, c136, c24]
          by_cases w : k = (I 104 47).toNat
          · rw [w, up2_same, up2_same, u0, u1']
          · rw [up2_at w, up2_at w, low 135 (by decide) (by decide), low 136 (by decide) (by decide), ulow _ (by omega), ulow _ (by omega)]
            exact a3 k (by omega)
        · intro k hk
          rw [x2 132 k rfl]; exact rc_tb r k hk
        · rw [x2 19 0 rfl]; exact s1
        · rw [x2 21 0 rfl]; exact s2
        · rw [c23, ui 0 (by decide)]; exact s3
      · have kk : C2 n (d + 20) 197 [vr (some 104), vi p, vi t] I L c (fun rr I' L' c' => ri rr (fun w => (-4 : Int) = w ∧ Q I' L' c')) := by
          refine c_book (d := d + 18) hn0 hl (fun a => absurd a h0) (fun _ a => absurd h a) (fun _ a => absurd h2 a) (fun _ _ _ => ?_) (fun _ _ a => absurd a h3)
          rw [ri_vi]; exact ⟨rfl, q _ _ r⟩
        repeat' (first | (rw [ri_vi]; exact kk) | (exfalso; omega) | refine ite_i (fun _ => ?_) (fun _ => ?_))
    · have kk : C2 n (d + 20) 197 [vr (some 104), vi p, vi t] I L c (fun rr I' L' c' => ri rr (fun w => (-2 : Int) = w ∧ Q I' L' c')) := by
        refine c_book (d := d + 18) hn0 hl (fun a => absurd a h0) (fun _ a => absurd h a) (fun _ _ => ?_) (fun _ a => absurd a h2) (fun _ a => absurd a h2)
        rw [ri_vi]; exact ⟨rfl, q _ _ r⟩
      repeat' (first | (rw [ri_vi]; exact kk) | (exfalso; omega) | refine ite_i (fun _ => ?_) (fun _ => ?_))
  · have kk : C2 n (d + 20) 197 [vr (some 104), vi p, vi t] I L c (fun rr I' L' c' => ri rr (fun w => (-1 : Int) = w ∧ Q I' L' c')) := by
      refine c_book (d := d + 18) hn0 hl (fun a => absurd a h0) (fun _ _ => ?_) (fun a => absurd a h) (fun a => absurd a h) (fun a => absurd a h)
      rw [ri_vi]; exact ⟨rfl, q _ _ r⟩
    repeat' (first | (rw [ri_vi]; exact kk) | (exfalso; omega) | refine ite_i (fun _ => ?_) (fun _ => ?_))
abbrev lPlan : List Nat := [21, 22, 1046, 133, 134]
theorem nn_plan : nol lPlan lRest = true ∧ nol lPlan lFix = true ∧ nol lPlan [23, 24, 104, 1000, 1047, 135, 136] = true ∧ nol lPlan [19, 20, 104, 1000, 1041, 129, 130, 131, 132] = true := by decide +kernel
theorem c_plan {n d : Nat} {p t : Int} {I : mI} {L : mL} {c : Nat} {K : mK2} (hn : 0 ≤ I 104 0 ∧ I 104 0 ≤ 6) (hl : 0 ≤ I 104 46 ∧ I 104 46 ≤ 10)
    (k0 : p = -1 → K (some (vi 0)) (up2 I 104 46 0) L c)
    (k1 : p ≠ -1 → ¬ ((0 ≤ p ∧ p ≤ 3) ∧ (p = 2 → isP I t)) → K (some (vi (-1))) I L c)
    (k2 : (0 ≤ p ∧ p ≤ 3) ∧ (p = 2 → isP I t) → ¬ (p = 1 → 0 ≤ t ∧ t < 24) → K (some (vi (-2))) I L c)
    (k4 : (0 ≤ p ∧ p ≤ 3) ∧ (p = 2 → isP I t) → (p = 1 → 0 ≤ t ∧ t < 24) → I 104 46 = 10 → K (some (vi (-4))) I L c)
    (k3 : (0 ≤ p ∧ p ≤ 3) ∧ (p = 2 → isP I t) → (p = 1 → 0 ≤ t ∧ t < 24) → I 104 46 < 10 → K (some (vi (I 104 46 + 1))) (up2 (up2 (up2 I 133 (I 104 46).toNat p) 134 (I 104 46).toNat (if p = 1 ∨ p = 2 then t else 0)) 104 46 (I 104 46 + 1)) L c) : C2 n (d + 2) 195 [vr (some 104), vi p, vi t] I L c K := by
  unfold isP at k1 k2 k3 k4
  refine m_plan ?_
  simp only [up2_ne (show (104 : Nat) ≠ 133 by decide), up2_ne (show (104 : Nat) ≠ 134 by decide), up2_same]
  rw [wri (x := I 104 0 - 1) (by omega), wri (x := I 104 46 + 1) (by omega)]
  by_cases h0 : p = -1
  · rw [if_pos h0]; exact k0 h0
  rw [if_neg h0]
  by_cases h : (0 ≤ p ∧ p ≤ 3) ∧ (p = 2 → 0 ≤ t ∧ t < I 104 0)
  · by_cases h2 : p = 1 → 0 ≤ t ∧ t < 24
    · by_cases h3 : I 104 46 = 10
      · have kk := k4 h h2 h3
        clear k1 k2 k3 k4
        repeat' (first | exact kk | (exfalso; omega) | refine ite_i (fun _ => ?_) (fun _ => ?_))
      · have kk := k3 h h2 (by omega)
        clear k1 k2 k3 k4
        by_cases w : p = 1 ∨ p = 2
        · rw [if_pos w] at kk
          repeat' (first | exact kk | (exfalso; omega) | refine ite_i (fun _ => ?_) (fun _ => ?_) | refine And.intro (by omega) ?_)
        · rw [if_neg w] at kk
          repeat' (first | exact kk | (exfalso; omega) | refine ite_i (fun _ => ?_) (fun _ => ?_) | refine And.intro (by omega) ?_)
    · have kk := k2 h h2
      clear k1 k2 k3 k4
      repeat' (first | exact kk | (exfalso; omega) | refine ite_i (fun _ => ?_) (fun _ => ?_))
  · have kk := k1 h0 h
    clear k1 k2 k3 k4
    repeat' (first | exact kk | (exfalso; omega) | refine ite_i (fun _ => ?_) (fun _ => ?_))
theorem p_plan {n d : Nat} {p t : Int} {I : mI} {L : mL} {c : Nat} {Q : mI → mL → Nat → Prop} (r : RC I L c) (q : ∀ I' L', RC I' L' c → Q I' L' c) : PT n (d + 20) 90 [vr (some 16), vi p, vi t] 195 [vr (some 104), vi p, vi t] I L c Q := by
  obtain ⟨e1, e2, e3⟩ := rc_17 r
  have hn := rc_n r
  have hn0 := (rc_pI r).1
  obtain ⟨s1, s2, s3⟩ := rc_SZ r
  obtain ⟨a1, a2, a3⟩ := rc_PPt r
  have hl := a2.1
  obtain ⟨n1, n2, n3, n4⟩ := nn_plan
  refine x_plan (d := d + 19) ?_
  by_cases h0 : p = -1
  · rw [if_pos h0, ri_vi]
    refine c_plan (d := d + 18) hn0 hl (fun _ => ?_) (fun a => absurd h0 a) (fun a => by omega) (fun a => by omega) (fun a => by omega)
    rw [ri_vi]
    refine ⟨rfl, q _ _ ?_⟩
    have x1 : eqx lPlan I (up2 (up2 I 21 2 0) 104 46 0) := eqx_up (eqx_up (eqx_rf _ _) rfl) rfl
    refine RC_t x1 n1 rfl (TW_rows r.1 x1 n2 (LPt_e x1 n4 (rc_LPt r)) ⟨?_, ⟨?_, ?_⟩, ?_⟩ (BPt_e x1 n3 (rc_BPt r)) (fun k hk => by rw [x1 132 k rfl]; exact rc_tb r k hk)) ⟨?_, ?_, ?_⟩ r
    · rw [up2_same, up2_ne (by decide), up2_same]
    · rw [up2_same]; decide
    · intro k hk; rw [up2_same] at hk; exact absurd hk (Nat.not_lt_zero _)
    · intro k hk; rw [up2_same] at hk; exact absurd hk (Nat.not_lt_zero _)
    · rw [up2_ne (by decide), up2_ne (by decide)]; exact s1
    · rw [up2_ne (by decide), up2_at (by decide)]; exact s2
    · rw [up2_ne (by decide), up2_ne (by decide)]; exact s3
  rw [if_neg h0]
  by_cases h : (0 ≤ p ∧ p ≤ 3) ∧ (p = 2 → 0 ≤ t ∧ t < I 104 0)
  · by_cases h2 : p = 1 → 0 ≤ t ∧ t < 24
    · by_cases h3 : I 104 46 < 10
      · have main : C2 n (d + 19) 58 [vr (some 21), vi p, vi t, vi 0, vi 0] I L c (fun r1 I2 L3 c4 => ri r1 (fun x5 => (fun r I L c => ri r (fun v => C2 n (d + 20) 195 [vr (some 104), vi p, vi t] I L c (fun r I L c => ri r (fun w => v = w ∧ Q I L c)))) (some (vi x5)) I2 L3 c4)) := by
          refine x_put (m := (I 104 46).toNat) rOk_p (by decide) (by decide) (by omega) (by omega) ?_ (by decide)
          intro I1 x1 _ u2 ui ulow u0 u1' u2' u3'
          rw [ri_vi]
          dsimp only
          rw [ri_vi]
          have f : ∀ k, I1 104 k = I 104 k := fun k => x1 104 k (jk_f.mpr ⟨fun _ => by decide, fun _ => by simp; omega⟩)
          refine c_plan (d := d + 18) (by rw [f]; exact hn0) (by rw [f]; exact hl) (fun a => absurd a h0) (fun _ a => absurd (by unfold isP; rw [f]; exact h) a) (fun _ a => absurd h2 a) (fun _ _ a => absurd a (by rw [f]; omega)) (fun _ _ _ => ?_)
          rw [ri_vi, f]
          generalize hI2 : up2 (up2 (up2 I1 133 (I 104 46).toNat p) 134 (I 104 46).toNat (if p = 1 ∨ p = 2 then t else 0)) 104 46 (I 104 46 + 1) = I2
          have x2 : eqx lPlan I I2 := by
            rw [← hI2]
            exact eqx_up (eqx_up (eqx_up (eqx_wk rfl x1) rfl) rfl) rfl
          have c133 : I2 133 = up2 I1 133 (I 104 46).toNat p 133 := by rw [← hI2]; simp (disch := decide) only [up2_ne]
          have c134 : I2 134 = up2 I1 134 (I 104 46).toNat (if p = 1 ∨ p = 2 then t else 0) 134 := by rw [← hI2]; funext k; simp [up2]
          have c22 : I2 22 = I1 22 := by rw [← hI2]; simp (disch := decide) only [up2_ne]
          have c21 : I2 21 = I1 21 := by rw [← hI2]; simp (disch := decide) only [up2_ne]
          have g46 : I2 104 46 = I 104 46 + 1 := by rw [← hI2, up2_same]
          have g0 : I2 104 0 = I 104 0 := x2 104 0 rfl
          have low : ∀ a, a ≠ 22 → a ≠ 21 → ∀ k, I1 a k = I a k := fun a b1 b2 k => x1 a k (jk_f.mpr ⟨fun _ => by simp [b1, b2], fun _ => by simp; omega⟩)
          refine ⟨by omega, q _ _ (RC_t x2 n1 rfl (TW_rows r.1 x2 n2 (LPt_e x2 n4 (rc_LPt r)) ⟨?_, ⟨?_, ?_⟩, ?_⟩ (BPt_e x2 n3 (rc_BPt r)) ?_) ⟨?_, ?_, ?_⟩ r)⟩
          · rw [c21, u2, g46]; omega
          · rw [g46]; omega
          · intro k hk
            rw [g46] at hk
            rw [c133, c134, g0]
            by_cases w : k = (I 104 46).toNat
            · rw [w, up2_same, up2_same]
              exact ⟨h.1, fun a => by rw [if_pos (Or.inl a)]; exact h2 a, fun a => by rw [if_pos (Or.inr a)]; exact h.2 a⟩
            · rw [up2_at w, up2_at w, low 133 (by decide) (by decide), low 134 (by decide) (by decide)]
              exact a2.2 k (by omega)
          · intro k hk
            rw [g46] at hk
            unfold plC plM
            rw [c133, c134, c22]
            by_cases w : k = (I 104 46).toNat
            · rw [w, up2_same, up2_same, u0, u1']
              exact ⟨rfl, fun a => by rw [if_pos a]⟩
            · rw [up2_at w, up2_at w, low 133 (by decide) (by decide), low 134 (by decide) (by decide), ulow _ (by omega), ulow _ (by omega)]
              exact a3 k (by omega)
          · intro k hk
            rw [x2 132 k rfl]; exact rc_tb r k hk
          · rw [x2 19 0 rfl]; exact s1
          · rw [c21, ui 0 (by decide)]; exact s2
          · rw [x2 23 0 rfl]; exact s3
        repeat' (first | exact main | (exfalso; omega) | refine ite_i (fun _ => ?_) (fun _ => ?_))
      · have kk : C2 n (d + 20) 195 [vr (some 104), vi p, vi t] I L c (fun rr I' L' c' => ri rr (fun w => (-4 : Int) = w ∧ Q I' L' c')) := by
          refine c_plan (d := d + 18) hn0 hl (fun a => absurd a h0) (fun _ a => absurd h a) (fun _ a => absurd h2 a) (fun _ _ _ => ?_) (fun _ _ a => absurd a h3)
          rw [ri_vi]; exact ⟨rfl, q _ _ r⟩
        repeat' (first | (rw [ri_vi]; exact kk) | (exfalso; omega) | refine ite_i (fun _ => ?_) (fun _ => ?_))
    · have kk : C2 n (d + 20) 195 [vr (some 104), vi p, vi t] I L c (fun rr I' L' c' => ri rr (fun w => (-2 : Int) = w ∧ Q I' L' c')) := by
        refine c_plan (d := d + 18) hn0 hl (fun a => absurd a h0) (fun _ a => absurd h a) (fun _ _ => ?_) (fun _ a => absurd a h2) (fun _ a => absurd a h2)
        rw [ri_vi]; exact ⟨rfl, q _ _ r⟩
      repeat' (first | (rw [ri_vi]; exact kk) | (exfalso; omega) | refine ite_i (fun _ => ?_) (fun _ => ?_))
  · have kk : C2 n (d + 20) 195 [vr (some 104), vi p, vi t] I L c (fun rr I' L' c' => ri rr (fun w => (-1 : Int) = w ∧ Q I' L' c')) := by
      refine c_plan (d := d + 18) hn0 hl (fun a => absurd a h0) (fun _ _ => ?_) (fun a => absurd a h) (fun a => absurd a h) (fun a => absurd a h)
      rw [ri_vi]; exact ⟨rfl, q _ _ r⟩
    repeat' (first | (rw [ri_vi]; exact kk) | (exfalso; omega) | refine ite_i (fun _ => ?_) (fun _ => ?_))
