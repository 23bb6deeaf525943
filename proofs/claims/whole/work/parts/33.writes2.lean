/-! ===== the same call of both: those that change the world ===== -/
abbrev lRow : List Nat := [19, 20, 21, 22, 23, 24, 104, 1041, 1046, 1047, 129, 130, 131, 132, 133, 134, 135, 136]
theorem TW_set {l : List Nat} {I J : mI} {c : Nat} (t : TW I c) (e : eqx l I J) (hl : nol l lRow = true) (f : J 17 1 = J 104 0 ∧ J 17 2 = J 104 2 ∧ J 17 3 = J 104 3 ∧ J 17 4 = J 104 10) (hp : ∀ p, p < nM J → perN J p = perM J p) (hg : ∀ p, p < 6 → 0 ≤ J (25 + 3 * p) 4 ∧ J (25 + 3 * p) 4 ≤ 1) (hI : pI J) (hy : 0 ≤ J 104 3 ∧ J 104 3 ≤ 9999) (hh : -1 ≤ J 104 10 ∧ J 104 10 < (c : Int)) (hn : I 104 0 ≤ J 104 0) : TW J c := by
  have cc : ∀ h, h ∈ lRow → h ≠ 104 → J h = I h := fun h a b => cell_n e b (nol_m hl a)
  have fr : ∀ k, 1000 + k ∈ lRow → J 104 k = I 104 k := fun k a => fld_e e (nol_e hl (by decide)) (nol_e hl a)
  obtain ⟨_, _, _, _, _, _, ⟨k1, k2, k3⟩, ⟨n1, n2, n3⟩, ⟨o1, o2, o3⟩, tb⟩ := t
  refine ⟨f, hp, hg, hI, hy, hh, ⟨?_, ?_, ?_⟩, ⟨?_, ?_, ?_⟩, ⟨?_, ?_, ?_⟩, ?_⟩
  · rw [cc 19 (by decide) (by decide), fr 41 (by decide)]; exact k1
  · unfold lI
    rw [fr 41 (by decide), cc 129 (by decide) (by decide), cc 130 (by decide) (by decide), cc 131 (by decide) (by decide), cc 132 (by decide) (by decide)]
    refine ⟨k2.1, fun k hk => ?_⟩
    have := k2.2 k hk
    omega
  · unfold lkC lkM
    rw [fr 41 (by decide), cc 20 (by decide) (by decide), cc 129 (by decide) (by decide), cc 130 (by decide) (by decide), cc 131 (by decide) (by decide), cc 132 (by decide) (by decide)]
    exact k3
  · rw [cc 21 (by decide) (by decide), fr 46 (by decide)]; exact n1
  · unfold lpI
    rw [fr 46 (by decide), cc 133 (by decide) (by decide), cc 134 (by decide) (by decide)]
    refine ⟨n2.1, fun k hk => ?_⟩
    obtain ⟨b1, b2, b3⟩ := n2.2 k hk
    exact ⟨b1, b2, fun h => by have := b3 h; omega⟩
  · unfold plC plM
    rw [fr 46 (by decide), cc 22 (by decide) (by decide), cc 133 (by decide) (by decide), cc 134 (by decide) (by decide)]
    exact n3
  · rw [cc 23 (by decide) (by decide), fr 47 (by decide)]; exact o1
  · unfold kI
    rw [fr 47 (by decide), cc 135 (by decide) (by decide)]
    refine ⟨o2.1, fun k hk => ?_⟩
    have := o2.2 k hk
    omega
  · unfold bkC bkM
    rw [fr 47 (by decide), cc 24 (by decide) (by decide), cc 135 (by decide) (by decide), cc 136 (by decide) (by decide)]
    exact o3
  · rw [cc 132 (by decide) (by decide)]; exact tb
theorem SZ_e {l : List Nat} {I J : mI} (e : eqx l I J) (h : nol l [19, 21, 23] = true) (z : SZ I) : SZ J := by
  unfold SZ
  rw [cell_n e (a := 19) (by decide) (nol_m h (by decide)), cell_n e (a := 21) (by decide) (nol_m h (by decide)), cell_n e (a := 23) (by decide) (nol_m h (by decide))]
  exact z
theorem rc_SZ {I : mI} {L : mL} {c : Nat} (r : RC I L c) : SZ I := r.2.2.2.2.2.2.2.1
theorem rc_pI {I : mI} {L : mL} {c : Nat} (r : RC I L c) : pI I := r.1.2.2.2.1
abbrev lPe : List Nat := [25, 26, 27, 28, 29, 30, 31, 32, 33, 34, 35, 36, 37, 38, 39, 40, 41, 42]
theorem pe_sub {p : Nat} (hp : p < 6) {I J : mI} (e : eqx [25 + 3 * p, 25 + 3 * p + 1, 25 + 3 * p + 2] I J) : eqx lPe I J := by
  rcases p with _ | _ | _ | _ | _ | _ | p
  all_goals first | exact eqx_wk rfl e | omega
theorem nn_hour : nol [17, 1002] lRest = true ∧ nol [17, 1002] lRow = true := by decide +kernel
theorem pI_cls {l : List Nat} {I J : mI} (e : eqx l I J) (h : nol l lQ = true) (o : pI I) : pI J := pI_e e h o
theorem p_hour {n d : Nat} {p : Int} {I : mI} {L : mL} {c : Nat} {Q : mI → mL → Nat → Prop} (r : RC I L c) (q : ∀ I' L', RC I' L' c → Q I' L' c) : PT n (d + 20) 72 [vr (some 16), vi p] 128 [vr (some 104), vi p] I L c Q := by
  obtain ⟨e1, e2, e3⟩ := rc_17 r
  refine x_hour (d := d + 19) ?_
  by_cases h : 0 ≤ p ∧ p < 24
  · rw [if_neg (by omega), if_pos (by omega), ri_vi]
    have x0 : eqx [17] I (up2 I 17 2 p) := eqx_up (eqx_rf _ _) rfl
    refine c_hour (d := d + 18) (pI_e x0 rfl (rc_pI r)) (fun a => absurd h a) (fun _ I1 x1 p1 f1 => ?_)
    rw [ri_vi]
    have x2 : eqx [17, 1002] I I1 := eqx_tr (eqx_wk rfl x0) (eqx_wk rfl x1)
    refine ⟨e2, q _ _ (RC_t x2 nn_hour.1 rfl ?_ (SZ_e x2 rfl (rc_SZ r)) r)⟩
    have c17 : I1 17 = up2 I 17 2 p 17 := cell_n x1 (by decide) (by decide)
    have f : ∀ k, k ≠ 2 → I1 104 k = I 104 k := fun k hk => x2 104 k (jk_f.mpr ⟨fun _ => by decide, fun _ => by simp; omega⟩)
    have t := r.1
    refine TW_set t x2 nn_hour.2 ?_ ?_ ?_ p1 ?_ ?_ ?_
    · rw [c17, up2_at (by decide), up2_same, up2_at (by decide), up2_at (by decide), f 0 (by decide), f 3 (by decide), f 10 (by decide), f1]
      exact ⟨t.1.1, rfl, t.1.2.2.1, t.1.2.2.2⟩
    · intro i hi
      rw [nM_e x2 rfl] at hi
      have := rc_n r
      rw [perM_e x2 rfl, ← rc_per r hi]
      exact perC_n x2 (by omega) (by simp; omega) (by simp; omega) (by simp; omega)
    · intro i hi
      rw [cell_n x2 (by omega) (by simp; omega)]
      exact t.2.2.1 i hi
    · rw [f 3 (by decide)]; exact t.2.2.2.2.1
    · rw [f 10 (by decide)]; exact t.2.2.2.2.2.1
    · rw [f 0 (by decide)]; omega
  · have fin : C2 n (d + 20) 128 [vr (some 104), vi p] I L c (fun rr I' L' c' => ri rr (fun w => (-2 : Int) = w ∧ Q I' L' c')) := by
      refine c_hour (d := d + 18) (rc_pI r) (fun _ => ?_) (fun a => absurd a h)
      rw [ri_vi]
      exact ⟨rfl, q _ _ r⟩
    by_cases h1 : p < 0
    · rw [if_pos h1, ri_vi]; exact fin
    · rw [if_neg h1, if_neg (by omega), ri_vi]; exact fin
theorem nn_grace : nol (108 :: lPe) lRest = true ∧ nol (108 :: lPe) lRow = true := by decide +kernel
/-- one person's cells and the same of the reference: the tie holds on -/
theorem RC_one {l : List Nat} {I I1 J : mI} {L : mL} {c p i : Nat} {x : Int} {a k : Nat} (r : RC I L c) (hp : p < nM I) (ha : a = 25 + 3 * p ∨ a = 25 + 3 * p + 1 ∨ a = 25 + 3 * p + 2) (hI1 : I1 = up2 I a k x) (e : eqx l I1 J) (hh : perC (up2 I a k x) (25 + 3 * p) = setP (perC I (25 + 3 * p)) i x) (hM : perM J = updP (perM I) p (setP (perM I p) i x)) (pj : pI J)
    (n1 : nol (l ++ lPe) lRest = true) (n2 : nol (l ++ lPe) lRow = true) (n3 : nol l [17, 104, 1000, 1002, 1003, 1010, 19, 21, 23] = true) (n4 : nol l lPe = true) (hs : sc2 (l ++ lPe) = true) (hg : a = 25 + 3 * p → k = 4 ∧ 0 ≤ x ∧ x ≤ 1) : RC J L c := by
  have hn := rc_n r
  have t := r.1
  have x0 : eqx lPe I I1 := by
    rw [hI1]
    refine eqx_up (eqx_rf _ _) (jk_m (by omega) ?_)
    have : a = 25 ∨ a = 26 ∨ a = 27 ∨ a = 28 ∨ a = 29 ∨ a = 30 ∨ a = 31 ∨ a = 32 ∨ a = 33 ∨ a = 34 ∨ a = 35 ∨ a = 36 ∨ a = 37 ∨ a = 38 ∨ a = 39 ∨ a = 40 ∨ a = 41 ∨ a = 42 := by omega
    rcases this with w | w | w | w | w | w | w | w | w | w | w | w | w | w | w | w | w | w <;> (subst w; decide)
  have w1 : (lPe).all (elm (l ++ lPe)) = true := List.all_eq_true.mpr fun y hy => (elm_iff _ _).mpr (List.mem_append_right _ hy)
  have w2 : l.all (elm (l ++ lPe)) = true := List.all_eq_true.mpr fun y hy => (elm_iff _ _).mpr (List.mem_append_left _ hy)
  have x2 : eqx (l ++ lPe) I J := eqx_tr (eqx_wk w1 x0) (eqx_wk w2 e)
  have f17 : J 17 = I 17 := by rw [cell_n e (by decide) (nol_m n3 (by decide)), hI1, up2_ne (by omega)]
  have f : ∀ k, 1000 + k ∈ [17, 104, 1000, 1002, 1003, 1010, 19, 21, 23] → J 104 k = I 104 k := fun k hk => by
    rw [fld_e e (nol_e n3 (by decide)) (nol_e n3 hk), hI1, up2_ne (show (104 : Nat) ≠ a by omega)]
  have pe : ∀ h, h ∈ lPe → J h = I1 h := fun h hm => cell_n e (by intro e4; subst e4; revert hm; decide) (nol_m n4 hm)
  have mm : ∀ h, 25 ≤ h → h ≤ 42 → h ∈ lPe := by
    intro h h1 h2
    have : h = 25 ∨ h = 26 ∨ h = 27 ∨ h = 28 ∨ h = 29 ∨ h = 30 ∨ h = 31 ∨ h = 32 ∨ h = 33 ∨ h = 34 ∨ h = 35 ∨ h = 36 ∨ h = 37 ∨ h = 38 ∨ h = 39 ∨ h = 40 ∨ h = 41 ∨ h = 42 := by omega
    rcases this with w | w | w | w | w | w | w | w | w | w | w | w | w | w | w | w | w | w <;> (subst w; decide)
  have pJ : ∀ q, q < 6 → perN J q = updP (perN I) p (setP (perN I p) i x) q := by
    intro q hq
    have e0 : perN J q = perN I1 q := perC_c (pe _ (mm _ (by omega) (by omega))) (pe _ (mm _ (by omega) (by omega))) (pe _ (mm _ (by omega) (by omega)))
    rw [e0, hI1]
    exact perN_up (by omega) ha hh q hq
  have nJ : nM J = nM I := by unfold nM; rw [f 0 (by decide)]
  refine RC_t x2 n1 hs (TW_set t x2 n2 ?_ ?_ ?_ pj ?_ ?_ ?_) ?_ r
  · rw [f17, f 0 (by decide), f 2 (by decide), f 3 (by decide), f 10 (by decide)]; exact t.1
  · intro q hq
    rw [nJ] at hq
    rw [pJ q (by omega), hM]
    unfold updP
    rw [rc_per r hp, rc_per r hq]
  · intro q hq
    rw [pe _ (mm _ (by omega) (by omega)), hI1]
    by_cases w : 25 + 3 * q = a
    · obtain ⟨k4, x0, x1⟩ := hg (by omega)
      rw [← w, k4, up2_same]
      exact ⟨x0, x1⟩
    · rw [up2_ne w]; exact t.2.2.1 q hq
  · rw [f 3 (by decide)]; exact t.2.2.2.2.1
  · rw [f 10 (by decide)]; exact t.2.2.2.2.2.1
  · rw [f 0 (by decide)]; omega
  · refine SZ_e x2 ?_ (rc_SZ r)
    refine List.all_eq_true.mpr fun y hy => ?_
    rw [Bool.not_eq_true', Bool.eq_false_iff, Ne, elm_iff, List.mem_append]
    rintro (h | h)
    · exact nol_m n3 (List.mem_of_mem_drop (i := 6) hy) h
    · revert h
      simp only [List.mem_cons, List.not_mem_nil, or_false] at hy
      rcases hy with w | w | w <;> (subst w; decide)
theorem p_grace {n d : Nat} {p t x : Int} {I : mI} {L : mL} {c : Nat} {Q : mI → mL → Nat → Prop} (r : RC I L c) (q : ∀ I' L', RC I' L' c → Q I' L' c) : PT n (d + 20) 69 [vr (some 16), vi p, vi t, vi x] 124 [vr (some 104), vi p, vi t, vi x] I L c Q := by
  obtain ⟨e1, e2, e3⟩ := rc_17 r
  have hn := rc_n r
  refine x_grace (d := d + 19) ?_
  have fin : ∀ v : Int, (¬ (isP I p ∧ 0 ≤ t ∧ t ≤ 5) → v = -1) → (isP I p ∧ 0 ≤ t ∧ t ≤ 5 → v = -2) → ¬ ((isP I p ∧ 0 ≤ t ∧ t ≤ 5) ∧ 0 ≤ x ∧ x ≤ 9) → C2 n (d + 20) 124 [vr (some 104), vi p, vi t, vi x] I L c (fun rr I' L' c' => ri rr (fun w => v = w ∧ Q I' L' c')) := by
    intro v h1 h2 h3
    refine c_grace (d := d + 18) (rc_pI r) (fun a => ?_) (fun a b => ?_) (fun a b c' => absurd ⟨⟨a, b⟩, c'⟩ h3)
    · rw [ri_vi]; exact ⟨h1 a, q _ _ r⟩
    · rw [ri_vi]; exact ⟨h2 a, q _ _ r⟩
  unfold isP at fin
  rw [e1]
  by_cases h : (0 ≤ p ∧ p < I 104 0) ∧ 0 ≤ t ∧ t ≤ 5
  · by_cases h2 : 0 ≤ x ∧ x ≤ 9
    · clear fin
      obtain ⟨p, rfl⟩ : ∃ m : Nat, p = m := ⟨p.toNat, by omega⟩
      obtain ⟨t, rfl⟩ : ∃ m : Nat, t = m := ⟨t.toNat, by omega⟩
      have hp : p < 6 := by omega
      have po := pOk_now (n := n) (c := c) hp
      rw [if_neg (by omega), if_pos (by omega), if_pos (by omega), if_neg (by omega), if_pos (by omega), if_neg (by omega), if_pos (by omega)]
      simp only [Int.toNat_natCast, Rs18 hp, drf_s, chkE po.1, po.2.1, chkE2 po.2.2.2.1, chkE po.2.2.2.1, po.2.2.2.2.2.1]
      refine ⟨by omega, by omega, by omega, ?_⟩
      rw [ri_vi]
      have x0 : eqx lPe I (up2 I (25 + 3 * p + 1) t x) := pe_sub hp (eqx_up (eqx_rf _ _) (jk_m (by omega) (by simp)))
      have pm : perM (up2 I (25 + 3 * p + 1) t x) = perM I := perM_f x0 rfl
      refine c_grace (d := d + 18) (pI_e x0 rfl (rc_pI r)) (fun a => absurd (by unfold isP; rw [x0 104 0 rfl]; exact h) a) (fun _ a => absurd h2 a) (fun _ _ _ I1 x1 p1 m1 => ?_)
      rw [ri_vi]
      rw [pm, Int.toNat_natCast, Int.toNat_natCast] at m1
      refine ⟨?_, q _ _ (RC_one (i := 5 + t) r (by omega) (Or.inr (Or.inl rfl)) rfl x1 (perC_g I _ t x (by omega)) m1 p1 (by decide +kernel) (by decide +kernel) rfl rfl rfl (by omega))⟩
      rw [pm, Int.toNat_natCast, Int.toNat_natCast, ← rc_per r (by omega)]
      exact (perC5 I _ (by omega)).symm
    · have kk := fin (-2) (fun a => absurd h a) (fun _ => rfl) (fun a => h2 a.2)
      repeat' (first | (rw [ri_vi]; exact kk) | (exfalso; omega) | refine ite_i (fun _ => ?_) (fun _ => ?_))
  · have kk := fin (-1) (fun _ => rfl) (fun a => absurd a h) (fun a => h a.1)
    repeat' (first | (rw [ri_vi]; exact kk) | (exfalso; omega) | refine ite_i (fun _ => ?_) (fun _ => ?_))
theorem p_leave {n d : Nat} {p t : Int} {I : mI} {L : mL} {c : Nat} {Q : mI → mL → Nat → Prop} (r : RC I L c) (ht : 0 ≤ t ∧ t ≤ 1) (q : ∀ I' L', RC I' L' c → Q I' L' c) : PT n (d + 20) 70 [vr (some 16), vi p, vi t] 126 [vr (some 104), vi p, vi t] I L c Q := by
  obtain ⟨e1, e2, e3⟩ := rc_17 r
  have hn := rc_n r
  refine x_leave (d := d + 19) ?_
  rw [e1]
  by_cases h : 0 ≤ p ∧ p < I 104 0
  · obtain ⟨p, rfl⟩ : ∃ m : Nat, p = m := ⟨p.toNat, by omega⟩
    have hp : p < 6 := by omega
    have po := pOk_now (n := n) (c := c) hp
    rw [if_neg (by omega), if_pos (by omega), if_pos (by omega)]
    simp only [Int.toNat_natCast, Rs18 hp, drf_s, chkE po.1]
    refine ⟨by omega, by omega, b01_i ht ?_⟩
    have x0 : eqx lPe I (up2 I (25 + 3 * p) 4 t) := pe_sub hp (eqx_up (eqx_rf _ _) (jk_m (by omega) (by simp)))
    have pm : perM (up2 I (25 + 3 * p) 4 t) = perM I := perM_f x0 rfl
    have g4 := r.1.2.2.1 p hp
    have fin : C2 n (d + 20) 126 [vr (some 104), vi (p : Int), vi t] (up2 I (25 + 3 * p) 4 t) L c (fun rr I' L' c' => ri rr (fun w => I (25 + 3 * p) 4 = w ∧ Q I' L' c')) := by
      refine c_leave (d := d + 18) (pI_e x0 rfl (rc_pI r)) (fun a => absurd (by unfold isP; rw [x0 104 0 rfl]; exact h) a) (fun _ I1 x1 p1 m1 => ?_)
      rw [ri_vi]
      rw [pm, Int.toNat_natCast, show (if t = 0 then (0 : Int) else 1) = t by split <;> omega] at m1
      refine ⟨?_, q _ _ (RC_one (i := 4) r (by omega) (Or.inl rfl) rfl x1 (perC_f I _ 4 t (by decide)) m1 p1 (by decide +kernel) (by decide +kernel) rfl rfl rfl (fun _ => ⟨rfl, ht⟩))⟩
      rw [pm, Int.toNat_natCast, ← rc_per r (by omega)]
      rfl
    by_cases g : I (25 + 3 * p) 4 = 0
    · rw [if_pos g, ri_vi]; rw [g] at fin; exact fin
    · rw [if_neg g, ri_vi]; rw [show I (25 + 3 * p) 4 = 1 by omega] at fin; exact fin
  · have fin : C2 n (d + 20) 126 [vr (some 104), vi p, vi t] I L c (fun rr I' L' c' => ri rr (fun w => (-1 : Int) = w ∧ Q I' L' c')) := by
      refine c_leave (d := d + 18) (rc_pI r) (fun _ => ?_) (fun a => absurd a h)
      rw [ri_vi]; exact ⟨rfl, q _ _ r⟩
    repeat' (first | (rw [ri_vi]; exact fin) | (exfalso; omega) | refine ite_i (fun _ => ?_) (fun _ => ?_))
theorem p_row {n d : Nat} {p t x : Int} {I : mI} {L : mL} {c : Nat} {Q : mI → mL → Nat → Prop} (r : RC I L c) (q : ∀ I' L', RC I' L' c → Q I' L' c) : PT n (d + 20) 71 [vr (some 16), vi p, vi t, vi x] 127 [vr (some 104), vi p, vi t, vi x] I L c Q := by
  obtain ⟨e1, e2, e3⟩ := rc_17 r
  have hn := rc_n r
  refine x_row (d := d + 19) ?_
  rw [e1]
  by_cases h : (0 ≤ p ∧ p < I 104 0) ∧ 0 ≤ t ∧ t ≤ 3
  · by_cases h2 : 0 ≤ x ∧ x ≤ 9
    · obtain ⟨p, rfl⟩ : ∃ m : Nat, p = m := ⟨p.toNat, by omega⟩
      obtain ⟨t, rfl⟩ : ∃ m : Nat, t = m := ⟨t.toNat, by omega⟩
      have hp : p < 6 := by omega
      have po := pOk_now (n := n) (c := c) hp
      have e6 : perM I p 1 = I (25 + 3 * p) 1 := by rw [← rc_per r (by omega)]; rfl
      rw [if_neg (by omega), if_pos (by omega), if_pos (by omega), if_neg (by omega), if_pos (by omega), if_neg (by omega), if_pos (by omega)]
      simp only [Int.toNat_natCast, Rs18 hp, drf_s, chkE po.1, po.2.2.1, chkE2 po.2.2.2.2.1, chkE po.2.2.2.2.1, po.2.2.2.2.2.2]
      refine ⟨by omega, ?_⟩
      by_cases k6 : I (25 + 3 * p) 1 = 6
      · rw [if_pos k6]
        refine ⟨by omega, by omega, ?_⟩
        rw [ri_vi]
        have x0 : eqx lPe I (up2 I (25 + 3 * p + 2) t x) := pe_sub hp (eqx_up (eqx_rf _ _) (jk_m (by omega) (by simp)))
        have pm : perM (up2 I (25 + 3 * p + 2) t x) = perM I := perM_f x0 rfl
        refine c_row (d := d + 18) (pI_e x0 rfl (rc_pI r)) (fun a => absurd (by unfold isP; rw [x0 104 0 rfl]; exact h) a) (fun _ a => absurd h2 a) (fun _ _ a => absurd (by rw [pm, Int.toNat_natCast, e6]; exact k6) a) (fun _ _ _ _ I1 x1 p1 m1 => ?_)
        rw [ri_vi]
        rw [pm, Int.toNat_natCast, Int.toNat_natCast] at m1
        refine ⟨?_, q _ _ (RC_one (i := 11 + t) r (by omega) (Or.inr (Or.inr rfl)) rfl x1 (perC_r I _ t x (by omega)) m1 p1 (by decide +kernel) (by decide +kernel) rfl rfl rfl (by omega))⟩
        rw [pm, Int.toNat_natCast, Int.toNat_natCast, ← rc_per r (by omega)]
        exact (perC11 I _ (by omega)).symm
      · rw [if_neg k6, ri_vi]
        refine c_row (d := d + 18) (rc_pI r) (fun a => absurd h a) (fun _ a => absurd h2 a) (fun _ _ _ => ?_) (fun _ _ _ a => absurd (by rw [← e6]; exact a) k6)
        rw [ri_vi]; exact ⟨rfl, q _ _ r⟩
    · have kk : C2 n (d + 20) 127 [vr (some 104), vi p, vi t, vi x] I L c (fun rr I' L' c' => ri rr (fun w => (-2 : Int) = w ∧ Q I' L' c')) := by
        refine c_row (d := d + 18) (rc_pI r) (fun a => absurd h a) (fun _ _ => ?_) (fun _ a => absurd a h2) (fun _ _ a => absurd a h2)
        rw [ri_vi]; exact ⟨rfl, q _ _ r⟩
      repeat' (first | (rw [ri_vi]; exact kk) | (exfalso; omega) | refine ite_i (fun _ => ?_) (fun _ => ?_))
  · have kk : C2 n (d + 20) 127 [vr (some 104), vi p, vi t, vi x] I L c (fun rr I' L' c' => ri rr (fun w => (-1 : Int) = w ∧ Q I' L' c')) := by
      refine c_row (d := d + 18) (rc_pI r) (fun _ => ?_) (fun a => absurd a h) (fun a => absurd a h) (fun a b => absurd ⟨a, b⟩ h)
      rw [ri_vi]; exact ⟨rfl, q _ _ r⟩
    repeat' (first | (rw [ri_vi]; exact kk) | (exfalso; omega) | refine ite_i (fun _ => ?_) (fun _ => ?_))
