/-! ===== the same call of both: a new person, years, rows told, the image ===== -/
theorem nn_person : nol ([105, 106, 107, 108, 109, 1000, 1001] ++ (17 :: lPe)) lRest = true ∧ nol ([105, 106, 107, 108, 109, 1000, 1001] ++ (17 :: lPe)) lRow = true := by decide +kernel
theorem mem_Pe {h : Nat} (h1 : 25 ≤ h) (h2 : h ≤ 42) : h ∈ lPe := by
  have : h = 25 ∨ h = 26 ∨ h = 27 ∨ h = 28 ∨ h = 29 ∨ h = 30 ∨ h = 31 ∨ h = 32 ∨ h = 33 ∨ h = 34 ∨ h = 35 ∨ h = 36 ∨ h = 37 ∨ h = 38 ∨ h = 39 ∨ h = 40 ∨ h = 41 ∨ h = 42 := by omega
  rcases this with w | w | w | w | w | w | w | w | w | w | w | w | w | w | w | w | w | w <;> (subst w; decide)
theorem p_person {n d : Nat} {p t x : Int} {I : mI} {L : mL} {c : Nat} {Q : mI → mL → Nat → Prop} (r : RC I L c) (q : ∀ I' L', RC I' L' c → Q I' L' c) : PT n (d + 20) 67 [vr (some 16), vi p, vi t, vi x] 123 [vr (some 104), vi p, vi t, vi x] I L c Q := by
  obtain ⟨e1, e2, e3⟩ := rc_17 r
  have hn := rc_n r
  refine x_person (d := d + 18) ?_
  by_cases h : 0 ≤ p ∧ p ≤ 6
  · by_cases h2 : (0 ≤ t ∧ t ≤ 9) ∧ 0 ≤ x ∧ x ≤ 99
    · by_cases h3 : I 104 0 < 6
      · rw [if_neg (by omega), if_pos (by omega), if_neg (by omega), if_pos (by omega), if_neg (by omega), if_neg (by omega), if_pos (by omega)]
        have hm : nM I < 6 := by omega
        have po := pOk_now (n := n) (c := c) hm
        have en : I 17 1 = ((nM I : Nat) : Int) := by omega
        rw [en, Int.toNat_natCast, Rs18 hm, drf_s, chkE po.1]
        refine ⟨by omega, ?_⟩
        refine x_begin (d := d + 18) po (by omega) ?_
        intro I1 x1 z1
        have x1' := pe_sub hm x1
        have f1 : I1 17 1 = ((nM I : Nat) : Int) := by rw [x1' 17 1 rfl]; exact en
        rw [rv_no, up2_same, f1, wr_nat (by omega), wri (by omega), ri_vi]
        have x2 : eqx (17 :: lPe) I (up2 I1 17 1 ((nM I + 1 : Nat) : Int)) := eqx_up (eqx_wk rfl x1') rfl
        generalize hI2 : up2 I1 17 1 ((nM I + 1 : Nat) : Int) = I2 at *
        have pm : perM I2 = perM I := perM_f x2 rfl
        have nm : nM I2 = nM I := nM_e x2 rfl
        have f0 : I2 104 0 = I 104 0 := x2 104 0 rfl
        refine c_person (d := d + 19) (pI_e x2 rfl (rc_pI r)) (fun a => absurd h a) (fun _ a => absurd h2 a) (fun _ _ a => absurd a (by omega)) (fun _ _ _ I3 x3 p3 m3 g3 => ?_)
        rw [pm, nm] at m3
        rw [ri_vi]
        have x4 : eqx ([105, 106, 107, 108, 109, 1000, 1001] ++ (17 :: lPe)) I I3 := eqx_tr (eqx_wk rfl x2) (eqx_wk rfl x3)
        have c17 : I3 17 = I2 17 := cell_n x3 (by decide) (by decide)
        have cp : ∀ a, 25 ≤ a → a ≤ 42 → I3 a = I1 a := fun a a1 a2 => by rw [cell_n x3 (by omega) (by simp; omega), ← hI2, up2_ne (by omega)]
        have pJ : ∀ j, j < 6 → perN I3 j = perN I1 j := fun j hj => perC_c (cp _ (by omega) (by omega)) (cp _ (by omega) (by omega)) (cp _ (by omega) (by omega))
        have po1 : ∀ j, j < 6 → j ≠ nM I → perN I1 j = perN I j := fun j hj hne => perC_n x1 (by omega) (by simp; omega) (by simp; omega) (by simp; omega)
        have f : ∀ k, 2 ≤ k → k ≠ 104 → I3 104 k = I 104 k := fun k hk _ => x4 104 k (jk_f.mpr ⟨fun _ => by decide, fun _ => by simp [lPe]; omega⟩)
        have c2 : ∀ k, k ≠ 1 → I3 17 k = I 17 k := fun k hk => by rw [c17, ← hI2, up2_at hk, x1' 17 k rfl]
        have t0 := r.1
        refine ⟨by rw [f0]; omega, q _ _ (RC_t x4 nn_person.1 rfl (TW_set t0 x4 nn_person.2 ?_ ?_ ?_ p3 ?_ ?_ ?_) (SZ_e x4 rfl (rc_SZ r)) r)⟩
        · refine ⟨?_, ?_, ?_, ?_⟩
          · rw [c17, ← hI2, up2_same, g3, f0]; omega
          · rw [c2 2 (by decide), f 2 (by decide) (by decide)]; exact t0.1.2.1
          · rw [c2 3 (by decide), f 3 (by decide) (by decide)]; exact t0.1.2.2.1
          · rw [c2 4 (by decide), f 10 (by decide) (by decide)]; exact t0.1.2.2.2
        · intro j hj
          have : nM I3 = nM I + 1 := by unfold nM; rw [g3, f0]; unfold nM at hm; omega
          rw [m3, pJ j (by omega)]
          unfold updP
          by_cases w : j = nM I
          · rw [if_pos w, w]; exact z1
          · rw [if_neg w, po1 j (by omega) w, rc_per r (by omega)]
        · intro j hj
          have w4 : I3 (25 + 3 * j) 4 = perN I1 j 4 := by rw [← pJ j hj]; rfl
          rw [w4]
          by_cases w : j = nM I
          · rw [w, show perN I1 (nM I) = newP (nM I : Int) p t x from z1]
            exact (by decide : (0 : Int) ≤ 0 ∧ (0 : Int) ≤ 1)
          · rw [po1 j hj w]; exact t0.2.2.1 j hj
        · rw [f 3 (by decide) (by decide)]; exact t0.2.2.2.2.1
        · rw [f 10 (by decide) (by decide)]; exact t0.2.2.2.2.2.1
        · rw [g3, f0]; omega
      · have kk : C2 n (d + 20) 123 [vr (some 104), vi p, vi t, vi x] I L c (fun rr I' L' c' => ri rr (fun w => (-4 : Int) = w ∧ Q I' L' c')) := by
          refine c_person (d := d + 19) (rc_pI r) (fun a => absurd h a) (fun _ a => absurd h2 a) (fun _ _ _ => ?_) (fun _ _ a => absurd a h3)
          rw [ri_vi]; exact ⟨rfl, q _ _ r⟩
        repeat' (first | (rw [ri_vi]; exact kk) | (exfalso; omega) | refine ite_i (fun _ => ?_) (fun _ => ?_))
    · have kk : C2 n (d + 20) 123 [vr (some 104), vi p, vi t, vi x] I L c (fun rr I' L' c' => ri rr (fun w => (-2 : Int) = w ∧ Q I' L' c')) := by
        refine c_person (d := d + 19) (rc_pI r) (fun a => absurd h a) (fun _ _ => ?_) (fun _ a => absurd a h2) (fun _ a => absurd a h2)
        rw [ri_vi]; exact ⟨rfl, q _ _ r⟩
      repeat' (first | (rw [ri_vi]; exact kk) | (exfalso; omega) | refine ite_i (fun _ => ?_) (fun _ => ?_))
  · have kk : C2 n (d + 20) 123 [vr (some 104), vi p, vi t, vi x] I L c (fun rr I' L' c' => ri rr (fun w => (-1 : Int) = w ∧ Q I' L' c')) := by
      refine c_person (d := d + 19) (rc_pI r) (fun _ => ?_) (fun a => absurd a h) (fun a => absurd a h) (fun a => absurd a h)
      rw [ri_vi]; exact ⟨rfl, q _ _ r⟩
    repeat' (first | (rw [ri_vi]; exact kk) | (exfalso; omega) | refine ite_i (fun _ => ?_) (fun _ => ?_))
theorem year4 (Q : mP) : yearS Q 4 = Q 4 := by
  unfold yearS
  split
  · rfl
  · split
    · show (if (4 : Nat) = 5 + (Q 2 % 6).toNat then 0 else if (4 : Nat) = 3 then Q 3 + 1 else Q 4) = Q 4
      rw [if_neg (by omega), if_neg (by decide)]
    · show (if (4 : Nat) = 3 then Q 3 + 1 else Q 4) = Q 4
      rw [if_neg (by decide)]
theorem age4 (Q : mP) : ∀ y, ageS Q y 4 = Q 4
  | 0 => rfl
  | y + 1 => by
    show yearS (ageS Q y) 4 = Q 4
    rw [year4, age4 Q y]
theorem nn_pass : nol ([107, 108, 1003] ++ (17 :: lPe)) lRest = true ∧ nol ([107, 108, 1003] ++ (17 :: lPe)) lRow = true := by decide +kernel
theorem p_pass {n d : Nat} {p : Int} {I : mI} {L : mL} {c : Nat} {Q : mI → mL → Nat → Prop} (r : RC I L c) (q : ∀ I' L', RC I' L' c → Q I' L' c) : PT n (d + 20) 76 [vr (some 16), vi p] 166 [vr (some 104), vi p] I L c Q := by
  obtain ⟨e1, e2, e3⟩ := rc_17 r
  have hn := rc_n r
  have t0 := r.1
  have hy := t0.2.2.2.2.1
  refine x_pass (d := d + 19) ?_
  by_cases h : 0 ≤ p ∧ p ≤ 60
  · rw [if_neg (by omega), if_neg (by omega), e3, wri (by omega)]
    by_cases h2 : 9999 < I 104 3 + p
    · rw [if_pos h2, ri_vi]
      refine c_pass (d := d + 18) (rc_pI r) hy (fun a => absurd h a) (fun _ _ => ?_) (fun _ a => absurd h2 (by omega))
      rw [ri_vi]; exact ⟨rfl, q _ _ r⟩
    · rw [if_neg h2]
      obtain ⟨y, rfl⟩ : ∃ m : Nat, p = m := ⟨p.toNat, by omega⟩
      have p3 := (rc_cP r).2.2.1
      have loop := loopN (N := nM I) (P := fun j => ∀ I1, eqx lPe I I1 → (∀ p, p < 6 → perN I1 p = if p < j then ageS (perN I p) y else perN I p) → W2 n (d + 20) 76 30 [some (vr (some 16)), some (vi (y : Int)), some (vi (j : Int))] [] I1 L c (fun r I L c => ri r (fun v => C2 n (d + 20) 166 [vr (some 104), vi (y : Int)] I L c (fun r I L c => ri r (fun w => v = w ∧ Q I L c))))) ?_ ?_ 0 (Nat.zero_le _)
      · exact loop I (eqx_rf _ _) (fun p _ => by rw [if_neg (by omega)])
      · intro I1 x1 z1
        refine x_pass_30 ?_
        rw [x1 17 1 rfl, if_neg (by omega), up2_same, x1 17 3 rfl, e3, wri (by omega), ri_vi]
        have x2 : eqx (17 :: lPe) I (up2 I1 17 3 (I 104 3 + (y : Int))) := eqx_up (eqx_wk rfl x1) rfl
        generalize hI2 : up2 I1 17 3 (I 104 3 + (y : Int)) = I2 at *
        have pm : perM I2 = perM I := perM_f x2 rfl
        have nm : nM I2 = nM I := nM_e x2 rfl
        have f3 : I2 104 3 = I 104 3 := x2 104 3 rfl
        refine c_pass (d := d + 18) (pI_e x2 rfl (rc_pI r)) (by rw [f3]; exact hy) (fun a => absurd h a) (fun _ a => absurd a (by rw [f3]; omega)) (fun _ _ I3 x3 p3' m3 g3 => ?_)
        rw [pm, nm, Int.toNat_natCast] at m3
        rw [f3] at g3
        rw [ri_vi, f3]
        have x4 : eqx ([107, 108, 1003] ++ (17 :: lPe)) I I3 := eqx_tr (eqx_wk rfl x2) (eqx_wk rfl x3)
        have c17 : I3 17 = I2 17 := cell_n x3 (by decide) (by decide)
        have cp : ∀ a, 25 ≤ a → a ≤ 42 → I3 a = I1 a := fun a a1 a2 => by rw [cell_n x3 (by omega) (by simp; omega), ← hI2, up2_ne (by omega)]
        have pJ : ∀ j, j < 6 → perN I3 j = perN I1 j := fun j hj => perC_c (cp _ (by omega) (by omega)) (cp _ (by omega) (by omega)) (cp _ (by omega) (by omega))
        have f : ∀ k, k ≠ 3 → k ≠ 104 → I3 104 k = I 104 k := fun k hk _ => x4 104 k (jk_f.mpr ⟨fun _ => by decide, fun _ => by simp [lPe]; omega⟩)
        have c2 : ∀ k, k ≠ 3 → I3 17 k = I 17 k := fun k hk => by rw [c17, ← hI2, up2_at hk, x1 17 k rfl]
        refine ⟨rfl, q _ _ (RC_t x4 nn_pass.1 rfl (TW_set t0 x4 nn_pass.2 ?_ ?_ ?_ p3' ?_ ?_ ?_) (SZ_e x4 rfl (rc_SZ r)) r)⟩
        · refine ⟨?_, ?_, ?_, ?_⟩
          · rw [c2 1 (by decide), f 0 (by decide) (by decide)]; exact t0.1.1
          · rw [c2 2 (by decide), f 2 (by decide) (by decide)]; exact t0.1.2.1
          · rw [c17, ← hI2, up2_same, g3]
          · rw [c2 4 (by decide), f 10 (by decide) (by decide)]; exact t0.1.2.2.2
        · intro j hj
          have nj : nM I3 = nM I := by unfold nM; rw [f 0 (by decide) (by decide)]
          rw [nj] at hj
          rw [m3, pJ j (by omega), z1 j (by omega), if_pos hj, rc_per r hj]
          unfold allY
          rw [if_pos hj]
        · intro j hj
          have w4 : I3 (25 + 3 * j) 4 = perN I1 j 4 := by rw [← pJ j hj]; rfl
          rw [w4, z1 j hj]
          split
          · rw [age4]; exact t0.2.2.1 j hj
          · exact t0.2.2.1 j hj
        · rw [g3]; omega
        · rw [f 10 (by decide) (by decide)]; exact t0.2.2.2.2.2.1
        · rw [f 0 (by decide) (by decide)]; omega
      · intro j hj ih I1 x1 z1
        have po := pOk_now (n := n) (c := c) (show j < 6 by omega)
        refine x_pass_30 ?_
        rw [x1 17 1 rfl, if_pos (by omega), Int.toNat_natCast, Rs18 (by omega), drf_s, chkE po.1]
        simp only [wr_nat (show j < 1000000 by omega)]
        refine ⟨by omega, ?_⟩
        have pe : perC I1 (25 + 3 * j) = perN I j := by
          have := z1 j (by omega)
          rw [if_neg (by omega)] at this
          exact this
        refine x_grow po (by omega) (by rw [pe]; exact (p3 j (by omega)).1) (by omega) ?_
        intro I2 x2 z2
        rw [rv_no]
        refine ih I2 (eqx_tr x1 (pe_sub (p := j) (by omega) (eqx_wk (by simp [elm]) x2))) ?_
        intro i hi
        by_cases w : i = j
        · rw [w, if_pos (by omega)]
          show perC I2 (25 + 3 * j) = _
          rw [z2, pe]
        · have : perN I2 i = perN I1 i := perC_n x2 (by omega) (by simp; omega) (by simp; omega) (by simp; omega)
          rw [this, z1 i hi]
          by_cases v : i < j
          · rw [if_pos v, if_pos (by omega)]
          · rw [if_neg v, if_neg (by omega)]
  · have kk : C2 n (d + 20) 166 [vr (some 104), vi p] I L c (fun rr I' L' c' => ri rr (fun w => (-2 : Int) = w ∧ Q I' L' c')) := by
      refine c_pass (d := d + 18) (rc_pI r) hy (fun _ => ?_) (fun a => absurd a h) (fun a => absurd a h)
      rw [ri_vi]; exact ⟨rfl, q _ _ r⟩
    repeat' (first | (rw [ri_vi]; exact kk) | (exfalso; omega) | refine ite_i (fun _ => ?_) (fun _ => ?_))
theorem p_feed {n d : Nat} {p : Int} {I : mI} {L : mL} {c : Nat} {Q : mI → mL → Nat → Prop} (r : RC I L c) (q : ∀ I' L', RC I' L' c → Q I' L' c) : PT n (d + 20) 73 [vr (some 16), vi p] 129 [vr (some 104), vi p] I L c Q := by
  obtain ⟨r1, r2, r3, r4, r5, r6, r7, r8, r9⟩ := r
  have r : RC I L c := ⟨r1, r2, r3, r4, r5, r6, r7, r8, r9⟩
  obtain ⟨x1, x2, x3⟩ := r4
  refine x_feed (d := d + 20) ?_
  by_cases h : 0 ≤ p ∧ p ≤ 127
  · rw [if_neg (by omega), if_pos (by omega)]
    by_cases h2 : I 104 11 < 100
    · rw [if_pos (by omega)]
      refine ⟨by omega, ?_⟩
      rw [up2_same, up2_ne (show (74 : Nat) ≠ 75 by decide), x2, wri (by omega), ri_vi]
      have y1 : eqx [74, 75] I (up2 (up2 I 75 (I 104 11).toNat p) 74 1 (I 104 11 + 1)) := eqx_up (eqx_up (eqx_rf _ _) rfl) rfl
      refine c_feed (d := d + 19) (by rw [y1 104 11 rfl]; exact x1) (fun a => absurd h a) (fun _ a => absurd a (by rw [y1 104 11 rfl]; omega)) (fun _ _ => ?_)
      rw [ri_vi, y1 104 11 rfl]
      generalize hI1 : up2 (up2 I 75 (I 104 11).toNat p) 74 1 (I 104 11 + 1) = I1 at *
      have y2 : eqx [74, 75, 110, 1011] I (up2 (up2 I1 110 (I 104 11).toNat p) 104 11 (I 104 11 + 1)) := eqx_up (eqx_up (eqx_wk rfl y1) rfl) rfl
      refine ⟨rfl, q _ _ ?_⟩
      generalize hI2 : up2 (up2 I1 110 (I 104 11).toNat p) 104 11 (I 104 11 + 1) = I2 at *
      have nn : nol [74, 75, 110, 1011] lTc = true ∧ nol [74, 75, 110, 1011] lTr = true ∧ nol [74, 75, 110, 1011] lKc = true ∧ nol [74, 75, 110, 1011] lKr = true ∧ nol [74, 75, 110, 1011] lOr = true ∧ nol [74, 75, 110, 1011] lAr = true ∧ nol [74, 75, 110, 1011] lPr = true ∧ nol [74, 75, 110, 1011] lSr = true := by decide +kernel
      obtain ⟨n1, n2, n3, n4, n5, n6, n7, n8⟩ := nn
      refine ⟨TW_agr (agr_e y2 n1 n2) r1, KP_e y2 n3 n4 r2, OF_e y2 rfl n5 r3, ?_, AC_e y2 n6 r5, TP_e y2 n7 r6, ST_e y2 n8 r7, SZ_e y2 rfl r8, by rw [y2 104 26 rfl]; exact r9⟩
      have g11 : I2 104 11 = I 104 11 + 1 := by rw [← hI2, up2_same]
      refine ⟨by omega, ?_, ?_⟩
      · rw [g11, ← hI2, up2_ne (by decide), up2_ne (by decide), ← hI1, up2_same]
      · intro k hk
        rw [g11] at hk
        have c75 : I2 75 k = up2 I 75 (I 104 11).toNat p 75 k := by rw [← hI2, up2_ne (by decide), up2_ne (by decide), ← hI1, up2_ne (by decide)]
        have c110 : I2 110 k = up2 I1 110 (I 104 11).toNat p 110 k := by rw [← hI2, up2_ne (by decide)]
        rw [c75, c110]
        by_cases w : k = (I 104 11).toNat
        · rw [w, up2_same, up2_same]; exact ⟨rfl, h⟩
        · rw [up2_at w, up2_at w, y1 110 k rfl]
          exact x3 k (by omega)
    · rw [if_neg (by omega), ri_vi]
      refine c_feed (d := d + 19) x1 (fun a => absurd h a) (fun _ _ => ?_) (fun _ a => absurd a h2)
      rw [ri_vi]; exact ⟨rfl, q _ _ r⟩
  · have kk : C2 n (d + 20) 129 [vr (some 104), vi p] I L c (fun rr I' L' c' => ri rr (fun w => (-2 : Int) = w ∧ Q I' L' c')) := by
      refine c_feed (d := d + 19) x1 (fun _ => ?_) (fun a => absurd a h) (fun a => absurd a h)
      rw [ri_vi]; exact ⟨rfl, q _ _ r⟩
    repeat' (first | (rw [ri_vi]; exact kk) | (exfalso; omega) | refine ite_i (fun _ => ?_) (fun _ => ?_))
