/-! ===== the reference: what is kept and put back ===== -/
theorem eqx_back {l : List Nat} {I I2 : mI} {a k : Nat} {v : Int} (e : eqx l (up2 I a k v) I2) : eqx l I (up2 I2 a k (I a k)) := by
  intro h j q
  show (if h = a ∧ j = k then I a k else I2 h j) = I h j
  by_cases r : h = a ∧ j = k
  · rw [if_pos r, r.1, r.2]
  · rw [if_neg r, e h j q]
    show (if h = a ∧ j = k then v else I h j) = I h j
    rw [if_neg r]
def keptI (I I1 : mI) : Prop := (I1 104 28 = I 104 1 ∧ I1 104 29 = I 104 2 ∧ I1 104 30 = I 104 3) ∧ (∀ k, k < 6 → I1 120 k = I 107 k) ∧ (∀ k, k < 36 → I1 121 k = I 108 k)
abbrev lS : List Nat := [120, 121, 1028, 1029, 1030]
abbrev lT : List Nat := [119, 120, 121, 1028, 1029, 1030]
abbrev lB : List Nat := [107, 108, 119, 120, 121, 1001, 1002, 1003, 1028, 1029, 1030]
theorem c_save {n d : Nat} {I : mI} {L : mL} {c : Nat} {K : mK2} (k : ∀ I', eqx lS I I' → keptI I I' → K none I' L c) : C2 n d 167 [vr (some 104)] I L c K := by
  refine m_save ?_
  simp (disch := omega) only [up2_at, up2_same]
  have start : ∀ I1 : mI, I1 = up2 (up2 (up2 I 104 28 (I 104 1)) 104 29 (I 104 2)) 104 30 (I 104 3) → W2 n d 167 26 [some (vr (some 104)), some (vi 0)] [] I1 L c K := by
    intro I1 h1
    have x1 : eqx lS I I1 := by rw [h1]; exact eqx_up (eqx_up (eqx_up (eqx_rf _ _) rfl) rfl) rfl
    have f8 : I1 104 28 = I 104 1 := by rw [h1, up2_at (by decide), up2_at (by decide), up2_same]
    have f9 : I1 104 29 = I 104 2 := by rw [h1, up2_at (by decide), up2_same]
    have f0 : I1 104 30 = I 104 3 := by rw [h1, up2_same]
    clear h1
    have loop1 := loopN (N := 6) (P := fun j => ∀ I2, eqx lS I I2 → (I2 104 28 = I 104 1 ∧ I2 104 29 = I 104 2 ∧ I2 104 30 = I 104 3) → (∀ k, k < j → I2 120 k = I 107 k) → W2 n d 167 26 [some (vr (some 104)), some (vi (j : Int))] [] I2 L c K) ?_ ?_ 0 (Nat.zero_le _)
    · exact loop1 I1 x1 ⟨f8, f9, f0⟩ (by omega)
    · intro I2 x2 f2 g2
      refine m_save_26 ?_
      rw [if_neg (by omega)]
      have loop2 := loopN (N := 36) (P := fun j => ∀ I3, eqx lS I I3 → (I3 104 28 = I 104 1 ∧ I3 104 29 = I 104 2 ∧ I3 104 30 = I 104 3) → (∀ k, k < 6 → I3 120 k = I 107 k) → (∀ k, k < j → I3 121 k = I 108 k) → W2 n d 167 52 [some (vr (some 104)), some (vi (j : Int))] [] I3 L c K) ?_ ?_ 0 (Nat.zero_le _)
      · exact loop2 I2 x2 f2 g2 (by omega)
      · intro I3 x3 f3 g3 h3
        refine m_save_52 ?_
        rw [if_neg (by omega)]
        exact k I3 x3 ⟨f3, g3, h3⟩
      · intro j hj ih I3 x3 f3 g3 h3
        refine m_save_52 ?_
        rw [if_pos (by omega), Int.toNat_natCast, wr_nat (by omega)]
        refine ⟨by omega, by omega, ih _ (eqx_up x3 rfl) ?_ ?_ ?_⟩
        · rw [up2_ne (by decide)]; exact f3
        · rw [up2_ne (by decide)]; exact g3
        · intro i hi
          by_cases r : i = j
          · rw [r, up2_same, x3 108 _ rfl]
          · rw [up2_at r]; exact h3 i (by omega)
    · intro j hj ih I2 x2 f2 g2
      refine m_save_26 ?_
      rw [if_pos (by omega), Int.toNat_natCast, wr_nat (by omega)]
      refine ⟨by omega, by omega, ih _ (eqx_up x2 rfl) ?_ ?_⟩
      · rw [up2_ne (by decide)]; exact f2
      · intro i hi
        by_cases r : i = j
        · rw [r, up2_same, x2 107 _ rfl]
        · rw [up2_at r]; exact g2 i (by omega)
  exact start _ rfl
theorem c_putBack {n d : Nat} {I0 I : mI} {L : mL} {c : Nat} {K : mK2} (he : eqx lB I0 I) (hk : keptI I0 I) (ho : outI I0 I) (k : ∀ I', eqx lT I0 I' → K none I' L c) : C2 n d 168 [vr (some 104)] I L c K := by
  obtain ⟨⟨s8, s9, s0⟩, hk7, hk8⟩ := hk
  refine m_putBack ?_
  simp (disch := omega) only [up2_at, up2_same]
  have start : ∀ I1 : mI, I1 = up2 (up2 (up2 I 104 1 (I 104 28)) 104 2 (I 104 29)) 104 3 (I 104 30) → W2 n d 168 26 [some (vr (some 104)), some (vi 0)] [] I1 L c K := by
    intro I1 h1
    have x1 : eqx lB I0 I1 := by rw [h1]; exact eqx_up (eqx_up (eqx_up he rfl) rfl) rfl
    have f1 : I1 104 1 = I0 104 1 := by rw [h1, up2_at (by decide), up2_at (by decide), up2_same, s8]
    have f2 : I1 104 2 = I0 104 2 := by rw [h1, up2_at (by decide), up2_same, s9]
    have f3 : I1 104 3 = I0 104 3 := by rw [h1, up2_same, s0]
    have o1 : outI I0 I1 := out_tr ho (out_e (l := [1001, 1002, 1003]) (by rw [h1]; exact eqx_up (eqx_up (eqx_up (eqx_rf _ _) rfl) rfl) rfl) rfl rfl)
    have k7 : ∀ k, k < 6 → I1 120 k = I0 107 k := by intro k hh; rw [h1]; exact hk7 k hh
    have k8 : ∀ k, k < 36 → I1 121 k = I0 108 k := by intro k hh; rw [h1]; exact hk8 k hh
    clear h1
    have loop1 := loopN (N := 6) (P := fun j => ∀ I2, eqx lB I0 I2 → (I2 104 1 = I0 104 1 ∧ I2 104 2 = I0 104 2 ∧ I2 104 3 = I0 104 3) → outI I0 I2 → (∀ k, k < 6 → I2 120 k = I0 107 k) → (∀ k, k < 36 → I2 121 k = I0 108 k) → (∀ k, k < j → I2 107 k = I0 107 k) → W2 n d 168 26 [some (vr (some 104)), some (vi (j : Int))] [] I2 L c K) ?_ ?_ 0 (Nat.zero_le _)
    · exact loop1 I1 x1 ⟨f1, f2, f3⟩ o1 k7 k8 (by omega)
    · intro I2 x2 f2 o2 a2 b2 g2
      refine m_putBack_26 ?_
      rw [if_neg (by omega)]
      have loop2 := loopN (N := 36) (P := fun j => ∀ I3, eqx lB I0 I3 → (I3 104 1 = I0 104 1 ∧ I3 104 2 = I0 104 2 ∧ I3 104 3 = I0 104 3) → outI I0 I3 → (∀ k, k < 36 → I3 121 k = I0 108 k) → (∀ k, k < 6 → I3 107 k = I0 107 k) → (∀ k, k < j → I3 108 k = I0 108 k) → W2 n d 168 52 [some (vr (some 104)), some (vi (j : Int))] [] I3 L c K) ?_ ?_ 0 (Nat.zero_le _)
      · exact loop2 I2 x2 f2 o2 b2 g2 (by omega)
      · intro I3 x3 f3 o3 b3 g3 h3
        refine m_putBack_52 ?_
        rw [if_neg (by omega)]
        refine k I3 ?_
        intro h j q
        by_cases r7 : h = 107
        · rw [r7]
          by_cases s : j < 6
          · exact g3 j s
          · exact o3.1 j (by omega)
        by_cases r8 : h = 108
        · rw [r8]
          by_cases s : j < 36
          · exact h3 j s
          · exact o3.2 j (by omega)
        by_cases r4 : h = 104
        · rw [r4]
          rw [r4] at q
          by_cases s1 : j = 1
          · rw [s1]; exact f3.1
          by_cases s2 : j = 2
          · rw [s2]; exact f3.2.1
          by_cases s3 : j = 3
          · rw [s3]; exact f3.2.2
          refine x3 104 j ?_
          rw [jk_f] at q ⊢
          simp at q ⊢
          omega
        refine x3 h j ?_
        rw [jk_f] at q ⊢
        refine ⟨fun h9 hm => ?_, fun e => absurd e r4⟩
        have q1 := q.1 h9
        simp only [lB, lT, List.mem_cons, List.not_mem_nil, or_false, not_or] at hm q1
        omega
      · intro j hj ih I3 x3 f3 o3 b3 g3 h3
        refine m_putBack_52 ?_
        rw [if_pos (by omega), Int.toNat_natCast, wr_nat (by omega)]
        refine ⟨by omega, by omega, ih _ (eqx_up x3 rfl) ?_ ?_ ?_ ?_ ?_⟩
        · rw [up2_ne (by decide)]; exact f3
        · refine ⟨fun k hk => ?_, fun k hk => ?_⟩
          · rw [up2_ne (by decide)]; exact o3.1 k hk
          · rw [up2_at (by omega)]; exact o3.2 k hk
        · rw [up2_ne (by decide)]; exact b3
        · rw [up2_ne (by decide)]; exact g3
        · intro i hi
          by_cases r : i = j
          · rw [r, up2_same, b3 j hj]
          · rw [up2_at r]; exact h3 i (by omega)
    · intro j hj ih I2 x2 f2 o2 a2 b2 g2
      refine m_putBack_26 ?_
      rw [if_pos (by omega), Int.toNat_natCast, wr_nat (by omega)]
      refine ⟨by omega, by omega, ih _ (eqx_up x2 rfl) ?_ ?_ ?_ ?_ ?_⟩
      · rw [up2_ne (by decide)]; exact f2
      · refine ⟨fun k hk => ?_, fun k hk => ?_⟩
        · rw [up2_at (by omega)]; exact o2.1 k hk
        · rw [up2_ne (by decide)]; exact o2.2 k hk
      · rw [up2_ne (by decide)]; exact a2
      · rw [up2_ne (by decide)]; exact b2
      · intro i hi
        by_cases r : i = j
        · rw [r, up2_same, a2 j hj]
        · rw [up2_at r]; exact g2 i (by omega)
  exact start _ rfl
theorem perM_f {l : List Nat} {I I' : mI} (e : eqx l I I') (h : nol l lP = true) : perM I' = perM I := funext fun p => perM_e e h p
theorem kept_e {l : List Nat} {I0 I I' : mI} (e : eqx l I I') (h : nol l [104, 120, 121, 1028, 1029, 1030] = true) (k : keptI I0 I) : keptI I0 I' := by
  have n := fun k (hk : k ∈ [104, 120, 121, 1028, 1029, 1030]) => nol_e h hk
  unfold keptI
  rw [fld_e e (k := 28) (n _ (by decide)) (n _ (by decide)), fld_e e (k := 29) (n _ (by decide)) (n _ (by decide)), fld_e e (k := 30) (n _ (by decide)) (n _ (by decide)), cell_e e (h := 120) rfl (n _ (by decide)), cell_e e (h := 121) rfl (n _ (by decide))]
  exact k
theorem nM_e {l : List Nat} {I I' : mI} (e : eqx l I I') (h : nol l [104, 1000] = true) : nM I' = nM I := by
  have n := fun k (hk : k ∈ [104, 1000]) => nol_e h hk
  unfold nM
  rw [fld_e e (k := 0) (n _ (by decide)) (n _ (by decide))]
theorem sum_cg {f g : Nat → Int} : ∀ {n : Nat}, (∀ i, i < n → f i = g i) → sumS f n = sumS g n
  | 0, _ => rfl
  | n + 1, h => by unfold sumS; rw [sum_cg (fun i hi => h i (by omega)), h n (by omega)]
def onS (O : mO) (Ps : Nat → mP) (hour : Int) (n y : Nat) (what : Int) : Int :=
  if what = 0 then sumS (fun p => paysS O (ageS (Ps p) y) hour) n
  else if what < 20 then paysS O (ageS (Ps (what - 10).toNat) y) hour
  else ((bitsS (offS O (ageS (Ps (what - 20).toNat) y) hour) 6 : Nat) : Int)
theorem c_on {n d : Nat} {p t : Int} {I : mI} {L : mL} {c : Nat} {K : mK2} (hI : rI I) (hy : 0 ≤ I 104 3 ∧ I 104 3 ≤ 9999)
    (k1 : ¬ (t = 0 ∨ isP I (t - 10) ∨ isP I (t - 20)) → K (some (vi (-1))) I L c)
    (k2 : (t = 0 ∨ isP I (t - 10) ∨ isP I (t - 20)) → ¬ (0 ≤ p ∧ p ≤ 60) → K (some (vi (-2))) I L c)
    (k3 : (t = 0 ∨ isP I (t - 10) ∨ isP I (t - 20)) → 0 ≤ p ∧ p ≤ 60 → ∀ I', eqx lT I I' → K (some (vi (onS (offM I) (perM I) (I 104 2) (nM I) p.toNat t))) I' L c) : C2 n (d + 9) 169 [vr (some 104), vi p, vi t] I L c K := by
  have hn := hI.2.1
  have e0 : I 104 0 = ((nM I : Nat) : Int) := by unfold nM; omega
  unfold isP at k1 k2 k3
  refine m_on ?_
  rw [wri (x := 19 + _) (by omega), wri (x := 9 + _) (by omega)]
  by_cases q : t = 0 ∨ (0 ≤ t - 10 ∧ t - 10 < I 104 0) ∨ (0 ≤ t - 20 ∧ t - 20 < I 104 0)
  · by_cases r : 0 ≤ p ∧ p ≤ 60
    · obtain ⟨m, rfl⟩ : ∃ m : Nat, p = m := ⟨p.toNat, by omega⟩
      have kk := k3 q r
      rw [Int.toNat_natCast] at kk
      have main : C2 n (d + 8) 167 [vr (some 104)] I L c (fun r1 I2 L3 c4 => rv r1 (C2 n (d + 8) 165 [vr (some 104), vi (m : Int)] I2 L3 c4 (fun r5 I6 L7 c8 => rv r5 (if t = 0 then (C2 n (d + 8) 160 [vr (some 104)] I6 L7 c8 (fun r9 I10 L11 c12 => ri r9 (fun x13 => C2 n (d + 8) 168 [vr (some 104)] I10 L11 c12 (fun r14 I15 L16 c17 => rv r14 (K (some (vi x13)) I15 L16 c17))))) else (if t < 20 then (C2 n (d + 8) 159 [vr (some 104), vi (wr (t - 10))] I6 L7 c8 (fun r18 I19 L20 c21 => ri r18 (fun x22 => C2 n (d + 8) 168 [vr (some 104)] I19 L20 c21 (fun r23 I24 L25 c26 => rv r23 (K (some (vi x22)) I24 L25 c26))))) else (C2 n (d + 8) 157 [vr (some 104), vi (wr (t - 20))] I6 L7 c8 (fun r27 I28 L29 c30 => ri r27 (fun x31 => C2 n (d + 8) 168 [vr (some 104)] I28 L29 c30 (fun r32 I33 L34 c35 => rv r32 (K (some (vi x31)) I33 L34 c35)))))))))) := by
        refine c_save ?_
        intro I1 x1 s1
        rw [rv_no]
        have r1 := rI_e x1 rfl rfl hI
        refine c_goYears r1.2 (by rw [x1 104 3 rfl]; omega) (by omega) ?_
        intro I2 x2 o2 p2 z2 w2
        have x3 : eqx lB I I2 := eqx_tr (eqx_wk rfl x1) (eqx_wk rfl x2)
        have s2 : keptI I I2 := kept_e x2 rfl s1
        have o3 : outI I I2 := out_tr (out_e x1 rfl rfl) o2
        have r2 : rI I2 := ⟨oI_e x2 rfl r1.1, p2⟩
        rw [perM_f x1 rfl, nM_e x1 rfl] at z2
        have n2 : nM I2 = nM I := by rw [nM_e x2 rfl, nM_e x1 rfl]
        have O2 : offM I2 = offM I := by rw [offM_e x2 rfl, offM_e x1 rfl]
        have h2 : I2 104 2 = I 104 2 := by rw [x2 104 2 rfl, x1 104 2 rfl]
        rw [rv_no]
        unfold onS at kk
        by_cases t0 : t = 0
        · rw [if_pos t0]
          simp only [if_pos t0] at kk
          refine c_allPay r2 ?_
          intro I3 x4
          rw [ri_vi, n2, O2, h2, z2]
          rw [show allS (offM I) (allY (nM I) m (perM I)) (I 104 2) (nM I) = sumS (fun p => paysS (offM I) (ageS (perM I p) m) (I 104 2)) (nM I) from sum_cg (fun i hi => by unfold allY; rw [if_pos hi])]
          exact c_putBack (eqx_tr x3 (eqx_wk rfl x4)) (kept_e x4 rfl s2) (out_tr o3 (out_e x4 rfl rfl)) kk
        rw [if_neg t0]
        simp only [if_neg t0] at kk
        by_cases t1 : t < 20
        · rw [if_pos t1]
          simp only [if_pos t1] at kk
          rw [show wr (t - 10) = (((t - 10).toNat : Nat) : Int) by rw [wri (by omega)]; omega]
          refine c_pays r2 (by omega) ?_
          intro I3 x4
          rw [ri_vi, O2, h2, z2]
          rw [show allY (nM I) m (perM I) (t - 10).toNat = ageS (perM I (t - 10).toNat) m by unfold allY; rw [if_pos (by omega)]]
          exact c_putBack (eqx_tr x3 (eqx_wk rfl x4)) (kept_e x4 rfl s2) (out_tr o3 (out_e x4 rfl rfl)) kk
        rw [if_neg t1]
        simp only [if_neg t1] at kk
        rw [show wr (t - 20) = (((t - 20).toNat : Nat) : Int) by rw [wri (by omega)]; omega]
        refine c_offSet r2 (by omega) ?_
        intro I3 x4
        rw [ri_vi, O2, h2, z2]
        rw [show allY (nM I) m (perM I) (t - 20).toNat = ageS (perM I (t - 20).toNat) m by unfold allY; rw [if_pos (by omega)]]
        exact c_putBack (eqx_tr x3 (eqx_wk rfl x4)) (kept_e x4 rfl s2) (out_tr o3 (out_e x4 rfl rfl)) kk
      repeat' (first | exact main | (exfalso; omega) | refine ite_i (fun _ => ?_) (fun _ => ?_))
    · have kk := k2 q r
      repeat' (first | exact kk | (exfalso; omega) | refine ite_i (fun _ => ?_) (fun _ => ?_))
  · have kk := k1 q
    repeat' (first | exact kk | (exfalso; omega) | refine ite_i (fun _ => ?_) (fun _ => ?_))
theorem rI_hour {I : mI} {h : Int} (o : rI I) (hh : 0 ≤ h ∧ h < 24) : rI (up2 I 104 2 h) := ⟨oI_e (l := [1002]) (eqx_up (eqx_rf _ _) rfl) rfl o.1, pI_up o.2 (by omega) (by omega) (by omega) (by omega) (by omega) (fun _ => ⟨by omega, by omega, fun _ => hh⟩)⟩
theorem c_paysAt {n d : Nat} {p : Nat} {h : Int} {I : mI} {L : mL} {c : Nat} {K : mK2} (ho : rI I) (hp : p < 6) (hh : 0 ≤ h ∧ h < 24) (k : ∀ I', eqx [119] I I' → K (some (vi (paysS (offM I) (perM I p) h))) I' L c) : C2 n (d + 8) 170 [vr (some 104), vi (p : Int), vi h] I L c K := by
  have x : eqx [1002] I (up2 I 104 2 h) := eqx_up (eqx_rf _ _) rfl
  refine m_paysAt (c_pays (rI_hour ho hh) hp ?_)
  intro I1 x1
  rw [ri_vi, offM_e x rfl, perM_e x rfl, up2_same]
  exact k _ (eqx_back x1)
theorem c_seenAt {n d : Nat} {p t : Int} {I : mI} {L : mL} {c : Nat} {K : mK2} (hI : rI I)
    (k1 : ¬ isP I p → K (some (vi (-1))) I L c)
    (k2 : isP I p → ¬ (0 ≤ t ∧ t < 24) → K (some (vi (-2))) I L c)
    (k3 : isP I p → 0 ≤ t ∧ t < 24 → ∀ I', eqx [119] I I' → K (some (vi (paysS (offM I) (perM I p.toNat) t))) I' L c) : C2 n (d + 9) 171 [vr (some 104), vi p, vi t] I L c K := by
  have hn := hI.2.1
  unfold isP at k1 k2 k3
  refine m_seenAt ?_
  rw [wri (by omega)]
  by_cases q : 0 ≤ p ∧ p < I 104 0
  · obtain ⟨p, rfl⟩ : ∃ m : Nat, p = m := ⟨p.toNat, by omega⟩
    rw [if_neg (by omega), if_neg (by omega)]
    by_cases r : 0 ≤ t ∧ t < 24
    · rw [if_neg (by omega), if_neg (by omega)]
      refine c_paysAt hI (by omega) r ?_
      have kk := k3 q r
      rw [Int.toNat_natCast] at kk
      exact kk
    · have kk := k2 q r
      repeat' (first | exact kk | (exfalso; omega) | refine ite_i (fun _ => ?_) (fun _ => ?_))
  · have kk := k1 q
    repeat' (first | exact kk | (exfalso; omega) | refine ite_i (fun _ => ?_) (fun _ => ?_))
/-- the best of the first k + 1 -/
def bestS (f : Nat → Int) : Nat → Nat
  | 0 => 0
  | k + 1 => if f (k + 1) < f (bestS f k) then k + 1 else bestS f k
theorem best_le (f : Nat → Int) : ∀ k, bestS f k ≤ k
  | 0 => Nat.le_refl _
  | k + 1 => by
    have := best_le f k
    unfold bestS
    split <;> omega
theorem c_bestHour {n d : Nat} {p : Nat} {I : mI} {L : mL} {c : Nat} {K : mK2} (ho : rI I) (hp : p < 6) (k : ∀ I', eqx [119] I I' → K (some (vi ((bestS (fun h => paysS (offM I) (perM I p) h) 23 : Nat) : Int))) I' L c) : C2 n (d + 9) 172 [vr (some 104), vi (p : Int)] I L c K := by
  refine m_bestHour ?_
  have loop := loopN (N := 23) (P := fun j => ∀ I1, eqx [119] I I1 → W2 n (d + 9) 172 4 [some (vr (some 104)), some (vi (p : Int)), some (vi ((bestS (fun h => paysS (offM I) (perM I p) h) j : Nat) : Int)), some (vi ((j + 1 : Nat) : Int))] [] I1 L c K) ?_ ?_ 0 (Nat.zero_le _)
  · exact loop I (eqx_rf _ _)
  · intro I1 x1
    refine m_bestHour_4 ?_
    rw [if_neg (by omega)]
    exact k I1 x1
  · intro j hj ih I1 x1
    have bl := best_le (fun h => paysS (offM I) (perM I p) h) j
    refine m_bestHour_4 ?_
    rw [if_pos (by omega)]
    refine c_paysAt (rI_e x1 rfl rfl ho) hp (by omega) ?_
    intro I2 x2
    have x3 := eqx_tr x1 x2
    rw [ri_vi]
    refine c_paysAt (rI_e x3 rfl rfl ho) hp (by omega) ?_
    intro I3 x4
    have ih' := ih I3 (eqx_tr x3 x4)
    rw [ri_vi, offM_e x3 rfl, offM_e x1 rfl, perM_e x3 rfl, perM_e x1 rfl, wr_nat (by omega)]
    unfold bestS at ih'
    by_cases r : paysS (offM I) (perM I p) ((j + 1 : Nat) : Int) < paysS (offM I) (perM I p) ((bestS (fun h => paysS (offM I) (perM I p) h) j : Nat) : Int)
    · rw [if_pos r] at ih' ⊢; exact ih'
    · rw [if_neg r] at ih' ⊢; exact ih'
/-- the first from k on, of m, that is so -/
def fstS (g : Nat → Bool) : Nat → Nat → Int
  | _, 0 => -5
  | k, m + 1 => if g k = true then (k : Int) else fstS g (k + 1) m
def risesS (O : mO) (P : mP) (hour : Int) : Int := fstS (fun y => decide (paysS O (ageS P (y - 1)) hour < paysS O (ageS P y) hour)) 1 60
theorem c_rises {n d : Nat} {p : Nat} {I : mI} {L : mL} {c : Nat} {K : mK2} (ho : rI I) (hy : 0 ≤ I 104 3 ∧ I 104 3 ≤ 9999) (hp : p < nM I) (k : ∀ I', eqx lT I I' → K (some (vi (risesS (offM I) (perM I p) (I 104 2)))) I' L c) : C2 n (d + 8) 173 [vr (some 104), vi (p : Int)] I L c K := by
  have hn := ho.2.1
  have e0 : I 104 0 = ((nM I : Nat) : Int) := by unfold nM; omega
  refine m_rises (c_save ?_)
  intro I1 x1 s1
  rw [rv_no]
  refine c_pays (rI_e x1 rfl rfl ho) (by omega) ?_
  intro I2 x2
  rw [ri_vi, offM_e x1 rfl, perM_e x1 rfl, x1 104 2 rfl]
  have back : ∀ (v : Int) (I3 : mI), eqx lB I I3 → keptI I I3 → outI I I3 → (∀ I', eqx lT I I' → K (some (vi v)) I' L c) → C2 n (d + 7) 168 [vr (some 104)] I3 L c (fun r10 I11 L12 c13 => rv r10 (K (some (vi v)) I11 L12 c13)) := fun v I3 a b c' kk => c_putBack a b c' kk
  have loop : ∀ m y, y + m = 61 → 1 ≤ y → (∀ I', eqx lT I I' → K (some (vi (fstS (fun y => decide (paysS (offM I) (ageS (perM I p) (y - 1)) (I 104 2) < paysS (offM I) (ageS (perM I p) y) (I 104 2))) y m))) I' L c) → ∀ I3, eqx lB I I3 → keptI I I3 → outI I I3 → rI I3 → perM I3 = allY (nM I) (y - 1) (perM I) → I3 104 2 = I 104 2 → I3 104 3 = I 104 3 + ((y - 1 : Nat) : Int) → offM I3 = offM I →
      W2 n (d + 8) 173 16 [some (vr (some 104)), some (vi (p : Int)), some (vi (-5)), some (vi (paysS (offM I) (ageS (perM I p) (y - 1)) (I 104 2))), some (vi (y : Int)), none] [] I3 L c K := by
    intro m
    induction m with
    | zero =>
      intro y hy1 hy2 kk I3 a3 b3 c3 r3 z3 h3 w3 O3
      refine m_rises_16 ?_
      rw [if_neg (by omega)]
      exact back _ I3 a3 b3 c3 kk
    | succ m ih =>
      intro y hy1 hy2 kk I3 a3 b3 c3 r3 z3 h3 w3 O3
      refine m_rises_16 ?_
      rw [if_pos (by omega), if_pos (by decide)]
      refine c_goYear r3.2 (by omega) ?_
      intro I4 x4 o4 p4 z4 w4
      rw [rv_no]
      have r4 : rI I4 := ⟨oI_e x4 rfl r3.1, p4⟩
      have n3 : nM I3 = nM I := nM_e a3 rfl
      have z5 : perM I4 = allY (nM I) y (perM I) := by
        rw [z4, n3, z3, allY_1, show y - 1 + 1 = y by omega]
      refine c_pays r4 (by omega) ?_
      intro I5 x5
      have O4 : offM I4 = offM I := by rw [offM_e x4 rfl, O3]
      have h4 : I4 104 2 = I 104 2 := by rw [x4 104 2 rfl, h3]
      have xx : eqx lB I I5 := eqx_tr (eqx_tr a3 (eqx_wk rfl x4)) (eqx_wk rfl x5)
      have kp : keptI I I5 := kept_e x5 rfl (kept_e x4 rfl b3)
      have oo : outI I I5 := out_tr (out_tr c3 o4) (out_e x5 rfl rfl)
      rw [ri_vi, O4, h4, z5, show allY (nM I) y (perM I) p = ageS (perM I p) y by unfold allY; rw [if_pos hp], wr_nat (by omega)]
      unfold fstS at kk
      by_cases r : paysS (offM I) (ageS (perM I p) (y - 1)) (I 104 2) < paysS (offM I) (ageS (perM I p) y) (I 104 2)
      · rw [if_pos r]
        simp only [if_pos (decide_eq_true r)] at kk
        refine m_rises_16 ?_
        refine ite_i (fun _ => ?_) (fun _ => ?_)
        · rw [if_neg (by omega)]
          exact back _ I5 xx kp oo kk
        · exact back _ I5 xx kp oo kk
      · rw [if_neg r]
        simp only [decide_eq_false r, if_neg (show ¬ (false = true) by decide)] at kk
        refine ih (y + 1) (by omega) (by omega) kk I5 xx kp oo (rI_e x5 rfl rfl r4) (by rw [perM_f x5 rfl, z5]; rfl) (by rw [x5 104 2 rfl, h4]) (by rw [x5 104 3 rfl, w4, w3]; omega) (by rw [offM_e x5 rfl, O4])
  refine loop 60 1 rfl (by omega) k I2 (eqx_tr (eqx_wk rfl x1) (eqx_wk rfl x2)) (kept_e x2 rfl s1) (out_tr (out_e x1 rfl rfl) (out_e x2 rfl rfl)) (rI_e x2 rfl rfl (rI_e x1 rfl rfl ho)) (by rw [perM_f x2 rfl, perM_f x1 rfl]; exact (allY_0 _ _).symm) (by rw [x2 104 2 rfl, x1 104 2 rfl]) (by rw [x2 104 3 rfl, x1 104 3 rfl]; omega) (by rw [offM_e x2 rfl, offM_e x1 rfl])
theorem c_when {n d : Nat} {p t : Int} {I : mI} {L : mL} {c : Nat} {K : mK2} (ho : rI I) (hy : 0 ≤ I 104 3 ∧ I 104 3 ≤ 9999)
    (k1 : ¬ (isP I p ∧ 0 ≤ t ∧ t ≤ 1) → K (some (vi (-1))) I L c)
    (k2 : isP I p → t = 0 → ∀ I', eqx lT I I' → K (some (vi ((bestS (fun h => paysS (offM I) (perM I p.toNat) h) 23 : Nat) : Int))) I' L c)
    (k3 : isP I p → t = 1 → ∀ I', eqx lT I I' → K (some (vi (risesS (offM I) (perM I p.toNat) (I 104 2)))) I' L c) : C2 n (d + 10) 174 [vr (some 104), vi p, vi t] I L c K := by
  have hn := ho.2.1
  have e0 : I 104 0 = ((nM I : Nat) : Int) := by unfold nM; omega
  unfold isP at k1 k2 k3
  refine m_when ?_
  rw [wri (by omega)]
  by_cases q : (0 ≤ p ∧ p < I 104 0) ∧ 0 ≤ t ∧ t ≤ 1
  · obtain ⟨p, rfl⟩ : ∃ m : Nat, p = m := ⟨p.toNat, by omega⟩
    rw [Int.toNat_natCast] at k2 k3
    rw [if_neg (by omega), if_neg (by omega), if_neg (by omega), if_neg (by omega)]
    by_cases r : t = 0
    · rw [if_pos r]
      exact c_bestHour ho (by omega) (fun I' x => k2 q.1 r I' (eqx_wk rfl x))
    · rw [if_neg r]
      exact c_rises ho hy (by omega) (k3 q.1 (by omega))
  · have kk := k1 q
    repeat' (first | exact kk | (exfalso; omega) | refine ite_i (fun _ => ?_) (fun _ => ?_))
