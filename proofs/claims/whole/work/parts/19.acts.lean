/-! ===== the reference: acts, tapes ===== -/
def rnM (I : mI) (l : List Int) : Prop := I 104 74 = (l.length : Int) ∧ ∀ k, k < 20 → k < l.length → I 150 k = l.getD k 0
abbrev lR : List Nat := [150, 1074]
theorem getD_app {l : List Int} {k : Nat} (h : k < l.length) (r : List Int) : (l ++ r).getD k 0 = l.getD k 0 := by
  rw [List.getD_eq_getElem?_getD, List.getD_eq_getElem?_getD, List.getElem?_append_left h]
theorem getD_end (l : List Int) (b : Int) : (l ++ [b]).getD l.length 0 = b := by
  rw [List.getD_eq_getElem?_getD, List.getElem?_append_right (Nat.le_refl _), Nat.sub_self]
  rfl
theorem c_body {n d : Nat} {b : Int} {l : List Int} {I : mI} {L : mL} {c : Nat} {K : mK2} (hr : rnM I l) (hl : l.length ≤ 100000) (k : ∀ I', eqx lR I I' → rnM I' (l ++ [b]) → K none I' L c) : C2 n d 202 [vr (some 104), vi b] I L c K := by
  obtain ⟨h1, h2⟩ := hr
  refine m_body ?_
  by_cases q : I 104 74 < 20
  · rw [if_pos q]
    refine ⟨by omega, ?_⟩
    rw [up2_ne (show (104 : Nat) ≠ 150 by decide), h1, Int.toNat_natCast, wr_nat (by omega)]
    refine k _ (eqx_up (eqx_up (eqx_rf _ _) rfl) rfl) ⟨?_, ?_⟩
    · rw [up2_same, List.length_append]; rfl
    · intro i hi h3
      rw [List.length_append, List.length_singleton] at h3
      rw [up2_ne (show (150 : Nat) ≠ 104 by decide)]
      by_cases r : i = l.length
      · rw [r, up2_same, getD_end]
      · rw [up2_at r, getD_app (by omega)]
        exact h2 i hi (by omega)
  · rw [if_neg q, h1, wr_nat (by omega)]
    refine k _ (eqx_up (eqx_rf _ _) rfl) ⟨?_, ?_⟩
    · rw [up2_same, List.length_append]; rfl
    · intro i hi h3
      rw [up2_ne (show (150 : Nat) ≠ 104 by decide), getD_app (by omega)]
      exact h2 i hi (by omega)
def aShow (P : mP) (x : Int) : Int × List Int := if P 1 = 2 then (wr (wr (x * 3) + P 0), [30, 10]) else if P 1 = 4 then (wr (-(wr (x + P 0))), [50, 10]) else if P 1 = 5 then (wr (wr (x * 3) + P 0), [30, 10]) else if P 1 = 6 then (bxor (wr (x + P 0)) (P 2), [71, 10]) else (wr (x + P 0), [10])
def aPP (P : mP) (x : Int) : Int × List Int := (wr ((aShow P x).1 - P 2), 11 :: (aShow P x).2)
def aFP (P : mP) (x : Int) : Int × List Int := (bxor (aPP P x).1 6, 20 :: (aPP P x).2)
def aPay (P : mP) (x : Int) : Int × List Int := if P 1 = 1 then aFP P x else if P 1 = 4 then ((aFP P (wr (x + 1))).1, 51 :: (aFP P (wr (x + 1))).2) else if P 1 = 6 then (wr ((aPP P x).1 + wr (2 + P 0)), 70 :: ((aPP P x).2 ++ [10])) else aPP P x
def aPT (P : mP) (x : Int) : Int × List Int := (wr ((aPay P x).1 * 2), 12 :: (aPay P x).2)
def aTell (P : mP) (x : Int) : Int × List Int := if P 1 = 3 then (wr ((aPT P x).1 + (aPay P 1).1), 40 :: ((aPT P x).2 ++ (aPay P 1).2)) else if P 1 = 5 then ((aPT P (wr (x - P 0))).1, 60 :: (aPT P (wr (x - P 0))).2) else if P 1 = 6 then (wr ((aPT P x).1 + (aPay P 1).1), 40 :: ((aPT P x).2 ++ (aPay P 1).2)) else aPT P x
theorem aShow_len (P : mP) (x : Int) : (aShow P x).2.length ≤ 2 := by
  unfold aShow
  repeat' split
  all_goals (simp only [List.length_cons, List.length_nil]; omega)
theorem aPay_len (P : mP) (x : Int) : (aPay P x).2.length ≤ 6 := by
  have h1 := aShow_len P x
  have h2 := aShow_len P (wr (x + 1))
  unfold aPay
  repeat' split
  all_goals simp only [aFP, aPP, List.length_cons, List.length_append, List.length_nil] at *
  all_goals omega
theorem eqR_per {I I' : mI} (e : eqx lR I I') (p : Nat) : perM I' p = perM I p := perM_e e rfl p
theorem c_personShows {n d : Nat} {p : Nat} {x : Int} {l : List Int} {I : mI} {L : mL} {c : Nat} {K : mK2} (hr : rnM I l) (hl : l.length ≤ 100000) (k : ∀ I', eqx lR I I' → rnM I' (l ++ [10]) → K (some (vi (wr (x + (p : Int))))) I' L c) : C2 n (d + 1) 203 [vr (some 104), vi (p : Int), vi x] I L c K := by
  refine m_personShows (c_body hr hl ?_)
  intro I1 x1 r1
  rw [rv_no]
  exact k I1 x1 r1
theorem c_showsAct {n d : Nat} {p : Nat} {x : Int} {l : List Int} {I : mI} {L : mL} {c : Nat} {K : mK2} (hp : p < 6) (hr : rnM I l) (hl : l.length ≤ 90000) (k : ∀ I', eqx lR I I' → rnM I' (l ++ (aShow (perM I p) x).2) → K (some (vi (aShow (perM I p) x).1)) I' L c) : C2 n (d + 2) 204 [vr (some 104), vi (p : Int), vi x] I L c K := by
  refine m_showsAct ⟨by omega, ?_⟩
  rw [Int.toNat_natCast]
  unfold aShow at k
  rw [show perM I p 1 = I 105 p from rfl, show perM I p 0 = (p : Int) from rfl, show perM I p 2 = I 106 p from rfl] at k
  have two : ∀ (b y v : Int) (Q : mK2), (∀ I', eqx lR I I' → rnM I' (l ++ [b, 10]) → Q (some (vi (wr (y + (p : Int))))) I' L c) → C2 n (d + 1) 202 [vr (some 104), vi b] I L c (fun r1 I2 L3 c4 => rv r1 (C2 n (d + 1) 203 [vr (some 104), vi (p : Int), vi y] I2 L3 c4 Q)) := by
    intro b y v Q kk
    refine c_body hr (by omega) ?_
    intro I1 x1 r1
    rw [rv_no]
    refine c_personShows r1 (by rw [List.length_append, List.length_singleton]; omega) ?_
    intro I2 x2 r2
    rw [List.append_assoc] at r2
    exact kk I2 (eqx_tr x1 x2) r2
  by_cases a2 : I 105 p = 2
  · rw [if_pos a2]
    simp only [if_pos a2] at k
    refine two 30 _ 0 _ (fun I2 x2 r2 => ?_)
    rw [ri_vi]
    exact k I2 x2 r2
  rw [if_neg a2]
  simp only [if_neg a2] at k
  have one : ∀ (Q : mK2), (∀ I', eqx lR I I' → rnM I' (l ++ [10]) → Q (some (vi (wr (x + (p : Int))))) I' L c) → C2 n (d + 1) 203 [vr (some 104), vi (p : Int), vi x] I L c Q := fun Q kk => c_personShows hr (by omega) kk
  by_cases a3 : I 105 p = 3
  · rw [if_pos a3]
    simp only [if_neg (show ¬ I 105 p = 4 by omega), if_neg (show ¬ I 105 p = 5 by omega), if_neg (show ¬ I 105 p = 6 by omega)] at k
    exact one _ (fun I2 x2 r2 => by rw [ri_vi]; exact k I2 x2 r2)
  rw [if_neg a3]
  by_cases a4 : I 105 p = 4
  · rw [if_pos a4]
    simp only [if_pos a4] at k
    refine two 50 _ 0 _ (fun I2 x2 r2 => ?_)
    rw [ri_vi]
    exact k I2 x2 r2
  rw [if_neg a4]
  simp only [if_neg a4] at k
  by_cases a5 : I 105 p = 5
  · rw [if_pos a5]
    simp only [if_pos a5] at k
    refine two 30 _ 0 _ (fun I2 x2 r2 => ?_)
    rw [ri_vi]
    exact k I2 x2 r2
  rw [if_neg a5]
  simp only [if_neg a5] at k
  by_cases a6 : I 105 p = 6
  · rw [if_pos a6]
    simp only [if_pos a6] at k
    refine two 71 _ 0 _ (fun I2 x2 r2 => ?_)
    rw [ri_vi, x2 106 _ rfl]
    exact ⟨by omega, k I2 x2 r2⟩
  rw [if_neg a6]
  simp only [if_neg a6] at k
  exact one _ (fun I2 x2 r2 => by rw [ri_vi]; exact k I2 x2 r2)
theorem c_personPays {n d : Nat} {p : Nat} {x : Int} {l : List Int} {I : mI} {L : mL} {c : Nat} {K : mK2} (hp : p < 6) (hr : rnM I l) (hl : l.length ≤ 80000) (k : ∀ I', eqx lR I I' → rnM I' (l ++ (aPP (perM I p) x).2) → K (some (vi (aPP (perM I p) x).1)) I' L c) : C2 n (d + 3) 205 [vr (some 104), vi (p : Int), vi x] I L c K := by
  refine m_personPays (c_body hr (by omega) ?_)
  intro I1 x1 r1
  rw [rv_no]
  refine c_showsAct hp r1 (by rw [List.length_append, List.length_singleton]; omega) ?_
  intro I2 x2 r2
  rw [eqR_per x1, List.append_assoc] at r2
  rw [ri_vi, eqR_per x1, Int.toNat_natCast, x2 106 _ rfl, x1 106 _ rfl]
  exact ⟨by omega, k I2 (eqx_tr x1 x2) r2⟩
theorem c_fadingPays {n d : Nat} {p : Nat} {x : Int} {l : List Int} {I : mI} {L : mL} {c : Nat} {K : mK2} (hp : p < 6) (hr : rnM I l) (hl : l.length ≤ 70000) (k : ∀ I', eqx lR I I' → rnM I' (l ++ (aFP (perM I p) x).2) → K (some (vi (aFP (perM I p) x).1)) I' L c) : C2 n (d + 4) 206 [vr (some 104), vi (p : Int), vi x] I L c K := by
  refine m_fadingPays (c_body hr (by omega) ?_)
  intro I1 x1 r1
  rw [rv_no]
  refine c_personPays hp r1 (by rw [List.length_append, List.length_singleton]; omega) ?_
  intro I2 x2 r2
  rw [eqR_per x1, List.append_assoc] at r2
  rw [ri_vi, eqR_per x1]
  exact k I2 (eqx_tr x1 x2) r2
theorem c_paysAct {n d : Nat} {p : Nat} {x : Int} {l : List Int} {I : mI} {L : mL} {c : Nat} {K : mK2} (hp : p < 6) (hr : rnM I l) (hl : l.length ≤ 60000) (k : ∀ I', eqx lR I I' → rnM I' (l ++ (aPay (perM I p) x).2) → K (some (vi (aPay (perM I p) x).1)) I' L c) : C2 n (d + 5) 207 [vr (some 104), vi (p : Int), vi x] I L c K := by
  refine m_paysAct ⟨by omega, ?_⟩
  rw [Int.toNat_natCast]
  unfold aPay at k
  rw [show perM I p 1 = I 105 p from rfl, show perM I p 0 = (p : Int) from rfl] at k
  by_cases a1 : I 105 p = 1
  · rw [if_pos a1]
    simp only [if_pos a1] at k
    refine c_fadingPays hp hr (by omega) (fun I2 x2 r2 => ?_)
    rw [ri_vi]
    exact k I2 x2 r2
  rw [if_neg a1]
  simp only [if_neg a1] at k
  by_cases a4 : I 105 p = 4
  · rw [if_pos a4]
    simp only [if_pos a4] at k
    refine c_body hr (by omega) ?_
    intro I1 x1 r1
    rw [rv_no]
    refine c_fadingPays hp r1 (by rw [List.length_append, List.length_singleton]; omega) ?_
    intro I2 x2 r2
    rw [eqR_per x1, List.append_assoc] at r2
    rw [ri_vi, eqR_per x1]
    exact k I2 (eqx_tr x1 x2) r2
  rw [if_neg a4]
  simp only [if_neg a4] at k
  by_cases a6 : I 105 p = 6
  · rw [if_pos a6]
    simp only [if_pos a6] at k
    refine c_body hr (by omega) ?_
    intro I1 x1 r1
    rw [rv_no]
    refine c_personPays hp r1 (by rw [List.length_append, List.length_singleton]; omega) ?_
    intro I2 x2 r2
    rw [eqR_per x1, List.append_assoc] at r2
    rw [ri_vi, eqR_per x1]
    have hs := aShow_len (perM I p) x
    refine c_personShows r2 (by simp only [aPP, List.length_append, List.length_cons, List.length_nil]; omega) ?_
    intro I3 x3 r3
    rw [List.append_assoc] at r3
    rw [ri_vi]
    refine k I3 (eqx_tr (eqx_tr x1 x2) x3) ?_
    rw [show (70 : Int) :: ((aPP (perM I p) x).2 ++ [10]) = [70] ++ (aPP (perM I p) x).2 ++ [10] from rfl]
    exact r3
  rw [if_neg a6]
  simp only [if_neg a6] at k
  refine c_personPays hp hr (by omega) (fun I2 x2 r2 => ?_)
  rw [ri_vi]
  exact k I2 x2 r2
theorem c_personTells {n d : Nat} {p : Nat} {x : Int} {l : List Int} {I : mI} {L : mL} {c : Nat} {K : mK2} (hp : p < 6) (hr : rnM I l) (hl : l.length ≤ 50000) (k : ∀ I', eqx lR I I' → rnM I' (l ++ (aPT (perM I p) x).2) → K (some (vi (aPT (perM I p) x).1)) I' L c) : C2 n (d + 6) 208 [vr (some 104), vi (p : Int), vi x] I L c K := by
  refine m_personTells (c_body hr (by omega) ?_)
  intro I1 x1 r1
  rw [rv_no]
  refine c_paysAct hp r1 (by rw [List.length_append, List.length_singleton]; omega) ?_
  intro I2 x2 r2
  rw [eqR_per x1, List.append_assoc] at r2
  rw [ri_vi, eqR_per x1]
  exact k I2 (eqx_tr x1 x2) r2
theorem c_tellsAct {n d : Nat} {p : Nat} {x : Int} {l : List Int} {I : mI} {L : mL} {c : Nat} {K : mK2} (hp : p < 6) (hr : rnM I l) (hl : l.length ≤ 40000) (k : ∀ I', eqx lR I I' → rnM I' (l ++ (aTell (perM I p) x).2) → K (some (vi (aTell (perM I p) x).1)) I' L c) : C2 n (d + 7) 209 [vr (some 104), vi (p : Int), vi x] I L c K := by
  refine m_tellsAct ⟨by omega, ?_⟩
  rw [Int.toNat_natCast]
  unfold aTell at k
  rw [show perM I p 1 = I 105 p from rfl, show perM I p 0 = (p : Int) from rfl] at k
  have both : ∀ (Q : mK2), (∀ I', eqx lR I I' → rnM I' (l ++ 40 :: ((aPT (perM I p) x).2 ++ (aPay (perM I p) 1).2)) → Q (some (vi (wr ((aPT (perM I p) x).1 + (aPay (perM I p) 1).1)))) I' L c) → C2 n (d + 6) 202 [vr (some 104), vi 40] I L c (fun r1 I2 L3 c4 => rv r1 (C2 n (d + 6) 208 [vr (some 104), vi (p : Int), vi x] I2 L3 c4 (fun r5 I6 L7 c8 => ri r5 (fun x9 => C2 n (d + 6) 207 [vr (some 104), vi (p : Int), vi 1] I6 L7 c8 (fun r10 I11 L12 c13 => ri r10 (fun x14 => Q (some (vi (wr (x9 + x14)))) I11 L12 c13)))))) := by
    intro Q kk
    refine c_body hr (by omega) ?_
    intro I1 x1 r1
    rw [rv_no]
    refine c_personTells hp r1 (by rw [List.length_append, List.length_singleton]; omega) ?_
    intro I2 x2 r2
    rw [eqR_per x1, List.append_assoc] at r2
    rw [ri_vi, eqR_per x1]
    have hs := aPay_len (perM I p) x
    refine c_paysAct hp r2 (by simp only [aPT, List.length_append, List.length_cons, List.length_nil]; omega) ?_
    intro I3 x3 r3
    rw [eqR_per x2, eqR_per x1, List.append_assoc] at r3
    rw [ri_vi, eqR_per x2, eqR_per x1]
    exact kk I3 (eqx_tr (eqx_tr x1 x2) x3) r3
  by_cases a3 : I 105 p = 3
  · rw [if_pos a3]
    simp only [if_pos a3] at k
    exact both _ k
  rw [if_neg a3]
  simp only [if_neg a3] at k
  have one : ∀ (Q : mK2), (∀ I', eqx lR I I' → rnM I' (l ++ (aPT (perM I p) x).2) → Q (some (vi (aPT (perM I p) x).1)) I' L c) → C2 n (d + 6) 208 [vr (some 104), vi (p : Int), vi x] I L c Q := fun Q kk => c_personTells hp hr (by omega) kk
  by_cases a4 : I 105 p = 4
  · rw [if_pos a4]
    simp only [if_neg (show ¬ I 105 p = 5 by omega), if_neg (show ¬ I 105 p = 6 by omega)] at k
    exact one _ (fun I2 x2 r2 => by rw [ri_vi]; exact k I2 x2 r2)
  rw [if_neg a4]
  by_cases a5 : I 105 p = 5
  · rw [if_pos a5]
    simp only [if_pos a5] at k
    refine c_body hr (by omega) ?_
    intro I1 x1 r1
    rw [rv_no]
    refine c_personTells hp r1 (by rw [List.length_append, List.length_singleton]; omega) ?_
    intro I2 x2 r2
    rw [eqR_per x1, List.append_assoc] at r2
    rw [ri_vi, eqR_per x1]
    exact k I2 (eqx_tr x1 x2) r2
  rw [if_neg a5]
  simp only [if_neg a5] at k
  by_cases a6 : I 105 p = 6
  · rw [if_pos a6]
    simp only [if_pos a6] at k
    exact both _ k
  rw [if_neg a6]
  simp only [if_neg a6] at k
  exact one _ (fun I2 x2 r2 => by rw [ri_vi]; exact k I2 x2 r2)
def actS (P : mP) (a x : Int) : Int × List Int := if a = 0 then aShow P x else if a = 1 then aPay P x else aTell P x
theorem c_act {n d : Nat} {p a x : Int} {I : mI} {L : mL} {c : Nat} {K : mK2} (hn : 0 ≤ I 104 0 ∧ I 104 0 ≤ 6)
    (k1 : ¬ (isP I p ∧ 0 ≤ a ∧ a ≤ 2) → ∀ I', eqx lR I I' → rnM I' [] → K (some (vi 0)) I' L c)
    (k3 : isP I p ∧ 0 ≤ a ∧ a ≤ 2 → ∀ I', eqx lR I I' → rnM I' (actS (perM I p.toNat) a x).2 → K (some (vi (actS (perM I p.toNat) a x).1)) I' L c) : C2 n (d + 8) 210 [vr (some 104), vi p, vi a, vi x] I L c K := by
  unfold isP at k1 k3
  refine m_act ?_
  have x0 : eqx lR I (up2 I 104 74 0) := eqx_up (eqx_rf _ _) rfl
  have r0 : rnM (up2 I 104 74 0) [] := ⟨up2_same, fun k _ h => absurd h (Nat.not_lt_zero _)⟩
  rw [up2_at (show (0 : Nat) ≠ 74 by decide), wri (by omega)]
  by_cases q : (0 ≤ p ∧ p < I 104 0) ∧ 0 ≤ a ∧ a ≤ 2
  · obtain ⟨p, rfl⟩ : ∃ m : Nat, p = m := ⟨p.toNat, by omega⟩
    rw [if_neg (by omega), if_neg (by omega), if_neg (by omega), if_neg (by omega)]
    have kk := k3 q
    rw [Int.toNat_natCast] at kk
    unfold actS at kk
    have hp : p < 6 := by omega
    by_cases a0 : a = 0
    · rw [if_pos a0]
      simp only [if_pos a0] at kk
      refine c_showsAct hp r0 (by decide) (fun I2 x2 r2 => ?_)
      rw [eqR_per x0, List.nil_append] at r2
      rw [ri_vi, eqR_per x0]
      exact kk I2 (eqx_tr x0 x2) r2
    rw [if_neg a0]
    simp only [if_neg a0] at kk
    by_cases a1 : a = 1
    · rw [if_pos a1]
      simp only [if_pos a1] at kk
      refine c_paysAct hp r0 (by decide) (fun I2 x2 r2 => ?_)
      rw [eqR_per x0, List.nil_append] at r2
      rw [ri_vi, eqR_per x0]
      exact kk I2 (eqx_tr x0 x2) r2
    rw [if_neg a1]
    simp only [if_neg a1] at kk
    refine c_tellsAct hp r0 (by decide) (fun I2 x2 r2 => ?_)
    rw [eqR_per x0, List.nil_append] at r2
    rw [ri_vi, eqR_per x0]
    exact kk I2 (eqx_tr x0 x2) r2
  · have kk := k1 q _ x0 r0
    repeat' (first | exact kk | (exfalso; omega) | refine ite_i (fun _ => ?_) (fun _ => ?_))
