/-! ===== the class: a person's own cells change; rows; those who are older ===== -/
theorem jk_m {l : List Nat} {a k : Nat} (h1 : a < 1000) (h2 : a ∈ l) : jk l a k = true := by
  cases h : jk l a k with
  | true => rfl
  | false => exact absurd h2 ((jk_f.mp h).1 h1)
theorem jk_no {l : List Nat} {a k : Nat} (h1 : a ≠ 104) (h2 : a ∉ l) : jk l a k = false := jk_f.mpr ⟨fun _ => h2, fun e => absurd e h1⟩
theorem cell_n {l : List Nat} {I I' : mI} (e : eqx l I I') {a : Nat} (h1 : a ≠ 104) (h2 : a ∉ l) : I' a = I a := funext fun k => e a k (jk_no h1 h2)
theorem perC_c {I I' : mI} {p : Nat} (e0 : I' p = I p) (e1 : I' (p + 1) = I (p + 1)) (e2 : I' (p + 2) = I (p + 2)) : perC I' p = perC I p := by
  funext i
  unfold perC
  rw [e0, e1, e2]
theorem perC_n {l : List Nat} {I I' : mI} (e : eqx l I I') {p : Nat} (h1 : p < 102) (h2 : p ∉ l) (h3 : p + 1 ∉ l) (h4 : p + 2 ∉ l) : perC I' p = perC I p := perC_c (cell_n e (by omega) h2) (cell_n e (by omega) h3) (cell_n e (by omega) h4)
theorem perC_f (I : mI) (p i : Nat) (x : Int) (hi : i < 5) : perC (up2 I p i x) p = setP (perC I p) i x := by
  have e1 : up2 I p i x (p + 1) = I (p + 1) := up2_ne (by omega)
  have e2 : up2 I p i x (p + 2) = I (p + 2) := up2_ne (by omega)
  funext j
  show perC (up2 I p i x) p j = if j = i then x else perC I p j
  by_cases q : j = i
  · subst q
    rw [if_pos rfl]
    rcases j with _ | _ | _ | _ | _ | j
    · exact up2_same
    · exact up2_same
    · exact up2_same
    · exact up2_same
    · exact up2_same
    · omega
  · rw [if_neg q]
    rcases j with _ | _ | _ | _ | _ | j
    · exact up2_at q
    · exact up2_at q
    · exact up2_at q
    · exact up2_at q
    · exact up2_at q
    · unfold perC
      rw [e1, e2]
theorem perC_g (I : mI) (p t : Nat) (x : Int) (ht : t < 6) : perC (up2 I (p + 1) t x) p = setP (perC I p) (5 + t) x := by
  have e0 : up2 I (p + 1) t x p = I p := up2_ne (by omega)
  have e2 : up2 I (p + 1) t x (p + 2) = I (p + 2) := up2_ne (by omega)
  funext j
  show perC (up2 I (p + 1) t x) p j = if j = 5 + t then x else perC I p j
  rcases j with _ | _ | _ | _ | _ | j
  · rw [if_neg (by omega)]; show up2 I (p + 1) t x p 0 = I p 0; rw [e0]
  · rw [if_neg (by omega)]; show up2 I (p + 1) t x p 1 = I p 1; rw [e0]
  · rw [if_neg (by omega)]; show up2 I (p + 1) t x p 2 = I p 2; rw [e0]
  · rw [if_neg (by omega)]; show up2 I (p + 1) t x p 3 = I p 3; rw [e0]
  · rw [if_neg (by omega)]; show up2 I (p + 1) t x p 4 = I p 4; rw [e0]
  · show (if j < 6 then up2 I (p + 1) t x (p + 1) j else if j < 10 then up2 I (p + 1) t x (p + 2) (j - 6) else 0) = if j + 5 = 5 + t then x else (if j < 6 then I (p + 1) j else if j < 10 then I (p + 2) (j - 6) else 0)
    rw [e2]
    by_cases q : j = t
    · subst q
      rw [if_pos ht, if_pos (by omega), up2_same]
    · rw [up2_at q, if_neg (show ¬ (j + 5 = 5 + t) by omega)]
theorem perC_r (I : mI) (p t : Nat) (x : Int) (ht : t < 4) : perC (up2 I (p + 2) t x) p = setP (perC I p) (11 + t) x := by
  have e0 : up2 I (p + 2) t x p = I p := up2_ne (by omega)
  have e1 : up2 I (p + 2) t x (p + 1) = I (p + 1) := up2_ne (by omega)
  funext j
  show perC (up2 I (p + 2) t x) p j = if j = 11 + t then x else perC I p j
  rcases j with _ | _ | _ | _ | _ | j
  · rw [if_neg (by omega)]; show up2 I (p + 2) t x p 0 = I p 0; rw [e0]
  · rw [if_neg (by omega)]; show up2 I (p + 2) t x p 1 = I p 1; rw [e0]
  · rw [if_neg (by omega)]; show up2 I (p + 2) t x p 2 = I p 2; rw [e0]
  · rw [if_neg (by omega)]; show up2 I (p + 2) t x p 3 = I p 3; rw [e0]
  · rw [if_neg (by omega)]; show up2 I (p + 2) t x p 4 = I p 4; rw [e0]
  · show (if j < 6 then up2 I (p + 2) t x (p + 1) j else if j < 10 then up2 I (p + 2) t x (p + 2) (j - 6) else 0) = if j + 5 = 11 + t then x else (if j < 6 then I (p + 1) j else if j < 10 then I (p + 2) (j - 6) else 0)
    rw [e1]
    by_cases q : j < 6
    · rw [if_pos q, if_pos q, if_neg (by omega)]
    · rw [if_neg q, if_neg q]
      by_cases r : j < 10
      · rw [if_pos r, if_pos r]
        by_cases s : j - 6 = t
        · rw [s, up2_same, if_pos (by omega)]
        · rw [up2_at s, if_neg (by omega)]
      · rw [if_neg r, if_neg r, if_neg (by omega)]
theorem okP_year {Q : mP} (h : okP Q) : okP (yearS Q) := by
  obtain ⟨h0, h1, h2, h3, h4, h5⟩ := h
  have set3 : okP Q → 0 ≤ Q 3 + 1 ∧ Q 3 + 1 ≤ 99 → okP (setP Q 3 (Q 3 + 1)) := by
    intro h hb
    refine ⟨h0, h1, h2, hb, h4, fun i hi => ?_⟩
    show 0 ≤ (if i = 3 then Q 3 + 1 else Q i) ∧ (if i = 3 then Q 3 + 1 else Q i) ≤ 9
    rw [if_neg (by omega)]
    exact h5 i hi
  unfold yearS
  by_cases q : Q 3 = 99
  · rw [if_pos q]; exact ⟨h0, h1, h2, h3, h4, h5⟩
  · rw [if_neg q]
    have s := set3 ⟨h0, h1, h2, h3, h4, h5⟩ (by omega)
    by_cases r : Q 3 + 1 = 40
    · rw [if_pos r]
      obtain ⟨s0, s1, s2, s3, s4, s5⟩ := s
      have ne : ∀ i, i < 5 → setP (setP Q 3 (Q 3 + 1)) (5 + (Q 2 % 6).toNat) 0 i = setP Q 3 (Q 3 + 1) i := fun i hi => if_neg (by omega)
      refine ⟨?_, ?_, ?_, ?_, ?_, fun i hi => ?_⟩
      · rw [ne 0 (by decide)]; exact s0
      · rw [ne 1 (by decide)]; exact s1
      · rw [ne 2 (by decide)]; exact s2
      · rw [ne 3 (by decide)]; exact s3
      · rw [ne 4 (by decide)]; exact s4
      · show 0 ≤ (if i = 5 + (Q 2 % 6).toNat then 0 else setP Q 3 (Q 3 + 1) i) ∧ (if i = 5 + (Q 2 % 6).toNat then 0 else setP Q 3 (Q 3 + 1) i) ≤ 9
        exact ite_bd (fun _ => by omega) (fun _ => s5 i hi)
    · rw [if_neg r]; exact s
theorem okP_age {Q : mP} (h : okP Q) : ∀ y, okP (ageS Q y)
  | 0 => h
  | y + 1 => okP_year (okP_age h y)
theorem age_99 {Q : mP} {y : Nat} (h : ageS Q y 3 = 99) : ∀ m, ageS Q (y + m) = ageS Q y
  | 0 => rfl
  | m + 1 => by
    show yearS (ageS Q (y + m)) = ageS Q y
    rw [age_99 h m]
    unfold yearS
    rw [if_pos h]
theorem x_grow {n d h y : Nat} {I : mI} {L : mL} {c : Nat} {K : mK2} (hp : pOk n c h) (hh : h < 990) (hP : okP (perC I h)) (hy : y ≤ 1000) (k : ∀ I', eqx [h, h + 1] I I' → perC I' h = ageS (perC I h) y → K none I' L c) : C2 n d 42 [vr (some h), vi (y : Int)] I L c K := by
  obtain ⟨e1, e2, e3, e4, e5, e6, e7⟩ := hp
  refine Pe_growOlder ?_
  have loop := loopN (N := y) (P := fun j => ∀ I1, eqx [h, h + 1] I I1 → perC I1 h = ageS (perC I h) j → W2 n d 42 2 [some (vr (some h)), some (vi (y : Int)), some (vi (j : Int))] [] I1 L c K) ?_ ?_ 0 (Nat.zero_le _)
  · exact loop I (eqx_rf _ _) rfl
  · intro I1 x1 z1
    refine Pe_growOlder_2 ?_
    rw [if_neg (by omega)]
    exact k I1 x1 z1
  · intro j hj ih I1 x1 z1
    have o1 := okP_age hP j
    rw [← z1] at o1
    have b3 : 0 ≤ I1 h 3 ∧ I1 h 3 ≤ 99 := o1.2.2.2.1
    have b2 : 0 ≤ I1 h 2 ∧ I1 h 2 ≤ 9 := o1.2.2.1
    have f3 : perC I1 h 3 = I1 h 3 := rfl
    have f2 : perC I1 h 2 = I1 h 2 := rfl
    refine Pe_growOlder_2 ?_
    simp only [chkE e1, e2, drf_s, chkE e4, e6, wr_nat (show j < 1000000 by omega), up2_same]
    rw [if_pos (by omega)]
    by_cases q : I1 h 3 < 99
    · rw [if_pos q, wri (x := I1 h 3 + 1) (by omega)]
      have ey : ageS (perC I h) (j + 1) = (if I1 h 3 + 1 = 40 then setP (setP (perC I1 h) 3 (I1 h 3 + 1)) (5 + (I1 h 2 % 6).toNat) 0 else setP (perC I1 h) 3 (I1 h 3 + 1)) := by
        show yearS (ageS (perC I h) j) = _
        rw [← z1]
        unfold yearS
        rw [f3, f2, if_neg (by omega)]
      have x2 : eqx [h, h + 1] I (up2 I1 h 3 (I1 h 3 + 1)) := eqx_up x1 (jk_m (by omega) (by simp))
      have e32 : up2 I1 h 3 (I1 h 3 + 1) h 2 = I1 h 2 := up2_at (by decide)
      rw [e32]
      by_cases r : I1 h 3 + 1 = 40
      · rw [if_pos r, if_neg (by omega), tmod_nn b2.1]
        refine ⟨by omega, ?_⟩
        refine ih _ (eqx_up x2 (jk_m (by omega) (by simp))) ?_
        rw [perC_g _ _ _ _ (by omega), perC_f _ _ _ _ (by decide), ey, if_pos r]
      · rw [if_neg r]
        refine ih _ x2 ?_
        rw [perC_f _ _ _ _ (by decide), ey, if_neg r]
    · rw [if_neg q]
      refine k I1 x1 ?_
      have h99 : ageS (perC I h) j 3 = 99 := by rw [← z1, f3]; omega
      rw [z1, ← age_99 h99 (y - j), show j + (y - j) = y by omega]
theorem b01_i {x : Int} {A : Prop} (h : 0 ≤ x ∧ x ≤ 1) (a : A) : b01W x A := by
  unfold b01W
  by_cases q : x = 0
  · rw [if_pos q]; exact a
  · rw [if_neg q, if_pos (by omega)]; exact a
theorem cpy_in {f : mI} {a b m k : Nat} (h : k < m) : cpy2 f a 0 b 0 m b k = f a k := by
  unfold cpy2
  rw [if_pos ⟨rfl, Nat.zero_le _, by omega⟩]
  congr 1
  omega
theorem cpy_ne {f : mI} {a b m x : Nat} (h : x ≠ b) : cpy2 f a 0 b 0 m x = f x := by
  funext q
  unfold cpy2
  rw [if_neg (fun e => h e.1)]
theorem eqx_cpy {l : List Nat} {I I' : mI} {a b m : Nat} (h : eqx l I I') (hb : ∀ k, jk l b k = true) : eqx l I (cpy2 I' a 0 b 0 m) := by
  intro x j q
  rw [← h x j q]
  by_cases e : x = b
  · rw [e, hb j] at q; cases q
  · rw [cpy_ne e]
theorem x_copyP {n d h p : Nat} {I : mI} {L : mL} {c : Nat} {K : mK2} (h1 : pOk n c h) (h2 : pOk n c p) (hh : h < 990) (hne : h + 3 ≤ p ∨ p + 3 ≤ h) (hg : 0 ≤ I p 4 ∧ I p 4 ≤ 1) (k : ∀ I', eqx [h, h + 1, h + 2] I I' → perC I' h = perC I p → K none I' L c) : C2 n d 41 [vr (some h), vr (some p)] I L c K := by
  obtain ⟨e1, e2, e3, e4, e5, e6, e7⟩ := h1
  obtain ⟨f1, f2, f3, f4, f5, f6, f7⟩ := h2
  have nn : p ≠ h := by omega
  refine Pe_copyFrom ?_
  simp only [chkE e1, chkE f1, e2, e3, f2, f3, drf_s, e4, e5, f4, f5, e6, e7, f6, f7, Nat.beq_refl, up2_ne nn, Bool.and_true]
  refine b01_i hg ?_
  refine ⟨by omega, ?_⟩
  show chk true _
  refine chk_i rfl ?_
  refine ⟨by omega, ?_⟩
  refine chk_i rfl ?_
  refine k _ ?_ ?_
  · refine eqx_cpy (eqx_cpy (eqx_up (eqx_up (eqx_up (eqx_up (eqx_up (eqx_rf _ _) ?_) ?_) ?_) ?_) ?_) ?_) ?_
    all_goals first | exact jk_m (by omega) (by simp) | exact fun k => jk_m (by omega) (by simp)
  · generalize hI1 : up2 (up2 (up2 (up2 (up2 I h 0 (I p 0)) h 1 (I p 1)) h 2 (I p 2)) h 3 (I p 3)) h 4 (I p 4) = I1
    have a1 : I1 (p + 1) = I (p + 1) := by rw [← hI1]; simp only [up2_ne (show p + 1 ≠ h by omega)]
    have a2 : I1 (p + 2) = I (p + 2) := by rw [← hI1]; simp only [up2_ne (show p + 2 ≠ h by omega)]
    have c0 : cpy2 (cpy2 I1 (p + 1) 0 (h + 1) 0 6) (p + 2) 0 (h + 2) 0 4 h = I1 h := by rw [cpy_ne (by omega), cpy_ne (by omega)]
    funext i
    rcases i with _ | _ | _ | _ | _ | i
    · show cpy2 (cpy2 I1 (p + 1) 0 (h + 1) 0 6) (p + 2) 0 (h + 2) 0 4 h 0 = I p 0
      rw [c0, ← hI1]; simp [up2]
    · show cpy2 (cpy2 I1 (p + 1) 0 (h + 1) 0 6) (p + 2) 0 (h + 2) 0 4 h 1 = I p 1
      rw [c0, ← hI1]; simp [up2]
    · show cpy2 (cpy2 I1 (p + 1) 0 (h + 1) 0 6) (p + 2) 0 (h + 2) 0 4 h 2 = I p 2
      rw [c0, ← hI1]; simp [up2]
    · show cpy2 (cpy2 I1 (p + 1) 0 (h + 1) 0 6) (p + 2) 0 (h + 2) 0 4 h 3 = I p 3
      rw [c0, ← hI1]; simp [up2]
    · show cpy2 (cpy2 I1 (p + 1) 0 (h + 1) 0 6) (p + 2) 0 (h + 2) 0 4 h 4 = I p 4
      rw [c0, ← hI1]; simp [up2]
    · show (if i < 6 then cpy2 (cpy2 I1 (p + 1) 0 (h + 1) 0 6) (p + 2) 0 (h + 2) 0 4 (h + 1) i else if i < 10 then cpy2 (cpy2 I1 (p + 1) 0 (h + 1) 0 6) (p + 2) 0 (h + 2) 0 4 (h + 2) (i - 6) else 0) = (if i < 6 then I (p + 1) i else if i < 10 then I (p + 2) (i - 6) else 0)
      by_cases q : i < 6
      · rw [if_pos q, if_pos q, cpy_ne (by omega), cpy_in q, a1]
      · rw [if_neg q, if_neg q]
        by_cases r : i < 10
        · rw [if_pos r, if_pos r, cpy_in (by omega), cpy_ne (by omega), a2]
        · rw [if_neg r, if_neg r]
theorem x_fill {n d a : Nat} {v : Int} {I : mI} {L : mL} {c : Nat} {K : mK2} (h1 : TY a = 100) (h2 : a < 1000) (h3 : LN n a ≤ 1000) (k : ∀ I', eqx [a] I I' → (∀ i, i < LN n a → I' a i = v) → K none I' L c) : C2 n d 227 [vr (some a), vi v] I L c K := by
  refine j_fill_227 ?_
  refine chk_i (by rw [h1]; rfl) ?_
  have loop := loopN (N := LN n a) (P := fun j => ∀ I1, eqx [a] I I1 → (∀ i, i < j → I1 a i = v) → W2 n d 227 5 [some (vr (some a)), some (vi v), some (vi (j : Int)), some (vi ((LN n a : Nat) : Int))] [] I1 L c K) ?_ ?_ 0 (Nat.zero_le _)
  · exact loop I (eqx_rf _ _) (fun i hi => absurd hi (Nat.not_lt_zero _))
  · intro I1 x1 z1
    refine j_fill_227_5 ?_
    rw [if_neg (by omega)]
    exact k I1 x1 z1
  · intro j hj ih I1 x1 z1
    refine j_fill_227_5 ?_
    rw [if_pos (by omega), chkE h1, Int.toNat_natCast, wr_nat (by omega)]
    refine ⟨by omega, ih _ (eqx_up x1 (jk_m h2 (by simp))) ?_⟩
    intro i hi
    by_cases r : i = j
    · rw [r, up2_same]
    · rw [up2_at r]; exact z1 i (by omega)
theorem x_begin {n d h : Nat} {num kind v age : Int} {I : mI} {L : mL} {c : Nat} {K : mK2} (h1 : pOk n c h) (hh : h < 990) (k : ∀ I', eqx [h, h + 1, h + 2] I I' → perC I' h = newP num kind v age → K none I' L c) : C2 n (d + 1) 40 [vr (some h), vi num, vi kind, vi v, vi age] I L c K := by
  obtain ⟨e1, e2, e3, e4, e5, e6, e7⟩ := h1
  refine Pe_begin ?_
  simp only [chkE e1, e2, e3]
  generalize hI1 : up2 (up2 (up2 (up2 (up2 I h 0 num) h 1 kind) h 2 v) h 3 age) h 4 0 = I1
  have x0 : eqx [h, h + 1, h + 2] I I1 := by
    rw [← hI1]
    refine eqx_up (eqx_up (eqx_up (eqx_up (eqx_up (eqx_rf _ _) ?_) ?_) ?_) ?_) ?_
    all_goals exact jk_m (by omega) (by simp)
  refine x_fill (n := n) e4 (by omega) (by rw [e6]; decide) ?_
  intro I2 x2 z2
  rw [e6] at z2
  rw [rv_no, e3]
  refine x_fill (n := n) e5 (by omega) (by rw [e7]; decide) ?_
  intro I3 x3 z3
  rw [e7] at z3
  rw [rv_no]
  have sub : ∀ {J J' : mI} {a : Nat}, eqx [a] J J' → a < 1000 → a ∈ [h, h + 1, h + 2] → eqx [h, h + 1, h + 2] J J' := by
    intro J J' a e ha hm x j q
    refine e x j ?_
    rw [jk_f] at q ⊢
    refine ⟨fun h9 hx => ?_, fun e4 hx => ?_⟩
    · rw [List.mem_singleton] at hx
      subst hx
      exact q.1 h9 hm
    · rw [List.mem_singleton] at hx
      omega
  refine k I3 (eqx_tr (eqx_tr x0 (sub x2 (by omega) (by simp))) (sub x3 (by omega) (by simp))) ?_
  have c0 : I3 h = I1 h := by rw [cell_n x3 (by intro e; subst e; exact absurd e1 (by decide)) (by simp), cell_n x2 (by intro e; subst e; exact absurd e1 (by decide)) (by simp)]
  funext i
  rcases i with _ | _ | _ | _ | _ | i
  · show I3 h 0 = num
    rw [c0, ← hI1]; simp [up2]
  · show I3 h 1 = kind
    rw [c0, ← hI1]; simp [up2]
  · show I3 h 2 = v
    rw [c0, ← hI1]; simp [up2]
  · show I3 h 3 = age
    rw [c0, ← hI1]; simp [up2]
  · show I3 h 4 = 0
    rw [c0, ← hI1]; simp [up2]
  · show (if i < 6 then I3 (h + 1) i else if i < 10 then I3 (h + 2) (i - 6) else 0) = (if i < 6 then v else 0)
    by_cases q : i < 6
    · rw [if_pos q, if_pos q, cell_n x3 (by intro e; rw [e] at e4; exact absurd e4 (by decide)) (by simp)]
      exact z2 i q
    · rw [if_neg q, if_neg q]
      by_cases r : i < 10
      · rw [if_pos r]
        exact z3 (i - 6) (by omega)
      · rw [if_neg r]
