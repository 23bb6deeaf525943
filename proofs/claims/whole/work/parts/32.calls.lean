/-! ===== the same call of both: those that change nothing ===== -/
abbrev lAll : List Nat := lTc ++ lTr ++ lRest
theorem sc_119 : nol [119] lAll = true := by decide +kernel
theorem sc_T : nol lT lAll = true := by decide +kernel
theorem sc_A : nol lA lAll = true := by decide +kernel
theorem sc_87 : nol [87] lAll = true := by decide +kernel
theorem sc_g : nol gI3 lAll = true := by decide +kernel
theorem rc_119 {I J : mI} {L : mL} {c : Nat} (r : RC I L c) (e : eqx [119] I J) : RC J L c := RC_s e sc_119 rfl r
theorem rc_T {I J : mI} {L : mL} {c : Nat} (r : RC I L c) (e : eqx lT I J) : RC J L c := RC_s e sc_T rfl r
theorem rc_A {I J : mI} {L : mL} {c : Nat} (r : RC I L c) (e : eqx lA I J) : RC J L c := RC_s e sc_A rfl r
theorem rc_87 {I J : mI} {L : mL} {c : Nat} (r : RC I L c) (e : eqx [87] I J) : RC J L c := RC_s e sc_87 rfl r
theorem rc_g {I J : mI} {L : mL} {c : Nat} (r : RC I L c) (e : eqx gI3 I J) : RC J L c := RC_s e sc_g rfl r
/-- what the scratch leaves of the words -/
theorem keep {l : List Nat} {I J : mI} (e : eqx l I J) (h : nol l lAll = true) : offM J = offM I ∧ perM J = perM I ∧ J 104 0 = I 104 0 ∧ J 104 2 = I 104 2 ∧ J 104 3 = I 104 3 ∧ nM J = nM I := by
  have s0 := nol_sub h (js := lO) (by decide)
  have s1 := nol_sub h (js := lP) (by decide)
  have s2 := nol_sub h (js := [104, 1000]) (by decide)
  refine ⟨offM_e e s0, perM_f e s1, ?_, ?_, ?_, nM_e e s2⟩
  · exact fld_e e (nol_e h (by decide)) (nol_e h (by decide))
  · exact fld_e e (nol_e h (by decide)) (nol_e h (by decide))
  · exact fld_e e (nol_e h (by decide)) (nol_e h (by decide))
theorem rc_17 {I : mI} {L : mL} {c : Nat} (r : RC I L c) : I 17 1 = I 104 0 ∧ I 17 2 = I 104 2 ∧ I 17 3 = I 104 3 := ⟨r.1.1.1, r.1.1.2.1, r.1.1.2.2.1⟩
theorem p_of {n d : Nat} {p t : Int} {I : mI} {L : mL} {c : Nat} {Q : mI → mL → Nat → Prop} (r : RC I L c) (ht : rg t) (q : ∀ I' L', RC I' L' c → Q I' L' c) : PT n (d + 20) 68 [vr (some 16), vi p, vi t] 162 [vr (some 104), vi p, vi t] I L c Q := by
  obtain ⟨e1, e2, e3⟩ := rc_17 r
  refine x_of' (d := d + 14) (rc_cO r) (rc_cP r) ht ?_
  rw [ri_vi]
  refine c_of (d := d + 12) (rc_rI r) ?_
  intro I1 x1
  rw [ri_vi]
  refine ⟨?_, q _ _ (rc_119 r x1)⟩
  rw [(rc_o r).2, e1, e2]
  by_cases h : 0 ≤ p ∧ p < I 104 0
  · rw [if_pos h, if_pos h, rc_perP r h]
  · rw [if_neg h, if_neg h]
theorem all_cg {O : mO} {Ps Qs : Nat → mP} {hour : Int} {m : Nat} (h : ∀ p, p < m → Ps p = Qs p) : allS O Ps hour m = allS O Qs hour m := sum_cg (fun i hi => by rw [h i hi])
theorem p_told {n d : Nat} {t : Int} {I : mI} {L : mL} {c : Nat} {Q : mI → mL → Nat → Prop} (r : RC I L c) (q : ∀ I' L', RC I' L' c → Q I' L' c) : PT n (d + 20) 75 [vr (some 16), vi t] 163 [vr (some 104), vi t] I L c Q := by
  obtain ⟨e1, e2, e3⟩ := rc_17 r
  have hn := rc_n r
  refine x_told' (d := d + 13) (rc_cO r) (rc_cP r) ?_
  rw [ri_vi]
  refine c_told (d := d + 11) (rc_rI r) ?_
  intro I1 x1
  rw [ri_vi]
  refine ⟨?_, q _ _ (rc_119 r x1)⟩
  unfold toldS
  rw [(rc_o r).2, e2, e3, hn.1, all_cg (fun p hp => rc_per r hp)]
theorem isC_of {I : mI} {L : mL} {c : Nat} (r : RC I L c) {p : Int} (h : isC I p) : isP I p := (rc_is r p).mp h
theorem p_on {n d : Nat} {y t : Int} {I : mI} {L : mL} {c : Nat} {Q : mI → mL → Nat → Prop} (r : RC I L c) (ht : rg t) (q : ∀ I' L', RC I' L' c → Q I' L' c) : PT n (d + 20) 77 [vr (some 16), vi y, vi t] 169 [vr (some 104), vi y, vi t] I L c Q := by
  obtain ⟨e1, e2, e3⟩ := rc_17 r
  have hn := rc_n r
  have hy := r.1.2.2.2.2.1
  refine x_on' (d := d + 14) (rc_cO r) (rc_cP r) ht ?_ ?_ ?_
  · intro h
    rw [rc_is r, rc_is r] at h
    rw [ri_vi]
    refine c_on (d := d + 11) (rc_rI r) hy (fun _ => ?_) (fun a => absurd a h) (fun a => absurd a h)
    rw [ri_vi]
    exact ⟨rfl, q _ _ r⟩
  · intro h h2
    rw [rc_is r, rc_is r] at h
    rw [ri_vi]
    refine c_on (d := d + 11) (rc_rI r) hy (fun a => absurd h a) (fun _ _ => ?_) (fun _ a => absurd a h2)
    rw [ri_vi]
    exact ⟨rfl, q _ _ r⟩
  · intro h h2 I1 x1
    rw [rc_is r, rc_is r] at h
    have r1 := rc_g r x1
    obtain ⟨k1, k2, k3, k4, k5, k6⟩ := keep x1 sc_g
    have hp1 : ∀ p, isP I1 p ↔ isP I p := fun p => by unfold isP; rw [k3]
    rw [ri_vi]
    refine c_on (d := d + 11) (rc_rI r1) (by rw [k5]; exact hy) (fun a => absurd (by rw [hp1, hp1]; exact h) a) (fun _ a => absurd h2 a) (fun _ _ => ?_)
    intro I2 x2
    rw [ri_vi]
    refine ⟨?_, q _ _ (rc_T r1 x2)⟩
    rw [(rc_o r).2, e2, hn.1, k1, k2, k4, k6]
    unfold onS
    rcases h with h | h | h
    · rw [if_pos h, if_pos h]
      exact sum_cg (fun i hi => by rw [rc_per r hi])
    · have := hn.2.1
      have h' := h
      unfold isP at h
      have t0 : ¬ t = 0 := by omega
      have t1 : t < 20 := by omega
      simp only [if_neg t0, if_pos t1]
      rw [rc_perP r h']
    · have := hn.2.1
      have h' := h
      unfold isP at h
      have t0 : ¬ t = 0 := by omega
      have t1 : ¬ t < 20 := by omega
      simp only [if_neg t0, if_neg t1]
      rw [rc_perP r h']
theorem p_seenAt {n d : Nat} {p t : Int} {I : mI} {L : mL} {c : Nat} {Q : mI → mL → Nat → Prop} (r : RC I L c) (q : ∀ I' L', RC I' L' c → Q I' L' c) : PT n (d + 20) 78 [vr (some 16), vi p, vi t] 171 [vr (some 104), vi p, vi t] I L c Q := by
  refine x_seenAt' (d := d + 14) (rc_cO r) (rc_cP r) ?_ ?_ ?_
  · intro h
    rw [rc_is r] at h
    rw [ri_vi]
    refine c_seenAt (d := d + 11) (rc_rI r) (fun _ => ?_) (fun a => absurd a h) (fun a => absurd a h)
    rw [ri_vi]
    exact ⟨rfl, q _ _ r⟩
  · intro h h2
    rw [rc_is r] at h
    rw [ri_vi]
    refine c_seenAt (d := d + 11) (rc_rI r) (fun a => absurd h a) (fun _ _ => ?_) (fun _ a => absurd a h2)
    rw [ri_vi]
    exact ⟨rfl, q _ _ r⟩
  · intro h h2
    rw [rc_is r] at h
    rw [ri_vi]
    refine c_seenAt (d := d + 11) (rc_rI r) (fun a => absurd h a) (fun _ a => absurd h2 a) (fun _ _ => ?_)
    intro I2 x2
    rw [ri_vi]
    refine ⟨?_, q _ _ (rc_119 r x2)⟩
    rw [(rc_o r).2, rc_perP r h]
theorem p_when {n d : Nat} {p t : Int} {I : mI} {L : mL} {c : Nat} {Q : mI → mL → Nat → Prop} (r : RC I L c) (q : ∀ I' L', RC I' L' c → Q I' L' c) : PT n (d + 20) 79 [vr (some 16), vi p, vi t] 174 [vr (some 104), vi p, vi t] I L c Q := by
  obtain ⟨e1, e2, e3⟩ := rc_17 r
  have hy := r.1.2.2.2.2.1
  refine x_when' (d := d + 13) (rc_cO r) (rc_cP r) ?_ ?_ ?_
  · intro h
    rw [rc_is r] at h
    rw [ri_vi]
    refine c_when (d := d + 10) (rc_rI r) hy (fun _ => ?_) (fun a b => absurd ⟨a, by omega⟩ h) (fun a b => absurd ⟨a, by omega⟩ h)
    rw [ri_vi]
    exact ⟨rfl, q _ _ r⟩
  · intro h h2
    rw [rc_is r] at h
    rw [ri_vi]
    refine c_when (d := d + 10) (rc_rI r) hy (fun a => absurd ⟨h, by omega⟩ a) (fun _ _ => ?_) (fun _ a => by omega)
    intro I2 x2
    rw [ri_vi]
    refine ⟨?_, q _ _ (rc_T r x2)⟩
    rw [(rc_o r).2, rc_perP r h]
  · intro h h2 I1 x1
    rw [rc_is r] at h
    have r1 := rc_g r x1
    obtain ⟨k1, k2, k3, k4, k5, k6⟩ := keep x1 sc_g
    have h1 : isP I1 p := by unfold isP; rw [k3]; exact h
    rw [ri_vi]
    refine c_when (d := d + 10) (rc_rI r1) (by rw [k5]; exact hy) (fun a => absurd ⟨h1, by omega⟩ a) (fun _ a => by omega) (fun _ _ => ?_)
    intro I2 x2
    rw [ri_vi]
    refine ⟨?_, q _ _ (rc_T r1 x2)⟩
    rw [(rc_o r).2, rc_perP r h, e2, k1, k2, k4]
theorem p_jointly {n d : Nat} {p t : Int} {I : mI} {L : mL} {c : Nat} {Q : mI → mL → Nat → Prop} (r : RC I L c) (q : ∀ I' L', RC I' L' c → Q I' L' c) : PT n (d + 20) 81 [vr (some 16), vi p, vi t] 179 [vr (some 104), vi p, vi t] I L c Q := by
  obtain ⟨e1, e2, e3⟩ := rc_17 r
  refine x_jointly' (d := d + 15) (rc_cO r) (rc_cP r) ?_ ?_ ?_
  · intro h
    rw [rc_is r, rc_is r] at h
    rw [ri_vi]
    refine c_jointly (d := d + 13) (rc_rI r) (fun _ => ?_) (fun a => absurd a h) (fun a => absurd a h)
    rw [ri_vi]
    exact ⟨rfl, q _ _ r⟩
  · intro h h2
    rw [rc_is r, rc_is r] at h
    rw [ri_vi]
    refine c_jointly (d := d + 13) (rc_rI r) (fun a => absurd h a) (fun _ _ => ?_) (fun _ a => absurd h2 a)
    rw [ri_vi]
    exact ⟨rfl, q _ _ r⟩
  · intro h h2 I1 x1
    rw [rc_is r, rc_is r] at h
    have r1 := rc_87 r x1
    obtain ⟨k1, k2, k3, k4, k5, k6⟩ := keep x1 sc_87
    have h1 : isP I1 p ∧ isP I1 t := by unfold isP; rw [k3]; exact h
    rw [ri_vi]
    refine c_jointly (d := d + 13) (rc_rI r1) (fun a => absurd h1 a) (fun _ a => absurd a h2) (fun _ _ => ?_)
    intro I2 x2
    rw [ri_vi]
    refine ⟨?_, q _ _ (rc_119 r1 x2)⟩
    rw [(rc_o r).2, rc_perP r h.1, rc_perP r h.2, e2, k1, k2, k4]
theorem p_raises {n d : Nat} {t : Int} {I : mI} {L : mL} {c : Nat} {Q : mI → mL → Nat → Prop} (r : RC I L c) (q : ∀ I' L', RC I' L' c → Q I' L' c) : PT n (d + 20) 83 [vr (some 16), vi t] 185 [vr (some 104), vi t] I L c Q := by
  obtain ⟨e1, e2, e3⟩ := rc_17 r
  have hn := rc_n r
  have r26 : ∀ J, RC J L c → J 104 26 = -1 := fun J h => h.2.2.2.2.2.2.2.2
  refine x_raises' (d := d + 15) (rc_cO r) (rc_cP r) ?_ ?_
  · intro h
    rw [ri_vi]
    refine c_raises (d := d + 11) (rc_rI r) (r26 I r) (fun _ => ?_) (fun a => absurd a h)
    rw [ri_vi]
    exact ⟨rfl, q _ _ r⟩
  · intro h I1 x1
    have r1 := rc_87 r x1
    obtain ⟨k1, k2, k3, k4, k5, k6⟩ := keep x1 sc_87
    rw [ri_vi]
    refine c_raises (d := d + 11) (rc_rI r1) (r26 I1 r1) (fun a => absurd h a) (fun _ => ?_)
    intro I2 x2
    rw [ri_vi]
    refine ⟨?_, q _ _ (rc_119 r1 x2)⟩
    rw [(rc_o r).2, e2, hn.1, k1, k2, k4, k6]
    unfold raisesS
    congr 1
    funext m
    rw [all_cg (fun p hp => rc_per r hp)]
theorem rc_l {I : mI} {L : mL} {c : Nat} (r : RC I L c) : lCI I ∧ I 19 2 = I 104 41 ∧ lI I ∧ ∀ k, k < (I 104 41).toNat → lkC I k = lkM I k := by
  obtain ⟨⟨⟨t1, _⟩, _, _, _, _, _, ⟨k1, k2, k3⟩, _⟩, _⟩ := r
  refine ⟨⟨by rw [k1]; exact k2.1, ?_⟩, k1, k2, k3⟩
  intro k hk
  rw [k1] at hk
  rw [k3 k hk, t1]
  exact k2.2 k hk
theorem looks_cg2 {O : mO} {Ps Qs : Nat → mP} {hour : Int} {lk lk' : Nat → Int × Int × Int × Int} {m : Nat} (hl : ∀ k, k < m → lk k = lk' k) (h : ∀ k, k < m → Ps (lk' k).1.toNat = Qs (lk' k).1.toNat) : looksS O Ps hour lk m = looksS O Qs hour lk' m := by
  refine allB_cg (fun i hi => ?_)
  unfold seenS
  rw [hl i hi, h i hi]
theorem down_cg {f g : Nat → Bool} (N : Nat) (h : ∀ i, f i = g i) : ∀ i, downS f N i = downS g N i
  | 0 => rfl
  | i + 1 => by unfold downS; rw [down_cg N h i, h]
theorem p_tastes {n d : Nat} {t : Int} {I : mI} {L : mL} {c : Nat} {Q : mI → mL → Nat → Prop} (r : RC I L c) (q : ∀ I' L', RC I' L' c → Q I' L' c) : PT n (d + 20) 85 [vr (some 16), vi t] 188 [vr (some 104), vi t] I L c Q := by
  obtain ⟨e1, e2, e3⟩ := rc_17 r
  have hn := rc_n r
  have hy := r.1.2.2.2.2.1
  obtain ⟨l1, l2, l3, l4⟩ := rc_l r
  have r26 : ∀ J, RC J L c → J 104 26 = -1 := fun J h => h.2.2.2.2.2.2.2.2
  refine x_tastes' (d := d + 15) (rc_cO r) (rc_cP r) l1 ?_ ?_
  · intro h
    rw [ri_vi]
    refine c_tastes (d := d + 13) (rc_rI r) hy l3 (r26 I r) (fun _ => ?_) (fun a => absurd a h)
    rw [ri_vi]
    exact ⟨rfl, q _ _ r⟩
  · intro h I1 x1
    have r1 := rc_A r x1
    obtain ⟨k1, k2, k3, k4, k5, k6⟩ := keep x1 sc_A
    have f41 : I1 104 41 = I 104 41 := x1 104 41 rfl
    have lk1 : lkM I1 = lkM I := lkM_e x1 rfl
    rw [ri_vi]
    refine c_tastes (d := d + 13) (rc_rI r1) (by rw [k5]; exact hy) (rc_l r1).2.2.1 (r26 I1 r1) (fun a => absurd h a) (fun _ => ?_)
    intro I2 x2
    rw [ri_vi]
    refine ⟨?_, q _ _ (rc_T r1 x2)⟩
    have e : tastesS (offC I (hH I)) (perN I) (I 17 2) (lkC I) (I 19 2).toNat = tastesS (offM I1) (perM I1) (I1 104 2) (lkM I1) (I1 104 41).toNat := by
      rw [(rc_o r).2, e2, l2, k1, k2, k4, f41, lk1]
      refine down_cg 61 (fun i => looks_cg2 l4 (fun k hk => ?_)) 61
      have := (l3.2 k hk).1
      have := hn.2.1
      exact rc_per r (by show (I 129 k).toNat < nM I; omega)
    rw [e]
theorem p_graces {n d : Nat} {p t x : Int} {I : mI} {L : mL} {c : Nat} {Q : mI → mL → Nat → Prop} (r : RC I L c) (q : ∀ I' L', RC I' L' c → Q I' L' c) : PT n (d + 20) 86 [vr (some 16), vi p, vi t, vi x] 189 [vr (some 104), vi p, vi t, vi x] I L c Q := by
  obtain ⟨e1, e2, e3⟩ := rc_17 r
  have hn := rc_n r
  have hy := r.1.2.2.2.2.1
  obtain ⟨l1, l2, l3, l4⟩ := rc_l r
  refine x_graces' (d := d + 14) (rc_cO r) (rc_cP r) l1 ?_ ?_
  · intro h
    rw [rc_is r] at h
    rw [ri_vi]
    refine c_graces (d := d + 13) (rc_rI r) hy l3 (fun _ => ?_) (fun a => absurd a h)
    rw [ri_vi]
    exact ⟨rfl, q _ _ r⟩
  · intro h I1 x1
    rw [rc_is r] at h
    have r1 := rc_A r x1
    obtain ⟨k1, k2, k3, k4, k5, k6⟩ := keep x1 sc_A
    have f41 : I1 104 41 = I 104 41 := x1 104 41 rfl
    have lk1 : lkM I1 = lkM I := lkM_e x1 rfl
    have h1 : isP I1 p ∧ (0 ≤ t ∧ t ≤ 5) ∧ 0 ≤ x ∧ x ≤ 1 := by unfold isP; rw [k3]; exact h
    rw [ri_vi]
    refine c_graces (d := d + 13) (rc_rI r1) (by rw [k5]; exact hy) (rc_l r1).2.2.1 (fun a => absurd h1 a) (fun _ => ?_)
    intro I2 x2
    rw [ri_vi]
    refine ⟨?_, q _ _ (rc_T r1 x2)⟩
    have e : gracesS (offC I (hH I)) (perN I) (I 17 2) (lkC I) (I 19 2).toNat p.toNat (5 + t.toNat) = gracesS (offM I1) (perM I1) (I1 104 2) (lkM I1) (I1 104 41).toNat p.toNat (5 + t.toNat) := by
      rw [(rc_o r).2, e2, l2, k1, k2, k4, f41, lk1]
      refine down_cg 10 (fun i => looks_cg2 l4 (fun k hk => ?_)) 10
      have := (l3.2 k hk).1
      have := hn.2.1
      have e0 : perN I (lkM I k).1.toNat = perM I (lkM I k).1.toNat := rc_per r (by show (I 129 k).toNat < nM I; omega)
      unfold updP
      rw [e0, rc_perP r h.1]
    rw [e]
theorem p_can {n d : Nat} {p x : Int} {I : mI} {L : mL} {c : Nat} {Q : mI → mL → Nat → Prop} (r : RC I L c) (q : ∀ I' L', RC I' L' c → Q I' L' c) : PT n (d + 20) 87 [vr (some 16), vi p, vi x] 190 [vr (some 104), vi p, vi x] I L c Q := by
  obtain ⟨e1, e2, e3⟩ := rc_17 r
  have hn := rc_n r
  have hy := r.1.2.2.2.2.1
  obtain ⟨l1, l2, l3, l4⟩ := rc_l r
  refine x_can' (d := d + 14) (rc_cO r) (rc_cP r) l1 ?_ ?_
  · intro h
    rw [rc_is r] at h
    rw [ri_vi]
    refine c_can (d := d + 13) (rc_rI r) hy l3 (fun _ => ?_) (fun a => absurd a h)
    rw [ri_vi]
    exact ⟨rfl, q _ _ r⟩
  · intro h I1 x1
    rw [rc_is r] at h
    have r1 := rc_A r x1
    obtain ⟨k1, k2, k3, k4, k5, k6⟩ := keep x1 sc_A
    have f41 : I1 104 41 = I 104 41 := x1 104 41 rfl
    have lk1 : lkM I1 = lkM I := lkM_e x1 rfl
    have h1 : isP I1 p ∧ 0 ≤ x ∧ x ≤ 1 := by unfold isP; rw [k3]; exact h
    rw [ri_vi]
    refine c_can (d := d + 13) (rc_rI r1) (by rw [k5]; exact hy) (rc_l r1).2.2.1 (fun a => absurd h1 a) (fun _ => ?_)
    intro I2 x2
    rw [ri_vi]
    refine ⟨?_, q _ _ (rc_T r1 x2)⟩
    have e : gracesS (offC I (hH I)) (perN I) (I 17 2) (lkC I) (I 19 2).toNat p.toNat 2 = gracesS (offM I1) (perM I1) (I1 104 2) (lkM I1) (I1 104 41).toNat p.toNat 2 := by
      rw [(rc_o r).2, e2, l2, k1, k2, k4, f41, lk1]
      refine down_cg 10 (fun i => looks_cg2 l4 (fun k hk => ?_)) 10
      have := (l3.2 k hk).1
      have := hn.2.1
      have e0 : perN I (lkM I k).1.toNat = perM I (lkM I k).1.toNat := rc_per r (by show (I 129 k).toNat < nM I; omega)
      unfold updP
      rw [e0, rc_perP r h.1]
    rw [e]
theorem p_odds {n d : Nat} {p t x : Int} {I : mI} {L : mL} {c : Nat} {Q : mI → mL → Nat → Prop} (r : RC I L c) (q : ∀ I' L', RC I' L' c → Q I' L' c) : PTl n (d + 20) 88 [vr (some 16), vi p, vi t, vi x] 193 [vr (some 104), vi p, vi t, vi x] I L c Q := by
  refine x_odds' (d := d + 16) (rc_cO r) (rc_cP r) ?_ ?_
  · intro h
    rw [rc_is r] at h
    rw [rl_vl]
    refine c_odds (d := d + 14) (rc_rI r) (fun _ => ?_) (fun a => absurd a h)
    rw [rl_vl]
    exact ⟨rfl, q _ _ r⟩
  · intro h
    rw [rc_is r] at h
    rw [rl_vl]
    refine c_odds (d := d + 14) (rc_rI r) (fun a => absurd h a) (fun _ => ?_)
    intro I2 x2
    rw [rl_vl]
    refine ⟨?_, q _ _ (rc_119 r x2)⟩
    rw [(rc_o r).2, rc_perP r h.1]
theorem p_mean {n d : Nat} {p t : Int} {I : mI} {L : mL} {c : Nat} {Q : mI → mL → Nat → Prop} (r : RC I L c) (q : ∀ I' L', RC I' L' c → Q I' L' c) : PTl n (d + 20) 89 [vr (some 16), vi p, vi t] 194 [vr (some 104), vi p, vi t] I L c Q := by
  obtain ⟨e1, e2, e3⟩ := rc_17 r
  have hn := rc_n r
  refine x_mean' (d := d + 13) (rc_cO r) (rc_cP r) ?_ ?_
  · intro h
    rw [e1] at h
    rw [rl_vl]
    refine c_mean (d := d + 11) (rc_rI r) (fun _ => ?_) (fun a => absurd a h)
    rw [rl_vl]
    exact ⟨rfl, q _ _ r⟩
  · intro h
    rw [e1] at h
    rw [rl_vl]
    refine c_mean (d := d + 11) (rc_rI r) (fun a => absurd h a) (fun _ => ?_)
    intro I2 x2
    rw [rl_vl]
    refine ⟨?_, q _ _ (rc_119 r x2)⟩
    unfold meanS
    rw [(rc_o r).2, hn.1, all_cg (fun p hp => rc_per r hp)]
theorem rc_pl {I : mI} {L : mL} {c : Nat} (r : RC I L c) : pCI I ∧ I 21 2 = I 104 46 ∧ lpI I ∧ ∀ k, k < (I 104 46).toNat → (plC I k).1 = (plM I k).1 ∧ ((plM I k).1 = 1 ∨ (plM I k).1 = 2 → (plC I k).2 = (plM I k).2) := by
  obtain ⟨⟨_, _, _, _, _, _, _, ⟨k1, k2, k3⟩, _⟩, _⟩ := r
  refine ⟨⟨by rw [k1]; exact k2.1, ?_⟩, k1, k2, k3⟩
  intro k hk
  rw [k1] at hk
  obtain ⟨a1, a2⟩ := k3 k hk
  obtain ⟨b1, b2, b3⟩ := k2.2 k hk
  rw [a1]
  refine ⟨b1, fun h => ?_⟩
  rw [a2 (Or.inl h)]
  exact b2 h
theorem plan_cg {pl pl' : Nat → Int × Int} {Q : mP} {h : Int} : ∀ m, (∀ k, k < m → (pl k).1 = (pl' k).1 ∧ ((pl' k).1 = 1 ∨ (pl' k).1 = 2 → (pl k).2 = (pl' k).2)) → planS pl Q h m = planS pl' Q h m
  | 0, _ => rfl
  | m + 1, e => by
    obtain ⟨a1, a2⟩ := e m (by omega)
    rw [plan_step, plan_step, plan_cg m (fun k hk => e k (by omega)), a1]
    unfold goS
    by_cases b0 : (pl' m).1 = 0
    · rw [if_pos b0, if_pos b0]
    rw [if_neg b0, if_neg b0]
    by_cases b1 : (pl' m).1 = 1
    · rw [if_pos b1, if_pos b1, a2 (Or.inl b1)]
    rw [if_neg b1, if_neg b1]
    by_cases b2 : (pl' m).1 = 2
    · rw [if_pos b2, if_pos b2, a2 (Or.inr b2)]
    rw [if_neg b2, if_neg b2]
theorem p_ends {n d : Nat} {t : Int} {I : mI} {L : mL} {c : Nat} {Q : mI → mL → Nat → Prop} (r : RC I L c) (q : ∀ I' L', RC I' L' c → Q I' L' c) : PT n (d + 20) 91 [vr (some 16), vi t] 196 [vr (some 104), vi t] I L c Q := by
  obtain ⟨e1, e2, e3⟩ := rc_17 r
  have hn := rc_n r
  have hy := r.1.2.2.2.2.1
  obtain ⟨l1, l2, l3, l4⟩ := rc_pl r
  refine x_ends' (d := d + 14) (rc_cO r) (rc_cP r) l1 ?_ ?_
  · intro h
    rw [ri_vi]
    refine c_ends (d := d + 11) (rc_rI r) hy l3 (fun _ => ?_) (fun a => absurd a h)
    rw [ri_vi]
    exact ⟨rfl, q _ _ r⟩
  · intro h I1 x1
    have r1 := rc_g r x1
    obtain ⟨k1, k2, k3, k4, k5, k6⟩ := keep x1 sc_g
    have f46 : I1 104 46 = I 104 46 := x1 104 46 rfl
    have pl1 : plM I1 = plM I := by unfold plM; rw [cell_n x1 (a := 133) (by decide) (by decide), cell_n x1 (a := 134) (by decide) (by decide)]
    rw [ri_vi]
    refine c_ends (d := d + 11) (rc_rI r1) (by rw [k5]; exact hy) (rc_pl r1).2.2.1 (fun a => absurd h a) (fun _ => ?_)
    intro I2 x2
    rw [ri_vi]
    refine ⟨?_, q _ _ (rc_T r1 x2)⟩
    rw [(rc_o r).2, e2, l2, hn.1, k1, k2, k4, k6, f46, pl1]
    unfold endsS
    by_cases t0 : t = 0
    · rw [if_pos t0, if_pos t0]
      exact sum_cg (fun i hi => by rw [plan_cg _ l4, rc_per r hi])
    · rw [if_neg t0, if_neg t0]
      exact sum_cg (fun i hi => by rw [plan_cg _ l4, rc_per r hi])
theorem rc_b {I : mI} {L : mL} {c : Nat} (r : RC I L c) : bCI I ∧ I 23 2 = I 104 47 ∧ kI I ∧ ∀ k, k < (I 104 47).toNat → bkC I k = bkM I k := by
  obtain ⟨⟨⟨t1, _⟩, _, _, _, _, _, _, _, ⟨k1, k2, k3⟩, _⟩, _⟩ := r
  refine ⟨⟨by rw [k1]; exact k2.1, ?_⟩, k1, k2, k3⟩
  intro k hk
  rw [k1] at hk
  rw [k3 k hk, t1]
  exact k2.2 k hk
theorem fst_cg {f g : Nat → Bool} : ∀ m k, (∀ i, i < k + m → f i = g i) → fstS f k m = fstS g k m
  | 0, _, _ => rfl
  | m + 1, k, h => by unfold fstS; rw [fst_cg m (k + 1) (fun i hi => h i (by omega)), h k (by omega)]
theorem p_looked {n d : Nat} {I : mI} {L : mL} {c : Nat} {Q : mI → mL → Nat → Prop} (r : RC I L c) (q : ∀ I' L', RC I' L' c → Q I' L' c) : PT n (d + 20) 93 [vr (some 16)] 198 [vr (some 104)] I L c Q := by
  obtain ⟨e1, e2, e3⟩ := rc_17 r
  have hn := rc_n r
  obtain ⟨l1, l2, l3, l4⟩ := rc_b r
  refine x_looked' (d := d + 14) (rc_cO r) (rc_cP r) l1 ?_
  rw [ri_vi]
  refine c_looked (d := d + 12) (rc_rI r) l3 ?_
  intro I2 x2
  rw [ri_vi]
  refine ⟨?_, q _ _ (rc_119 r x2)⟩
  rw [(rc_o r).2, e2, l2]
  unfold lookedS
  refine fst_cg _ 0 (fun i hi => ?_)
  have := l3.2 i (by omega)
  have := hn.2.1
  rw [l4 i (by omega), rc_per r (p := (bkM I i).1.toNat) (by show (I 135 i).toNat < nM I; omega)]
theorem rc_tC {I : mI} {L : mL} {c : Nat} (r : RC I L c) : tI I ∧ tC I ∧ ∀ t, t < 6 → I (92 + 2 * t) 0 = I 151 t ∧ I (92 + 2 * t) 1 = I 152 t ∧ ∀ k : Nat, (k : Int) < I 152 t → L (93 + 2 * t) k = L 153 (60 * t + k) := by
  obtain ⟨_, _, _, _, _, ⟨t1, t2⟩, _⟩ := r
  refine ⟨t1, fun t ht => ?_, t2⟩
  obtain ⟨a1, a2, _⟩ := t2 t ht
  rw [a1, a2]
  exact t1 t ht
theorem p_judge {n d : Nat} {t i : Int} {I : mI} {L : mL} {c : Nat} {Q : mI → mL → Nat → Prop} (r : RC I L c) (hi : rg i) (q : ∀ I' L', RC I' L' c → Q I' L' c) : PT n (d + 20) 94 [vr (some 16), vi t, vi i] 199 [vr (some 104), vi t, vi i] I L c Q := by
  obtain ⟨e1, e2, e3⟩ := rc_17 r
  have hn := rc_n r
  obtain ⟨t1, t2, t3⟩ := rc_tC r
  refine x_judge' (d := d + 14) (rc_cO r) (rc_cP r) t2 hi ?_ ?_ ?_
  · intro h
    rw [ri_vi]
    refine c_judge (d := d + 12) (rc_rI r) t1 hi (fun _ => ?_) (fun a => absurd a h) (fun a => absurd a h)
    rw [ri_vi]
    exact ⟨rfl, q _ _ r⟩
  · intro h h2
    rw [(t3 t.toNat (by omega)).1] at h2
    rw [ri_vi]
    refine c_judge (d := d + 12) (rc_rI r) t1 hi (fun a => absurd h a) (fun _ _ => ?_) (fun _ a => absurd a h2)
    rw [ri_vi]
    exact ⟨rfl, q _ _ r⟩
  · intro h h2
    obtain ⟨a1, a2, a3⟩ := t3 t.toNat (by omega)
    rw [a1] at h2
    rw [ri_vi]
    refine c_judge (d := d + 12) (rc_rI r) t1 hi (fun a => absurd h a) (fun _ a => absurd h2 a) (fun _ _ => ?_)
    intro I2 x2
    rw [ri_vi]
    refine ⟨?_, q _ _ (rc_119 r x2)⟩
    have b := (t1 t.toNat (by omega)).2.1
    rw [(rc_o r).2, e2, hn.1, a2]
    exact judge_cg b _ 0 (fun p hp => rc_per r (by omega)) a3
