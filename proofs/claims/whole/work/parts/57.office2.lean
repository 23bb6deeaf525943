/-! ===== office(): the tie holds again ===== -/
def lFa : List Nat := [16, 17, 74, 76, 77, 78, 79, 111, 112, 113, 114, 115, 116, 117, 1009, 1010, 1011, 1012, 1013, 1022, 1023, 1024]
def lFc : List Nat := (List.range 30).map (fun i => 155 + i)
def lF : List Nat := lFa ++ lFc
theorem lF_a {x : Nat} (h : x ∈ lFa) : x ∈ lF := List.mem_append_left _ h
theorem lF_c {x : Nat} (h1 : 155 ≤ x) (h2 : x < 185) : x ∈ lF := List.mem_append_right _ (List.mem_map.mpr ⟨x - 155, List.mem_range.mpr (by omega), by omega⟩)
theorem lF_n1 : nol lF lRow = true := by decide +kernel
theorem lF_n2 : nol lF lKc = true := by decide +kernel
theorem lF_n3 : nol (lF.filter fun a => !(Nat.beq a 16)) lKr = true := by decide +kernel
theorem lF_n0 : nol (lF.filter fun a => !(Nat.beq a 16)) lKc = true := by decide +kernel
theorem lF_n4 : nol lF lAr = true := by decide +kernel
theorem lF_n5 : nol lF lPr = true := by decide +kernel
theorem lF_n6 : nol lF lSr = true := by decide +kernel
theorem lF_n7 : nol lF [19, 21, 23] = true := by decide +kernel
theorem lF_n8 : nol lF lQ = true := by decide +kernel
theorem lF_n9 : nol lF lP = true := by decide +kernel
theorem lF_nA : nol lF [104, 1026, 1000, 1002, 1003] = true := by decide +kernel
theorem lF_nB : nol lF lPe = true := by decide +kernel
theorem lF_nC : nol lF [69, 70, 71, 72] = true := by decide +kernel
/-- what both calls change -/
def frO (c : Nat) (I J : mI) : Prop := (∀ x k, x ≠ 117 → ¬ (x = 116 ∧ 100 * c ≤ k) → ¬ (x = 104 ∧ (k = 9 ∨ k = 10 ∨ k = 11 ∨ k = 12 ∨ k = 13 ∨ k = 22 ∨ k = 23 ∨ k = 24)) → ¬ (112 ≤ x ∧ x ≤ 115 ∧ 10 * c ≤ k ∧ k < 10 * c + 10) → ¬ (x = 111 ∧ k = c) → ¬ (oH c ≤ x ∧ x ≤ oH c + 3) → x ≠ 155 + 4 * c → x ≠ 74 → ¬ (x = 17 ∧ k = 4) → ¬ (x = 16 ∧ k = 5) → J x k = I x k) ∧ (∀ k, 10 * c ≤ k → k < 10 * c + 10 → J 115 k ≤ ((100 * c + 100 : Nat) : Int) ∧ 0 ≤ J 113 k ∧ J 113 k ≤ 99)
theorem rg4 {x : Nat} (h1 : 112 ≤ x) (h2 : x ≤ 115) : x = 112 ∨ x = 113 ∨ x = 114 ∨ x = 115 := by omega
theorem rgO {x c : Nat} (hc : c ≤ 6) (h1 : oH c ≤ x) (h2 : x ≤ oH c + 3) : x = 76 ∨ x = 77 ∨ x = 78 ∨ x = 79 ∨ (155 ≤ x ∧ x < 185) := by
  cases c with
  | zero =>
    have e : oH 0 = 76 := rfl
    rw [e] at h1 h2
    omega
  | succ c =>
    have e : oH (c + 1) = 155 + 4 * c := rfl
    rw [e] at h1 h2
    omega
theorem fr_e {c : Nat} {I J : mI} (hc : c ≤ 6) (f : frO c I J) : eqx lF I J := by
  intro x k q
  obtain ⟨q1, q2⟩ := jk_f.mp q
  have na : ∀ y, y ∈ lFa → y < 1000 → x ≠ y := fun y hy h1 e => q1 (by rw [e]; exact h1) (by rw [e]; exact lF_a hy)
  have nf : ∀ y, 1000 + y ∈ lFa → x = 104 → k ≠ y := fun y hy e e2 => q2 e (by rw [e2]; exact lF_a hy)
  have nc : ¬ (155 ≤ x ∧ x < 185) := fun h => q1 (by omega) (lF_c h.1 h.2)
  refine f.1 x k (na 117 (by decide) (by decide)) (fun h => na 116 (by decide) (by decide) h.1) (fun h => ?_) (fun h => ?_) (fun h => na 111 (by decide) (by decide) h.1) (fun h => ?_) (fun h => nc (by omega)) (na 74 (by decide) (by decide)) (fun h => na 17 (by decide) (by decide) h.1) (fun h => na 16 (by decide) (by decide) h.1)
  · rcases h.2 with e | e | e | e | e | e | e | e
    all_goals exact nf _ (by decide) h.1 e
  · rcases rg4 h.1 h.2.1 with e | e | e | e
    all_goals exact na _ (by decide) (by decide) e
  · rcases rgO hc h.1 h.2 with e | e | e | e | e
    · exact na _ (by decide) (by decide) e
    · exact na _ (by decide) (by decide) e
    · exact na _ (by decide) (by decide) e
    · exact na _ (by decide) (by decide) e
    · exact nc e
theorem sw_16 {I J : mI} (h : ∀ x k, x ≠ 16 → J x k = I x k) : eqx [16] (sw I) (sw J) := by
  intro x k q
  obtain ⟨q1, q2⟩ := jk_f.mp q
  refine h _ _ ?_
  unfold swC
  by_cases w : 17 ≤ x ∧ x ≤ 42
  · rw [if_pos w]; omega
  · rw [if_neg w]
    split
    all_goals first | decide | skip
    by_cases e : x < 1000
    · exact fun e2 => q1 e (by rw [e2]; exact List.mem_cons_self)
    · omega
theorem KP_16 {c c' : Nat} (hcc : c ≤ c') {I J : mI} (e : eqx lF I J) (h2 : J 16 2 = I 16 2) (k : KP I c) : KP J c' := by
  generalize hN : (fun x k => if x = 16 then I 16 k else J x k : mI) = N
  have gN : ∀ x k, x ≠ 16 → N x k = J x k := fun x k q => by rw [← hN]; exact if_neg q
  have n16 : N 16 = I 16 := by rw [← hN]; funext k; exact if_pos rfl
  have eN : eqx (lF.filter fun a => !(Nat.beq a 16)) I N := by
    intro x k q
    by_cases w : x = 16
    · rw [w, n16]
    · rw [gN _ _ w]
      refine e x k ?_
      rw [jk_f] at q ⊢
      have sub : ∀ y, y ∈ lF → y ≠ 16 → y ∈ lF.filter fun a => !(Nat.beq a 16) := fun y hy hn => List.mem_filter.mpr ⟨hy, by rw [show Nat.beq y 16 = false from Bool.eq_false_iff.mpr (fun w => hn (Nat.eq_of_beq_eq_true w))]; rfl⟩
      exact ⟨fun h9 hm => q.1 h9 (sub _ hm w), fun h4 hm => q.2 h4 (sub _ hm (by omega))⟩
  have kN := KP_e eN lF_n0 lF_n3 k
  obtain ⟨k1, k2, k3, k4, k5⟩ := kN
  have f52 : N 104 52 = J 104 52 := gN _ _ (by decide)
  rw [f52] at k1 k2 k3
  refine ⟨?_, k2, fun hh => ?_, fun p hp => ?_, fun k hk => ?_⟩
  · rw [h2, ← k1, n16]
  · have t := TW_agr (agr_e (sw_16 (I := N) (J := J) (fun x k q => (gN x k q).symm)) (by decide +kernel) (by decide +kernel)) (k3 hh)
    obtain ⟨t1, t2, t3, t4, t5, ⟨t6, t7⟩, t8⟩ := t
    exact ⟨t1, t2, t3, t4, t5, ⟨t6, by omega⟩, t8⟩
  · have := k4 p hp
    rw [gN _ _ (by omega)] at this
    exact this
  · have := k5 k hk
    rw [gN _ _ (by decide)] at this
    exact this

theorem TW_fr {c c' : Nat} (hc : c ≤ 6) (hcc : c ≤ c') {I J : mI} (f : frO c I J) (h4 : J 17 4 = J 104 10) (hb : -1 ≤ J 104 10 ∧ J 104 10 < (c' : Int)) (t : TW I c) : TW J c' := by
  have e := fr_e hc f
  have t' : TW I c' := by
    obtain ⟨t1, t2, t3, t4, t5, ⟨t6, t7⟩, t8⟩ := t
    exact ⟨t1, t2, t3, t4, t5, ⟨t6, by omega⟩, t8⟩
  have o76 := oH_76 c
  have f17 : ∀ k, k ≠ 4 → J 17 k = I 17 k := fun k hk => f.1 17 k (by decide) (by omega) (by omega) (by omega) (by omega) (by omega) (by omega) (by decide) (by omega) (by omega)
  have fr : ∀ k, elm lF (1000 + k) = false → J 104 k = I 104 k := fun k hk => fld_e e (by decide +kernel) hk
  have f0 := fr 0 (by decide +kernel)
  have f1 := fr 1 (by decide +kernel)
  have f2 := fr 2 (by decide +kernel)
  have f3 := fr 3 (by decide +kernel)
  have n6 : nM J = nM I := by unfold nM; rw [f0]
  have n7 : nM I ≤ 6 := by
    have := t.2.2.2.1.1
    unfold nM; omega
  have cc : ∀ p, p < 6 → perC J (25 + 3 * p) = perC I (25 + 3 * p) := fun p hp => perC_c
    (cell_n e (by omega) (nol_m lF_nB (by rcases p with _ | _ | _ | _ | _ | _ | p; all_goals first | decide | omega)))
    (cell_n e (by omega) (nol_m lF_nB (by rcases p with _ | _ | _ | _ | _ | _ | p; all_goals first | decide | omega)))
    (cell_n e (by omega) (nol_m lF_nB (by rcases p with _ | _ | _ | _ | _ | _ | p; all_goals first | decide | omega)))
  have pM := perM_f e lF_n9
  refine TW_set t' e lF_n1 ⟨by rw [f17 1 (by decide), f0]; exact t.1.1, by rw [f17 2 (by decide), f2]; exact t.1.2.1, by rw [f17 3 (by decide), f3]; exact t.1.2.2.1, h4⟩ ?_ ?_ (pI_e e lF_n8 t.2.2.2.1) (by rw [f3]; exact t.2.2.2.2.1) hb (by rw [f0]; exact Int.le_refl _)
  · intro p hp
    rw [n6] at hp
    rw [pM, ← t.2.1 p hp]
    exact cc p (by omega)
  · intro p hp
    have e4 : J (25 + 3 * p) 4 = I (25 + 3 * p) 4 := congrFun (cc p hp) 4
    rw [e4]
    exact t.2.2.1 p hp
theorem oH_lt2 {j c : Nat} (h : j < c) : oH j + 3 < oH c := by
  cases c with
  | zero => omega
  | succ c =>
    cases j with
    | zero => show 76 + 3 < 155 + 4 * c; omega
    | succ j => show 155 + 4 * j + 3 < 155 + 4 * c; omega
theorem oH_or (c : Nat) : oH c = 76 ∨ 155 ≤ oH c := by
  cases c with
  | zero => exact Or.inl rfl
  | succ c => right; show 155 ≤ 155 + 4 * c; omega
theorem OF_fr {c : Nat} {I J : mI} (f : frO c I J) (h26 : J 104 26 = -1) (o : OF I c) : (∀ i, i < 60 → 0 ≤ J 113 i ∧ J 113 i ≤ 99) ∧ (oC J 69 ∧ offC J 69 = (8, 18, 10, [])) ∧ oI (up2 J 104 10 (-1)) ∧ (∀ j, j < c → OFj J j) ∧ (∀ i, i < 60 → J 115 i ≤ 100 * (((i / 10 : Nat) : Int) + 1)) := by
  obtain ⟨o1, o2, o3, ⟨o4, o5⟩, o6, o7, o8, o9⟩ := o
  have e := fr_e o1 f
  have o76 := oH_76 c
  have hOc := oH_or c
  have f26 : J 104 26 = I 104 26 := fld_e e (by decide +kernel) (by decide +kernel)
  have b113 : ∀ i, i < 60 → 0 ≤ J 113 i ∧ J 113 i ≤ 99 := by
    intro i hi
    by_cases w : 10 * c ≤ i ∧ i < 10 * c + 10
    · exact (f.2 i w.1 w.2).2
    · rw [f.1 113 i (by decide) (by omega) (by omega) (by omega) (by omega) (by omega) (by omega) (by decide) (by omega) (by omega)]
      have := o6.2.1 i hi
      rw [up2_nj (show (113 : Nat) ≠ 104 by decide)] at this
      exact this
  refine ⟨b113, ?_, ?_, ?_, ?_⟩
  · have c0 : ∀ y, y ∈ [69, 70, 71, 72] → J y = I y := fun y hy => cell_n e (by intro w; rw [w] at hy; revert hy; decide) (nol_m lF_nC hy)
    have e0 := c0 69 (by decide)
    have e1 := c0 70 (by decide)
    have e2 := c0 71 (by decide)
    have e3 := c0 72 (by decide)
    exact ⟨oC_c e0 e1 e2 e3 o4, by rw [offC_c e0 e1 e2 e3]; exact o5⟩
  · have k0 : kM (up2 J 104 10 (-1)) = 0 := by unfold kM; rw [up2_same, if_pos (by decide)]
    refine ⟨⟨by rw [up2_same]; exact ⟨by decide, by decide⟩, fun h => ?_⟩, fun i hi => ?_, fun i hi => ?_, ?_⟩
    · rw [up2_same] at h; exact absurd h (by decide)
    · rw [up2_nj (by decide)]; exact b113 i hi
    · rw [k0] at hi; exact absurd hi (Nat.not_lt_zero _)
    · rw [up2_at (by decide), h26]; exact ⟨by decide, by decide⟩
  · intro j hj
    obtain ⟨a1, a2, a3⟩ := o7 j hj
    have l1 := oH_lt2 hj
    have l2 := oH_lt c
    have l3 := oH_76 j
    have g : ∀ i, i < 4 → J (oH j + i) = I (oH j + i) := by
      intro i hi
      have hO : oH j = 76 ∨ (155 ≤ oH j) := by
        cases j with
        | zero => exact Or.inl rfl
        | succ j => right; show 155 ≤ 155 + 4 * j; omega
      funext k
      exact f.1 _ k (by omega) (by omega) (by omega) (by omega) (by omega) (by omega) (by omega) (by omega) (by omega) (by omega)
    have q := offM_j (A := up2 I 104 10 (j : Int)) (B := up2 J 104 10 (j : Int)) (j := j) (by omega) up2_same up2_same (by rw [up2_at (by decide), up2_at (by decide), f26]) (by rw [up2_nj (by decide), up2_nj (by decide)]; exact f.1 111 j (by decide) (by omega) (by omega) (by omega) (by omega) (by omega) (by omega) (by decide) (by omega) (by omega))
      (fun x k x1 x2 k1 k2 => by rw [up2_nj (by omega), up2_nj (by omega)]; exact f.1 x k (by omega) (by omega) (by omega) (by omega) (by omega) (by omega) (by omega) (by omega) (by omega) (by omega))
      (fun k hk => by rw [up2_nj (by decide), up2_nj (by decide)]; exact f.1 116 k (by decide) (by omega) (by omega) (by omega) (by omega) (by omega) (by omega) (by decide) (by omega) (by omega))
      (fun k k1 k2 => by
        rw [up2_nj (by decide)]
        have := o9 k (by omega)
        have : k / 10 = j := by omega
        omega)
      (fun i hi => by rw [up2_nj (by decide)]; exact b113 i hi) a2
    refine ⟨oC_c (g 0 (by decide)) (g 1 (by decide)) (g 2 (by decide)) (g 3 (by decide)) a1, q.1, ?_⟩
    rw [q.2, ← a3]
    exact offC_c (g 0 (by decide)) (g 1 (by decide)) (g 2 (by decide)) (g 3 (by decide))
  · intro i hi
    by_cases w : 10 * c ≤ i ∧ i < 10 * c + 10
    · have := (f.2 i w.1 w.2).1
      have : i / 10 = c := by omega
      omega
    · rw [f.1 115 i (by decide) (by omega) (by omega) (by omega) (by omega) (by omega) (by omega) (by decide) (by omega) (by omega)]
      exact o9 i hi
/-- behind both calls, a new office or none -/
theorem RC_fr {c c' : Nat} {I J : mI} {L : mL} (hcc : c ≤ c') (r : RC I L c) (f : frO c I J) (h4 : J 17 4 = J 104 10) (hb : -1 ≤ J 104 10 ∧ J 104 10 < (c' : Int)) (h74 : J 74 1 = 0) (h11 : J 104 11 = 0) (ho : J 104 26 = -1 → (∀ i, i < 60 → 0 ≤ J 113 i ∧ J 113 i ≤ 99) → (oC J 69 ∧ offC J 69 = (8, 18, 10, [])) → oI (up2 J 104 10 (-1)) → (∀ j, j < c → OFj J j) → (∀ i, i < 60 → J 115 i ≤ 100 * (((i / 10 : Nat) : Int) + 1)) → OF J c') : RC J L c' := by
  obtain ⟨r1, r2, r3, r4, r5, r6, r7, r8, r9⟩ := r
  have hc := r3.1
  have e := fr_e hc f
  have o76 := oH_76 c
  have f26 : J 104 26 = -1 := by rw [fld_e e (k := 26) (by decide +kernel) (by decide +kernel)]; exact r9
  obtain ⟨w1, w2, w3, w4, w5⟩ := OF_fr f f26 r3
  refine ⟨TW_fr hc hcc f h4 hb r1, KP_16 hcc e (f.1 16 2 (by decide) (by omega) (by omega) (by omega) (by omega) (by omega) (by omega) (by decide) (by omega) (by omega)) r2, ho f26 w1 w2 w3 w4 w5, ⟨by rw [h11]; decide, by rw [h74, h11], fun k hk => ?_⟩, AC_e e lF_n4 r5, TP_e e lF_n5 r6, ST_e e lF_n6 r7, SZ_e e lF_n7 r8, f26⟩
  rw [h11] at hk
  exact absurd hk (Nat.not_lt_zero _)
theorem p_office {n e c : Nat} {I : mI} {L : mL} {Q : mI → mL → Nat → Prop} (r : RC I L c) (q : ∀ I' c', RC I' L c' → Q I' L c') : Cm n (e + 23) 74 [vr (some 16)] (hs I L c) (fun r H => ri r (fun v => ∃ I' L' c', H = hs I' L' c' ∧ C2 n (e + 23) 144 [vr (some 104)] I' L' c' (fun r I L c => ri r (fun w => v = w ∧ Q I L c)))) := by
  have r' := r
  obtain ⟨r1, r2, r3, r4, r5, r6, r7, r8, r9⟩ := r'
  obtain ⟨o1, o2, o3, o4, o6, o7, o8, o9⟩ := r3
  by_cases hc : c = 6
  · refine of_A (d := e + 22) ?_
    rw [if_neg (by rw [o2]; omega), ri_vi]
    refine ⟨I, L, c, rfl, m_office (d := e + 16) ?_⟩
    rw [if_pos (by rw [o3]; omega), ri_vi]
    exact ⟨rfl, q _ _ r⟩
  · have hc6 : c < 6 := by omega
    obtain ⟨x1, x2, x3⟩ := r4
    have htn : I 104 11 = (((I 104 11).toNat : Nat) : Int) := by omega
    generalize htn' : (I 104 11).toNat = tn at htn x3
    generalize hsg : (fun i => if i < tn then I 110 i else -1 : Nat → Int) = sg
    have sg1 : ∀ i, i < tn → sg i = I 110 i := fun i hi => by rw [← hsg]; exact if_pos hi
    have ht : txt sg tn := ⟨by omega, fun i hi => by rw [sg1 i hi]; exact (x3 i hi).2, fun i hi => by rw [← hsg]; exact if_neg (by omega)⟩
    clear hsg
    have o76 := oH_76 c
    have olt := oH_lt c
    have hO : oH c = 76 ∨ 155 ≤ oH c := by
      cases c with
      | zero => exact Or.inl rfl
      | succ c => right; show 155 ≤ 155 + 4 * c; omega
    have hbd : ∀ k, 10 * c ≤ k → k < 10 * c + 10 → I 115 k ≤ ((100 * c + 100 : Nat) : Int) ∧ 0 ≤ I 113 k ∧ I 113 k ≤ 99 := by
      intro k k1 k2
      have a := o9 k (by omega)
      have b := o6.2.1 k (by omega)
      rw [up2_nj (show (113 : Nat) ≠ 104 by decide)] at b
      have : k / 10 = c := by omega
      omega
    refine x_office (e := e) ht hc6 o2 ⟨by rw [x2]; exact htn, fun i hi => by rw [sg1 i hi]; exact (x3 i hi).1⟩ r7.2 (o8 c (Nat.le_refl _) o1) ?_ ?_
    · intro J f h4 h5 h74 hB t
      have g : ∀ x k, ¬ (oH c ≤ x ∧ x ≤ oH c + 3) → x ≠ 155 + 4 * c → x ≠ 74 → x ≠ 17 → x ≠ 16 → J x k = I x k := fun x k q1 q2 q3 q4 q5 => f x k q1 q2 q3 (by omega) (by omega)
      rw [ri_vi]
      refine ⟨J, L, c, rfl, ?_⟩
      refine z_office (d := e + 16) hc6 ht ⟨by rw [g _ _ (by omega) (by omega) (by decide) (by decide) (by decide)]; exact htn, fun i hi => by rw [sg1 i hi, g _ _ (by omega) (by omega) (by decide) (by decide) (by decide)]⟩ (fun k hk => by rw [g _ _ (by omega) (by omega) (by decide) (by decide) (by decide)]; exact r7.2.2 k hk) (fun k k1 k2 => by rw [g _ _ (by omega) (by omega) (by decide) (by decide) (by decide), g _ _ (by omega) (by omega) (by decide) (by decide) (by decide)]; exact hbd k k1 k2) (by rw [g _ _ (by omega) (by omega) (by decide) (by decide) (by decide)]; exact o3) ?_ (fun _ _ _ t' => by rw [t] at t'; cases t')
      intro M l _
      rw [ri_vi]
      refine ⟨rfl, q _ _ ?_⟩
      generalize hN : up2 M 104 11 0 = N
      have n11 : N 104 11 = 0 := by rw [← hN, up2_same]
      have gN : ∀ x k, ¬ (x = 104 ∧ k = 11) → N x k = M x k := fun x k w => by rw [← hN, up2_if, if_neg w]
      have gM : ∀ x k, x ≠ 117 → ¬ (x = 116 ∧ 100 * c ≤ k) → ¬ (x = 104 ∧ (k = 11 ∨ k = 12 ∨ k = 13 ∨ k = 22 ∨ k = 23 ∨ k = 24)) → ¬ (112 ≤ x ∧ x ≤ 115 ∧ 10 * c ≤ k ∧ k < 10 * c + 10) → ¬ (x = 111 ∧ k = c) → N x k = J x k := fun x k q1 q2 q3 q4 q5 => by rw [gN _ _ (by omega), l.1 x k q1 q2 (by omega) (by omega) q5]
      have fr : frO c I N := ⟨fun x k q1 q2 q3 q4 q5 q6 q7 q8 q9 qA => by rw [gM x k q1 q2 (by omega) q4 q5, f x k q6 q7 q8 q9 qA], fun k k1 k2 => by rw [gN _ _ (by omega), gN _ _ (by omega)]; exact l.2 k k1 k2⟩
      have n4 : N 17 4 = I 17 4 := by rw [gM _ _ (by decide) (by omega) (by omega) (by omega) (by omega), h4]
      have n10 : N 104 10 = I 104 10 := by rw [gM _ _ (by decide) (by omega) (by omega) (by omega) (by omega), g _ _ (by omega) (by omega) (by decide) (by decide) (by decide)]
      refine RC_fr (Nat.le_refl c) r fr ?_ ?_ ?_ n11 ?_
      · rw [n4, n10]; exact r1.1.2.2.2
      · rw [n10]; exact r1.2.2.2.2.2.1
      · rw [gM _ _ (by decide) (by omega) (by omega) (by omega) (by omega), h74]
      · intro _ _ w2 w3 w4 w5
        refine ⟨o1, by rw [gM _ _ (by decide) (by omega) (by omega) (by omega) (by omega), h5]; exact o2, by rw [gM _ _ (by decide) (by omega) (by omega) (by omega) (by omega), g _ _ (by omega) (by omega) (by decide) (by decide) (by decide)]; exact o3, w2, w3, w4, ?_, w5⟩
        intro j j1 j2 k hk
        have l3 := oH_76 j
        have hOj : oH j = 76 ∨ 155 ≤ oH j := by
          cases j with
          | zero => exact Or.inl rfl
          | succ j => right; show 155 ≤ 155 + 4 * j; omega
        rw [gM _ _ (by omega) (by omega) (by omega) (by omega) (by omega)]
        by_cases w : j = c
        · rw [w]; exact hB k hk
        · have l1 := oH_lt2 (show c < j by omega)
          have l2 : 155 + 4 * c ≤ oH j := by
            obtain ⟨i, rfl⟩ : ∃ i, j = i + 1 := ⟨j - 1, by omega⟩
            show 155 + 4 * c ≤ 155 + 4 * i; omega
          rw [g _ _ (by omega) (by omega) (by omega) (by omega) (by omega)]
          exact o8 j j1 j2 k hk
    · intro J f h4 h5 h74 hB oo t
      have g : ∀ x k, ¬ (oH c ≤ x ∧ x ≤ oH c + 3) → x ≠ 155 + 4 * c → x ≠ 74 → x ≠ 17 → x ≠ 16 → J x k = I x k := fun x k q1 q2 q3 q4 q5 => f x k q1 q2 q3 (by omega) (by omega)
      rw [ri_vi]
      refine ⟨J, L, c + 1, rfl, ?_⟩
      refine z_office (d := e + 16) hc6 ht ⟨by rw [g _ _ (by omega) (by omega) (by decide) (by decide) (by decide)]; exact htn, fun i hi => by rw [sg1 i hi, g _ _ (by omega) (by omega) (by decide) (by decide) (by decide)]⟩ (fun k hk => by rw [g _ _ (by omega) (by omega) (by decide) (by decide) (by decide)]; exact r7.2.2 k hk) (fun k k1 k2 => by rw [g _ _ (by omega) (by omega) (by decide) (by decide) (by decide), g _ _ (by omega) (by omega) (by decide) (by decide) (by decide)]; exact hbd k k1 k2) (by rw [g _ _ (by omega) (by omega) (by decide) (by decide) (by decide)]; exact o3) (fun _ _ t' => by rw [t] at t'; cases t') ?_
      intro M l s _
      rw [ri_vi]
      refine ⟨rfl, q _ _ ?_⟩
      generalize hN : up2 (up2 (up2 M 104 11 0) 104 10 (c : Int)) 104 9 ((c : Int) + 1) = N
      have n9 : N 104 9 = (c : Int) + 1 := by rw [← hN, up2_same]
      have n10 : N 104 10 = (c : Int) := by rw [← hN, up2_at (by decide), up2_same]
      have n11 : N 104 11 = 0 := by rw [← hN, up2_at (by decide), up2_at (by decide), up2_same]
      have gN : ∀ x k, ¬ (x = 104 ∧ (k = 9 ∨ k = 10 ∨ k = 11)) → N x k = M x k := fun x k w => by rw [← hN, up2_if, if_neg (by omega), up2_if, if_neg (by omega), up2_if, if_neg (by omega)]
      clear hN
      have gM : ∀ x k, x ≠ 117 → ¬ (x = 116 ∧ 100 * c ≤ k) → ¬ (x = 104 ∧ (k = 9 ∨ k = 10 ∨ k = 11 ∨ k = 12 ∨ k = 13 ∨ k = 22 ∨ k = 23 ∨ k = 24)) → ¬ (112 ≤ x ∧ x ≤ 115 ∧ 10 * c ≤ k ∧ k < 10 * c + 10) → ¬ (x = 111 ∧ k = c) → N x k = J x k := fun x k q1 q2 q3 q4 q5 => by rw [gN _ _ (by omega), l.1 x k q1 q2 (by omega) (by omega) q5]
      have fr : frO c I N := ⟨fun x k q1 q2 q3 q4 q5 q6 q7 q8 q9 qA => by rw [gM x k q1 q2 q3 q4 q5, f x k q6 q7 q8 q9 qA], fun k k1 k2 => by rw [gN _ _ (by omega), gN _ _ (by omega)]; exact l.2 k k1 k2⟩
      have n4 : N 17 4 = (c : Int) := by rw [gM _ _ (by decide) (by omega) (by omega) (by omega) (by omega), h4]
      have gd := txt_gd ht 10 0 (Nat.zero_le _)
      have cN : ∀ x, x < 104 ∨ 155 ≤ x → N x = J x := fun x hx => funext fun k => gM x k (by omega) (by omega) (by omega) (by omega) (by omega)
      refine RC_fr (Nat.le_succ c) r fr (by rw [n4, n10]) (by rw [n10]; omega) ?_ n11 ?_
      · rw [gM _ _ (by decide) (by omega) (by omega) (by omega) (by omega), h74]
      · intro w0 w1 w2 w3 w4 w5
        refine ⟨by omega, by rw [gM _ _ (by decide) (by omega) (by omega) (by omega) (by omega), h5]; omega, by rw [n9]; omega, w2, w3, ?_, ?_, w5⟩
        · intro j hj
          by_cases w : j = c
          · rw [w]
            have a := off_cls oo gd.1 gd.2.1 (by omega) hB
            have b := off_ref (J := N) (f := c) (cs := (txtP sg tn 10 0).2.2) hc6 gd.1 gd.2.1 (by rw [gN _ _ (by omega)]; exact s.1) (fun j hj => ?_) (fun k k1 k2 => (fr.2 k k1 k2).1) w1 w0
            · refine ⟨oC_c (cN _ (by omega)) (cN _ (by omega)) (cN _ (by omega)) (cN _ (by omega)) a.1, b.1, ?_⟩
              rw [b.2, ← a.2]
              exact offC_c (cN _ (by omega)) (cN _ (by omega)) (cN _ (by omega)) (cN _ (by omega))
            · obtain ⟨b, hb⟩ := s.2 j hj
              refine ⟨b, ?_⟩
              obtain ⟨h1, h2, h3, h4⟩ := hb
              exact ⟨by rw [gN _ _ (by omega)]; exact h1, by rw [gN _ _ (by omega)]; exact h2, fun h => by rw [gN _ _ (by omega), gN _ _ (by omega)]; exact h3 h, fun i hi => by rw [gN _ _ (by omega)]; exact h4 i hi⟩
          · exact w4 j (by omega)
        · intro j j1 j2 k hk
          have l1 := oH_lt2 (show c < j by omega)
          have l2 : 155 + 4 * c ≤ oH j := by
            obtain ⟨i, rfl⟩ : ∃ i, j = i + 1 := ⟨j - 1, by omega⟩
            show 155 + 4 * c ≤ 155 + 4 * i; omega
          rw [cN _ (by omega), g _ _ (by omega) (by omega) (by omega) (by omega) (by omega)]
          exact o8 j (by omega) j2 k hk
