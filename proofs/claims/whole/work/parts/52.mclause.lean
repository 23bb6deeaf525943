/-! ===== the reference's reader: a clause, the text ===== -/
def cfr (cl b0 B : Nat) (I J : mI) : Prop := (∀ x k, x ≠ 117 → ¬ (x = 116 ∧ b0 ≤ k) → ¬ (x = 104 ∧ (k = 12 ∨ k = 13 ∨ k = 22 ∨ k = 23 ∨ k = 24)) → ¬ (k = cl ∧ 112 ≤ x ∧ x ≤ 115) → J x k = I x k) ∧ J 115 cl ≤ ((B + 100 : Nat) : Int) ∧ (0 ≤ J 113 cl ∧ J 113 cl ≤ 99)
def entM (I : mI) (cl b0 : Nat) (q : cl1) : Prop := I 112 cl = q.1 ∧ I 113 cl = q.2.1 ∧ (q.1 < 2 → I 114 cl = (b0 : Int) ∧ I 115 cl = ((b0 + (q.2.2.map trC).length : Nat) : Int)) ∧ ∀ i, i < (q.2.2.map trC).length → I 116 (b0 + i) = (q.2.2.map trC).getD i 0
theorem z_takesClause {n d cl tn b0 B a : Nat} {sg : Nat → Int} {I : mI} {L : mL} {c : Nat} {K : mK2} (hB : B ≤ 500 ∧ B ≤ b0) (hcl : cl < 60) (ht : txt sg tn) (hR : RdM I sg tn) (hs : ∀ k, k < 22 → I 118 k = letT.getD k 0) (hA : I 104 12 = (a : Int)) (hn : a ≤ tn) (h22 : I 104 22 = (b0 : Int)) (hb : b0 ≤ B + a) (h5 : I 115 cl ≤ ((B + 100 : Nat) : Int)) (h3 : 0 ≤ I 113 cl ∧ I 113 cl ≤ 99)
    (k : ∀ I', cfr cl b0 B I I' → I' 104 12 = (((clsP sg a).2.1 : Nat) : Int) → ((clsP sg a).1 = true → entM I' cl b0 (clsP sg a).2.2 ∧ I' 104 22 = ((b0 + (clsP sg a).2.2.2.2.length : Nat) : Int)) → K (some (vi (b2i (clsP sg a).1))) I' L c) : C2 n (d + 5) 142 [vr (some 104), vi (cl : Int)] I L c K := by
  have n100 := ht.1
  have hk := wk_k sg a
  have le1 := str_le ht (wkP sg a).2 a hn hk.2.2
  have le1 : a ≤ (wordP sg a).2 ∧ (wordP sg a).2 ≤ tn := le1
  have hcl' : (0 : Int) ≤ (cl : Int) ∧ (cl : Int) < 60 := by omega
  -- what stays, once the word is written
  have fr1 : ∀ J, (∀ x j, ¬ (x = 104 ∧ (j = 12 ∨ j = 13)) → ¬ (x = 112 ∧ j = cl) → J x j = I x j) → cfr cl b0 B I J := fun J e => ⟨fun x j q1 q2 q3 q4 => e x j (by omega) (by omega), by rw [e 115 cl (by omega) (by omega)]; exact h5, by rw [e 113 cl (by omega) (by omega)]; exact h3⟩
  refine m_takesClause ?_
  refine z_takesHead (d := d + 1) ht hR hs hA hn hcl ?_
  intro I1 x1 a1
  have e1 : ∀ x j, ¬ (x = 104 ∧ (j = 12 ∨ j = 13)) → ¬ (x = 112 ∧ j = cl) → I1 x j = I x j := fun x j q1 q2 => by rw [x1 x j q1, up2_if, if_neg q2]
  have w1 : I1 112 cl = (wkP sg a).1 := by rw [x1 112 cl (by omega), up2_same]
  have R1 : RdM I1 sg tn := ⟨by rw [e1 _ _ (by omega) (by omega)]; exact hR.1, fun i hi => by rw [e1 _ _ (by omega) (by omega)]; exact hR.2 i hi⟩
  rw [ri_vi]
  refine wf_b (C := True) (fun w => ?_) (fun w => ?_)
  · have ec : clsP sg a = (match numP sg (wordP sg a).2 with
      | none => (false, (wordP sg a).2, (0, 0, []))
      | some (v, b) => if 2 ≤ (wkP sg a).1 then (true, b, ((wkP sg a).1, v, []))
        else if sg b = 32 then ((eitP sg (prt sg 4) (b + 1)).1, (eitP sg (prt sg 4) (b + 1)).2.1, ((wkP sg a).1, v, (eitP sg (prt sg 4) (b + 1)).2.2)) else (false, b, (0, 0, []))) := if_pos w
    refine z_takesNumber (d := d + 2) ht R1 a1 (fun hnum => ?_) (fun v b I2 hnum x2 a2 d2 => ?_)
    · rw [hnum] at ec
      rw [ec] at k
      rw [ri_vi, if_pos rfl]
      exact k I1 (fr1 I1 e1) a1 (fun e => by cases e)
    · have nk := num_ok ht hnum
      rw [hnum] at ec
      dsimp only at ec
      rw [ri_vi, if_neg (by decide), d2, Int.toNat_natCast]
      have e2 : ∀ x j, ¬ (x = 104 ∧ (j = 12 ∨ j = 13)) → ¬ (x = 112 ∧ j = cl) → I2 x j = I x j := fun x j q1 q2 => by rw [x2 x j q1]; exact e1 x j q1 q2
      have w2 : I2 112 cl = (wkP sg a).1 := by rw [x2 112 cl (by omega)]; exact w1
      generalize hJ : up2 I2 113 cl v = J
      have ej : ∀ x j, ¬ (x = 104 ∧ (j = 12 ∨ j = 13)) → ¬ (x = 112 ∧ j = cl) → ¬ (x = 113 ∧ j = cl) → J x j = I x j := fun x j q1 q2 q3 => by rw [← hJ, up2_if, if_neg q3]; exact e2 x j q1 q2
      have j112 : J 112 cl = (wkP sg a).1 := by rw [← hJ, up2_nj (by decide)]; exact w2
      have j113 : J 113 cl = v := by rw [← hJ, up2_same]
      have jA : J 104 12 = (b : Int) := by rw [← hJ, up2_nj (by decide)]; exact a2
      clear hJ
      have jf : cfr cl b0 B I J := ⟨fun x j q1 q2 q3 q4 => ej x j (by omega) (by omega) (by omega), by rw [ej 115 cl (by omega) (by omega) (by omega)]; exact h5, by rw [j113]; omega⟩
      have jR : RdM J sg tn := ⟨by rw [ej _ _ (by omega) (by omega) (by omega)]; exact hR.1, fun i hi => by rw [ej _ _ (by omega) (by omega) (by omega)]; exact hR.2 i hi⟩
      have j22 : J 104 22 = (b0 : Int) := by rw [ej _ _ (by omega) (by omega) (by omega)]; exact h22
      refine ⟨hcl', hcl', ?_⟩
      rw [j112]
      by_cases k2 : 2 ≤ (wkP sg a).1
      · rw [if_pos k2] at ec
        rw [ec] at k
        rw [if_neg (by omega)]
        exact k J jf jA (fun _ => ⟨⟨j112, j113, fun z => absurd z (by show ¬ (wkP sg a).1 < 2; omega), fun i hi => absurd hi (Nat.not_lt_zero _)⟩, j22⟩)
      · rw [if_neg k2] at ec
        rw [if_pos (by omega)]
        refine z_takes (d := d + 3) ht jR jA (by decide) (fun q => ?_) (fun q => ?_)
        · rw [if_neg q] at ec
          rw [ec] at k
          rw [ri_vi, if_pos rfl]
          exact k J jf jA (fun e => by cases e)
        · rw [if_pos q] at ec
          rw [ec] at k
          clear ec
          have lb := txt_lt ht (show 0 ≤ sg b by omega)
          have ok : okR tn (b + 1) (eitP sg (prt sg 4) (b + 1)) := seq_ok (o := 124) (cd := -3) ht (by decide) (by decide) (fun a ha => seq_ok (o := 38) (cd := -2) ht (by decide) (by decide) (prt_ok ht 4) a ha) (b + 1) lb
          have f0 : afr J (up2 J 104 12 ((b + 1 : Nat) : Int)) := afr_up
          have back : ∀ I', pfr cl b0 B (up2 (up2 J 104 12 ((b + 1 : Nat) : Int)) 114 cl (b0 : Int)) I' → cfr cl b0 B I I' ∧ I' 112 cl = (wkP sg a).1 ∧ I' 113 cl = v ∧ I' 114 cl = (b0 : Int) := by
            intro I' h
            have g : ∀ x j, x ≠ 117 → ¬ (x = 116 ∧ b0 ≤ j) → ¬ (x = 104 ∧ (j = 12 ∨ j = 13 ∨ j = 22 ∨ j = 23 ∨ j = 24)) → ¬ (x = 115 ∧ j = cl) → ¬ (x = 114 ∧ j = cl) → I' x j = J x j := fun x j q1 q2 q3 q4 q5 => by
              rw [h.1 x j q1 q2 q3 q4, up2_if, if_neg q5]
              exact f0 x j (by omega)
            have g112 : I' 112 cl = (wkP sg a).1 := by rw [g 112 cl (by omega) (by omega) (by omega) (by omega) (by omega)]; exact j112
            have g113 : I' 113 cl = v := by rw [g 113 cl (by omega) (by omega) (by omega) (by omega) (by omega)]; exact j113
            refine ⟨⟨fun x j q1 q2 q3 q4 => ?_, h.2, by rw [g113]; omega⟩, g112, g113, ?_⟩
            · rw [g x j q1 q2 q3 (by omega) (by omega)]; exact ej x j (by omega) (by omega) (by omega)
            · rw [h.1 114 cl (by omega) (by omega) (by omega) (by omega), up2_same]
          rw [ri_vi, if_neg (by decide)]
          refine z_takesE (d := d) (B := B) (b0 := b0) hB hcl ht (afr_R f0 jR) up2_same lb (by rw [f0 104 22 (by omega)]; exact j22) (by omega) (by rw [f0 115 cl (by omega), ej 115 cl (by omega) (by omega) (by omega)]; exact h5) (fun t I' f' a' => ?_) (fun t I' f' a' C' e' => ?_)
          · obtain ⟨b1, _⟩ := back I' f'
            rw [ri_vi, if_pos rfl]
            have kk := k I' b1 a' (fun e => by rw [t] at e; cases e)
            rw [t] at kk
            exact kk
          · obtain ⟨b1, b2, b3, b4⟩ := back I' f'
            rw [ri_vi, if_neg (by decide)]
            have kk := k I' b1 a' (fun e => ⟨⟨b2, b3, fun _ => ⟨b4, e'⟩, C'.2⟩, by rw [C'.1, List.length_map]⟩)
            rw [t] at kk
            exact kk
  · have ec : clsP sg a = (false, (wordP sg a).2, (0, 0, [])) := if_neg (by rw [w]; decide)
    rw [ec] at k
    exact k I1 (fr1 I1 e1) a1 (fun e => by cases e)
/-- what reading on from clause i, code b0 may change -/
def lfr (f i b0 : Nat) (I J : mI) : Prop := (∀ x k, x ≠ 117 → ¬ (x = 116 ∧ b0 ≤ k) → ¬ (x = 104 ∧ (k = 12 ∨ k = 13 ∨ k = 22 ∨ k = 23 ∨ k = 24)) → ¬ (112 ≤ x ∧ x ≤ 115 ∧ 10 * f + i ≤ k ∧ k < 10 * f + 10) → ¬ (x = 111 ∧ k = f) → J x k = I x k) ∧ ∀ k, 10 * f ≤ k → k < 10 * f + 10 → J 115 k ≤ ((100 * f + 100 : Nat) : Int) ∧ 0 ≤ J 113 k ∧ J 113 k ≤ 99
theorem lfr_c {f i b0 : Nat} {I J : mI} (hi : i < 10) (hb : ∀ k, 10 * f ≤ k → k < 10 * f + 10 → I 115 k ≤ ((100 * f + 100 : Nat) : Int) ∧ 0 ≤ I 113 k ∧ I 113 k ≤ 99) (h : cfr (10 * f + i) b0 (100 * f) I J) : lfr f i b0 I J := by
  refine ⟨fun x k q1 q2 q3 q4 _ => h.1 x k q1 q2 q3 (by omega), fun k k1 k2 => ?_⟩
  by_cases e : k = 10 * f + i
  · rw [e]; exact ⟨h.2.1, h.2.2⟩
  · rw [h.1 115 k (by omega) (by omega) (by omega) (by omega), h.1 113 k (by omega) (by omega) (by omega) (by omega)]; exact hb k k1 k2
theorem lfr_u {f i b0 : Nat} {I J : mI} {v : Int} (h : lfr f i b0 I J) : lfr f i b0 I (up2 J 111 f v) := by
  refine ⟨fun x k q1 q2 q3 q4 q5 => ?_, fun k k1 k2 => ?_⟩
  · rw [up2_if, if_neg q5]; exact h.1 x k q1 q2 q3 q4 q5
  · rw [up2_nj (by decide), up2_nj (by decide)]; exact h.2 k k1 k2
theorem lfr_a {f i b0 : Nat} {I J K : mI} (h : lfr f i b0 I J) (a : afr J K) : lfr f i b0 I K := by
  refine ⟨fun x k q1 q2 q3 q4 q5 => ?_, fun k k1 k2 => ?_⟩
  · rw [a x k (by omega)]; exact h.1 x k q1 q2 q3 q4 q5
  · rw [a 115 k (by omega), a 113 k (by omega)]; exact h.2 k k1 k2
theorem z_goesText_l {n d tn f : Nat} {sg : Nat → Int} {L : mL} {c : Nat} {K : mK2} (hf : f < 6) (ht : txt sg tn) : ∀ (k i a b0 : Nat) (I : mI), i + k + 1 = 10 → RdM I sg tn → (∀ k, k < 22 → I 118 k = letT.getD k 0) → I 104 12 = (a : Int) → a ≤ tn → I 104 22 = (b0 : Int) → b0 ≤ 100 * f + a → 100 * f ≤ b0 → (∀ k, 10 * f ≤ k → k < 10 * f + 10 → I 115 k ≤ ((100 * f + 100 : Nat) : Int) ∧ 0 ≤ I 113 k ∧ I 113 k ≤ 99) →
    (∀ I', lfr f i b0 I I' → I' 104 12 = (((txtP sg tn (k + 1) a).2.1 : Nat) : Int) → ((txtP sg tn (k + 1) a).1 = true → I' 111 f = ((i + (txtP sg tn (k + 1) a).2.2.length : Nat) : Int) ∧ ∀ j, j < (txtP sg tn (k + 1) a).2.2.length → ∃ b, entM I' (10 * f + (i + j)) b ((txtP sg tn (k + 1) a).2.2.getD j (0, 0, []))) → K (some (vi (b2i (txtP sg tn (k + 1) a).1))) I' L c) →
    W2 n (d + 6) 143 15 [some (vr (some 104)), some (vi (f : Int)), some (vi (i : Int))] [] I L c K := by
  refine nat_step (fun k ih => ?_)
  intro i a b0 I hik hR hs hA hn h22 hb hb' hbd kk
  have n100 := ht.1
  have ck := cls_ok ht hn
  have e1 : txtP sg tn (k + 1) a = if (clsP sg a).1 = true then (if tn ≤ (clsP sg a).2.1 then (true, (clsP sg a).2.1, [(clsP sg a).2.2]) else if k = 0 ∨ sg (clsP sg a).2.1 ≠ 59 then (false, (clsP sg a).2.1, [(clsP sg a).2.2]) else ((txtP sg tn k ((clsP sg a).2.1 + 1)).1, (txtP sg tn k ((clsP sg a).2.1 + 1)).2.1, (clsP sg a).2.2 :: (txtP sg tn k ((clsP sg a).2.1 + 1)).2.2)) else (false, (clsP sg a).2.1, []) := rfl
  rw [e1] at kk
  clear e1
  have bi := hbd (10 * f + i) (by omega) (by omega)
  refine m_goesText_15 ?_
  rw [wri (x := 10 * (f : Int)) (by omega), wri (x := 10 * (f : Int) + (i : Int)) (by omega), show (10 : Int) * (f : Int) + (i : Int) = ((10 * f + i : Nat) : Int) by omega, Int.toNat_natCast, wr_nat (show i < 1000000 by omega)]
  refine z_takesClause (B := 100 * f) (b0 := b0) (cl := 10 * f + i) (by omega) (by omega) ht hR hs hA hn h22 hb bi.1 bi.2 ?_
  intro I1 c1 a1 s1
  have l1 := lfr_c (by omega) hbd c1
  rw [ri_vi]
  refine wf_b (C := True) (fun t => ?_) (fun t => ?_)
  · rw [if_pos t] at kk
    obtain ⟨en, e22⟩ := s1 t
    refine ⟨by omega, ?_⟩
    generalize hJ : up2 I1 111 f ((i + 1 : Nat) : Int) = J
    have jn : ∀ x j, x ≠ 111 → J x j = I1 x j := fun x j q => by rw [← hJ]; exact up2_nj q
    have j111 : J 111 f = ((i + 1 : Nat) : Int) := by rw [← hJ, up2_same]
    have jl : lfr f i b0 I J := by rw [← hJ]; exact lfr_u l1
    clear hJ
    have jA : J 104 12 = (((clsP sg a).2.1 : Nat) : Int) := by rw [jn _ _ (by decide)]; exact a1
    have jR : RdM J sg tn := ⟨by rw [jl.1 _ _ (by omega) (by omega) (by omega) (by omega) (by omega)]; exact hR.1, fun j hj => by rw [jl.1 _ _ (by omega) (by omega) (by omega) (by omega) (by omega)]; exact hR.2 j hj⟩
    have jen : entM J (10 * f + i) b0 (clsP sg a).2.2 := by
      unfold entM
      rw [jn _ _ (by decide), jn _ _ (by decide), jn _ _ (by decide), jn _ _ (by decide)]
      exact ⟨en.1, en.2.1, en.2.2.1, fun j hj => by rw [jn _ _ (by decide)]; exact en.2.2.2 j hj⟩
    rw [jA, jR.1]
    by_cases w : tn ≤ (clsP sg a).2.1
    · rw [if_pos w] at kk
      rw [if_pos (by omega)]
      refine kk J jl jA (fun _ => ⟨j111, fun j hj => ?_⟩)
      have hj : j < 1 := hj
      have : j = 0 := by omega
      subst this
      exact ⟨b0, jen⟩
    · rw [if_neg w] at kk
      rw [if_neg (by omega)]
      cases k with
      | zero =>
        rw [if_pos (Or.inl rfl)] at kk
        rw [if_pos (by omega)]
        exact kk J jl jA (fun e => by cases e)
      | succ k =>
        have ih := ih k rfl
        rw [if_neg (by omega)]
        refine z_takes (d := d + 4) ht jR jA (by decide) (fun q => ?_) (fun q => ?_)
        · rw [if_pos (Or.inr q)] at kk
          rw [ri_vi, if_pos rfl]
          exact kk J jl jA (fun e => by cases e)
        · rw [if_neg (fun x => by rcases x with x | x; cases x; exact x q)] at kk
          have lp := txt_lt ht (show 0 ≤ sg (clsP sg a).2.1 by omega)
          have l2 : lfr f i b0 I (up2 J 104 12 (((clsP sg a).2.1 + 1 : Nat) : Int)) := lfr_a jl afr_up
          have g : ∀ x j, ¬ (x = 104 ∧ j = 12) → up2 J 104 12 (((clsP sg a).2.1 + 1 : Nat) : Int) x j = J x j := fun x j q => by rw [up2_if, if_neg q]
          rw [ri_vi, if_neg (by decide)]
          generalize hJ2 : up2 J 104 12 (((clsP sg a).2.1 + 1 : Nat) : Int) = J2 at *
          have g12 : J2 104 12 = (((clsP sg a).2.1 + 1 : Nat) : Int) := by rw [← hJ2, up2_same]
          clear hJ2
          refine ih (i + 1) ((clsP sg a).2.1 + 1) (b0 + (clsP sg a).2.2.2.2.length) J2 (by omega) ⟨by rw [g _ _ (by omega)]; exact jR.1, fun j hj => by rw [g _ _ (by omega)]; exact jR.2 j hj⟩ (fun j hj => by rw [l2.1 _ _ (by omega) (by omega) (by omega) (by omega) (by omega)]; exact hs j hj) g12 lp (by rw [g _ _ (by omega), jn _ _ (by decide)]; exact e22) (by omega) (by omega) l2.2 ?_
          intro I' l' a' s'
          refine kk I' ⟨fun x j q1 q2 q3 q4 q5 => ?_, l'.2⟩ a' (fun t' => ?_)
          · rw [l'.1 x j q1 (by omega) q3 (by omega) q5]; exact l2.1 x j q1 q2 q3 q4 q5
          · obtain ⟨s1, s2⟩ := s' t'
            refine ⟨by rw [s1]; show ((i + 1 + _ : Nat) : Int) = ((i + (_ + 1) : Nat) : Int); omega, fun j hj => ?_⟩
            cases j with
            | zero =>
              refine ⟨b0, ?_⟩
              have fx : ∀ x, 112 ≤ x → x ≤ 115 → I' x (10 * f + i) = J x (10 * f + i) := fun x x1 x2 => by
                rw [l'.1 x (10 * f + i) (by omega) (by omega) (by omega) (by omega) (by omega)]
                exact g x _ (by omega)
              show entM I' (10 * f + (i + 0)) b0 (clsP sg a).2.2
              rw [Nat.add_zero]
              obtain ⟨n1, n2, n3, n4⟩ := jen
              unfold entM
              rw [fx 112 (by omega) (by omega), fx 113 (by omega) (by omega), fx 114 (by omega) (by omega), fx 115 (by omega) (by omega)]
              refine ⟨n1, n2, n3, fun j hj => ?_⟩
              have hj' := hj
              rw [List.length_map] at hj'
              rw [l'.1 116 (b0 + j) (by omega) (by omega) (by omega) (by omega) (by omega), g _ _ (by omega)]
              exact n4 j hj
            | succ j =>
              have hj : j + 1 < (txtP sg tn (k + 1) ((clsP sg a).2.1 + 1)).2.2.length + 1 := hj
              obtain ⟨b, hb⟩ := s2 j (by omega)
              refine ⟨b, ?_⟩
              rw [show i + (j + 1) = i + 1 + j by omega]
              exact hb
  · rw [if_neg (by rw [t]; decide)] at kk
    exact kk I1 l1 a1 (fun e => by cases e)
theorem z_goesText {n d tn f : Nat} {sg : Nat → Int} {I : mI} {L : mL} {c : Nat} {K : mK2} (hf : f < 6) (ht : txt sg tn) (hR : RdM I sg tn) (hs : ∀ k, k < 22 → I 118 k = letT.getD k 0) (hbd : ∀ k, 10 * f ≤ k → k < 10 * f + 10 → I 115 k ≤ ((100 * f + 100 : Nat) : Int) ∧ 0 ≤ I 113 k ∧ I 113 k ≤ 99)
    (k : ∀ I', lfr f 0 (100 * f) I I' → I' 104 12 = (((txtP sg tn 10 0).2.1 : Nat) : Int) → ((txtP sg tn 10 0).1 = true → I' 111 f = (((txtP sg tn 10 0).2.2.length : Nat) : Int) ∧ ∀ j, j < (txtP sg tn 10 0).2.2.length → ∃ b, entM I' (10 * f + j) b ((txtP sg tn 10 0).2.2.getD j (0, 0, []))) → K (some (vi (b2i (txtP sg tn 10 0).1))) I' L c) : C2 n (d + 6) 143 [vr (some 104), vi (f : Int)] I L c K := by
  refine m_goesText ?_
  rw [wri (x := 100 * (f : Int)) (by omega), show (100 : Int) * (f : Int) = ((100 * f : Nat) : Int) by omega]
  generalize hJ : up2 (up2 I 104 12 0) 104 22 ((100 * f : Nat) : Int) = J
  have g : ∀ x j, ¬ (x = 104 ∧ (j = 12 ∨ j = 22)) → J x j = I x j := fun x j q => by rw [← hJ, up2_if, if_neg (by omega), up2_if, if_neg (by omega)]
  have g12 : J 104 12 = ((0 : Nat) : Int) := by rw [← hJ, up2_at (by decide), up2_same]; rfl
  have g22 : J 104 22 = ((100 * f : Nat) : Int) := by rw [← hJ, up2_same]
  clear hJ
  refine z_goesText_l hf ht 9 0 0 (100 * f) J (by omega) ⟨by rw [g _ _ (by omega)]; exact hR.1, fun j hj => by rw [g _ _ (by omega)]; exact hR.2 j hj⟩ (fun j hj => by rw [g _ _ (by omega)]; exact hs j hj) g12 (Nat.zero_le _) g22 (by omega) (Nat.le_refl _) (fun j j1 j2 => by rw [g _ _ (by omega), g _ _ (by omega)]; exact hbd j j1 j2) ?_
  intro I' l' a' s'
  refine k I' ⟨fun x j q1 q2 q3 q4 q5 => ?_, l'.2⟩ a' (fun t => ?_)
  · rw [l'.1 x j q1 q2 q3 (by omega) q5]; exact g x j (by omega)
  · obtain ⟨s1, s2⟩ := s' t
    refine ⟨by rw [s1, Nat.zero_add], fun j hj => ?_⟩
    obtain ⟨b, hb⟩ := s2 j hj
    rw [Nat.zero_add] at hb
    exact ⟨b, hb⟩
