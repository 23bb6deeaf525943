/-! ===== the text as a row of clauses; the class's office out of it ===== -/
theorem nat_step {P : Nat → Prop} (h : ∀ k, (∀ j, k = j + 1 → P j) → P k) : ∀ k, P k
  | 0 => h 0 fun j e => by cases e
  | k + 1 => h (k + 1) fun j e => by cases e; exact nat_step h k
theorem z00 : (0 : Int) ≤ 0 := by decide
theorem z04 : (0 : Int) ≤ 4 := by decide
theorem z099 : (0 : Int) ≤ 99 := by decide
theorem cls_ok {sg : Nat → Int} {tn a : Nat} (h : txt sg tn) (ha : a ≤ tn) : a ≤ (clsP sg a).2.1 ∧ (clsP sg a).2.1 ≤ tn ∧ a + (clsP sg a).2.2.2.2.length ≤ (clsP sg a).2.1 ∧ ((clsP sg a).1 = true → a < (clsP sg a).2.1) ∧ (0 ≤ (clsP sg a).2.2.1 ∧ (clsP sg a).2.2.1 ≤ 4) ∧ (0 ≤ (clsP sg a).2.2.2.1 ∧ (clsP sg a).2.2.2.1 ≤ 99) ∧ ∀ z, z ∈ (clsP sg a).2.2.2.2 → -3 ≤ z ∧ z < 1800 := by
  have hk := wk_k sg a
  have l1 := str_le h (wkP sg a).2 a ha hk.2.2
  have l1 : a ≤ (wordP sg a).2 ∧ (wordP sg a).2 ≤ tn := l1
  unfold clsP
  by_cases w : (wordP sg a).1 = true
  · rw [if_pos w]
    cases e : numP sg (wordP sg a).2 with
    | none => exact ⟨l1.1, l1.2, (by show a + 0 ≤ (wordP sg a).2; omega), fun x => (by cases x), ⟨z00, z04⟩, ⟨z00, z099⟩, fun z hz => (by cases hz)⟩
    | some q =>
      obtain ⟨v, b⟩ := q
      have nk := num_ok h e
      dsimp only
      by_cases k2 : 2 ≤ (wkP sg a).1
      · rw [if_pos k2]
        exact ⟨(by show a ≤ b; omega), nk.2.1, (by show a + 0 ≤ b; omega), fun _ => (by show a < b; omega), ⟨hk.1, hk.2.1⟩, ⟨nk.2.2.1, nk.2.2.2.1⟩, fun z hz => (by cases hz)⟩
      · rw [if_neg k2]
        by_cases q : sg b = 32
        · rw [if_pos q]
          have lb := txt_lt h (show 0 ≤ sg b by omega)
          have ok : okR tn (b + 1) (eitP sg (prt sg 4) (b + 1)) := seq_ok (o := 124) (cd := -3) h (by decide) (by decide) (fun a ha => seq_ok (o := 38) (cd := -2) h (by decide) (by decide) (prt_ok h 4) a ha) (b + 1) lb
          obtain ⟨o1, o2, o3, o4, o5⟩ := ok
          exact ⟨(by show a ≤ (eitP sg (prt sg 4) (b + 1)).2.1; omega), o3, (by show a + (eitP sg (prt sg 4) (b + 1)).2.2.length ≤ (eitP sg (prt sg 4) (b + 1)).2.1; omega), fun _ => (by show a < (eitP sg (prt sg 4) (b + 1)).2.1; omega), ⟨hk.1, hk.2.1⟩, ⟨nk.2.2.1, nk.2.2.2.1⟩, o5⟩
        · rw [if_neg q]
          exact ⟨(by show a ≤ b; omega), nk.2.1, (by show a + 0 ≤ b; omega), fun x => (by cases x), ⟨z00, z04⟩, ⟨z00, z099⟩, fun z hz => (by cases hz)⟩
  · rw [if_neg w]
    exact ⟨l1.1, l1.2, (by show a + 0 ≤ (wordP sg a).2; omega), fun x => (by cases x), ⟨z00, z04⟩, ⟨z00, z099⟩, fun z hz => (by cases hz)⟩
/-- a text of at most k clauses from a on: did it go, where, the clauses that went -/
def txtP (sg : Nat → Int) (tn : Nat) : Nat → Nat → Bool × Nat × List cl1
  | 0, a => (false, a, [])
  | k + 1, a => if (clsP sg a).1 = true then (if tn ≤ (clsP sg a).2.1 then (true, (clsP sg a).2.1, [(clsP sg a).2.2]) else if k = 0 ∨ sg (clsP sg a).2.1 ≠ 59 then (false, (clsP sg a).2.1, [(clsP sg a).2.2]) else ((txtP sg tn k ((clsP sg a).2.1 + 1)).1, (txtP sg tn k ((clsP sg a).2.1 + 1)).2.1, (clsP sg a).2.2 :: (txtP sg tn k ((clsP sg a).2.1 + 1)).2.2)) else (false, (clsP sg a).2.1, [])
/-- an office being made: taste, light, rate, wishes (weight, where its codes end), codes -/
abbrev oS : Type := Int × Int × Int × List (Int × Nat) × List Int
def acc1 (s : oS) (q : cl1) : oS := (if q.1 = 2 then q.2.1 else s.1, if q.1 = 3 then (if 23 < q.2.1 then 23 else q.2.1) else s.2.1, if q.1 = 4 then q.2.1 else s.2.2.1, if q.1 < 2 then s.2.2.2.1 ++ [(if q.1 = 0 then q.2.1 else -q.2.1, (s.2.2.2.2 ++ q.2.2).length)] else s.2.2.2.1, s.2.2.2.2 ++ q.2.2)
def OfI (I : mI) (h : Nat) (s : oS) : Prop := I h 0 = s.1 ∧ I h 1 = s.2.1 ∧ I h 2 = s.2.2.1 ∧ MdC I h s.2.2.2.2 ∧ wsC I h s.2.2.2.1
theorem acc_eff {h : Nat} {s : oS} {I J : mI} {q : cl1} (o : OfI I h s) (e : effC h s.2.2.2.1 s.2.2.2.2 I J q) : OfI J h (acc1 s q) := by
  obtain ⟨o0, o1, o2, _, _⟩ := o
  obtain ⟨e0, e1, e2, e3, e4⟩ := e
  refine ⟨?_, ?_, ?_, e3, e4⟩
  · rw [e0, o0]; rfl
  · rw [e1, o1]; rfl
  · rw [e2, o2]; rfl
theorem acc_ws (s : oS) (q : cl1) : (acc1 s q).2.2.2.1.length ≤ s.2.2.2.1.length + 1 := by
  show (if q.1 < 2 then s.2.2.2.1 ++ [(if q.1 = 0 then q.2.1 else -q.2.1, (s.2.2.2.2 ++ q.2.2).length)] else s.2.2.2.1).length ≤ _
  split
  · rw [List.length_append, List.length_singleton]; exact Nat.le_refl _
  · omega
theorem acc_l (s : oS) (q : cl1) : (acc1 s q).2.2.2.2.length = s.2.2.2.2.length + q.2.2.length := by
  show (s.2.2.2.2 ++ q.2.2).length = _
  rw [List.length_append]
theorem RdT_z {h n : Nat} {sg : Nat → Int} {I J : mI} (hh : 76 ≤ h) (e : rdz h I J) (r : RdT I sg n) : RdT J sg n := by
  refine ⟨?_, fun i hi => ?_⟩
  · rw [e 74 1 (by omega) (by omega)]; exact r.1
  · rw [e 75 i (by omega) (by omega)]; exact r.2 i hi
theorem strC_z {c : Nat} {I J : mI} (e : rdz (oH c) I J) (h : strC I) : strC J := by
  have hr := oH_r c
  obtain ⟨h1, h2⟩ := h
  refine ⟨fun j hj => ?_, fun k hk => ?_⟩
  · have := h1 j hj
    rw [e (3 + j) 0 (by omega) (by omega)]
    refine ⟨this.1, fun k hk => ?_⟩
    rw [e (9 + j) k (by omega) (by omega)]
    exact this.2 k hk
  · rw [e 118 k (by omega) (by omega)]; exact h2 k hk
theorem rdz_2 {h : Nat} {I J : mI} (e : rd2 I J) : rdz h I J := fun a k _ r => e a k r
theorem x_readsOffice_l {n tn e : Nat} {sg : Nat → Int} {c : Nat} {L : mL} {K : mK2} (ht : txt sg tn) (hc : c ≤ 6) : ∀ (k a : Nat) (s : oS) (I : mI), k < 10 → RdT I sg tn → strC I → AtC I sg a → a ≤ tn → OfI I (oH c) s → BdC I (oH c) → s.2.2.2.2.length ≤ a → s.2.2.2.1.length + k < 10 →
    (∀ I', rdz (oH c) I I' → I' 74 2 = (((txtP sg tn (k + 1) a).2.1 : Nat) : Int) → BdC I' (oH c) → ((txtP sg tn (k + 1) a).1 = true → OfI I' (oH c) ((txtP sg tn (k + 1) a).2.2.foldl acc1 s)) → K (some (vi (b2i (txtP sg tn (k + 1) a).1))) I' L c) →
    C2 n (e + 21) 49 [vr (some 74)] I L c (fun r6 I7 L8 c9 => ri r6 (fun x10 => if x10 = 0 then (K (some (vi 0)) I7 L8 c9) else (if (I7 74 2) < (I7 74 1) then (W2 n (e + 22) 45 14 [some (vr (some 74)), some (vi (wr (9 - (k : Int) + 1)))] [] I7 L8 c9 K) else (K (some (vi 1)) I7 L8 c9)))) := by
  have hh := oH_76 c
  refine nat_step (fun k ih => ?_)
  intro a s I hk hT hs hA hn ho hB hl hw kk
  have ck := cls_ok ht hn
  have e1 : txtP sg tn (k + 1) a = if (clsP sg a).1 = true then (if tn ≤ (clsP sg a).2.1 then (true, (clsP sg a).2.1, [(clsP sg a).2.2]) else if k = 0 ∨ sg (clsP sg a).2.1 ≠ 59 then (false, (clsP sg a).2.1, [(clsP sg a).2.2]) else ((txtP sg tn k ((clsP sg a).2.1 + 1)).1, (txtP sg tn k ((clsP sg a).2.1 + 1)).2.1, (clsP sg a).2.2 :: (txtP sg tn k ((clsP sg a).2.1 + 1)).2.2)) else (false, (clsP sg a).2.1, []) := rfl
  rw [e1] at kk
  clear e1
  refine x_readsClause ht hc hT hs hA hn ho.2.2.2.1 hB hl ho.2.2.2.2 (by omega) ?_
  intro I1 z1 a1 b1 f1
  have T1 := RdT_z hh z1 hT
  rw [ri_vi]
  by_cases t : (clsP sg a).1 = true
  · rw [if_pos t] at kk
    rw [t, if_neg (by decide)]
    have f := acc_eff ho (f1 t)
    rw [a1.1, T1.1]
    by_cases w : tn ≤ (clsP sg a).2.1
    · rw [if_pos w] at kk
      rw [if_neg (by omega)]
      exact kk I1 z1 a1.1 b1 (fun _ => f)
    · rw [if_neg w] at kk
      rw [if_pos (by omega), wri (x := 9 - (k : Int) + 1) (by omega)]
      refine Re_readsOffice_14 (d := e + 17) ?_
      cases k with
      | zero =>
        rw [if_pos (Or.inl rfl)] at kk
        rw [if_neg (by omega)]
        exact kk I1 z1 a1.1 b1 (fun x => (by cases x))
      | succ k =>
        have ih := ih k rfl
        rw [if_pos (by omega), if_pos (by omega)]
        refine x_takes (d := e + 20) ht T1 a1 ck.2.1 (fun q => ?_) (fun q I2 x2 a2 => ?_)
        · rw [if_pos (Or.inr q)] at kk
          rw [ri_vi, if_pos rfl]
          exact kk I1 z1 a1.1 b1 (fun x => (by cases x))
        · rw [if_neg (fun x => by rcases x with x | x; cases x; exact x q)] at kk
          rw [ri_vi, if_neg (by decide), show (9 : Int) - ((k + 1 : Nat) : Int) + 1 = 9 - (k : Int) by omega]
          have z2 : rdz (oH c) I I2 := rdz_tr z1 (rdz_2 x2)
          have fl := acc_l s (clsP sg a).2.2
          have fw := acc_ws s (clsP sg a).2.2
          refine ih ((clsP sg a).2.1 + 1) (acc1 s (clsP sg a).2.2) I2 (by omega) (RdT_2 x2 T1) (strC_z z2 hs) a2 (by omega) ?_ (BdC_2 hh x2 b1) (by omega) (by omega) ?_
          · obtain ⟨f0, f1, f2, f3, f4⟩ := f
            refine ⟨by rw [x2 _ 0 (by omega)]; exact f0, by rw [x2 _ 1 (by omega)]; exact f1, by rw [x2 _ 2 (by omega)]; exact f2, MdC_2 hh x2 f3, wsC_m (x2 _ 5 (by omega)) (fun i => x2 _ i (by omega)) (fun i => x2 _ i (by omega)) f4⟩
          · intro I3 z3 a3 b3 f3
            exact kk I3 (rdz_tr z2 z3) a3 b3 f3
  · rw [if_neg t] at kk
    have tf : (clsP sg a).1 = false := by simpa using t
    rw [tf, if_pos (show b2i false = 0 from rfl)]
    exact kk I1 z1 a1.1 b1 (fun x => (by cases x))
theorem x_readsOffice {n tn e : Nat} {sg : Nat → Int} {I : mI} {L : mL} {c : Nat} {K : mK2} (ht : txt sg tn) (hc : c ≤ 6) (hT : RdT I sg tn) (hs : strC I) (hB : BdC I (oH c))
    (k : ∀ I', rdz (oH c) I I' → I' 74 2 = (((txtP sg tn 10 0).2.1 : Nat) : Int) → BdC I' (oH c) → ((txtP sg tn 10 0).1 = true → OfI I' (oH c) ((txtP sg tn 10 0).2.2.foldl acc1 (8, 18, 10, [], []))) → K (some (vi (b2i (txtP sg tn 10 0).1))) I' L c) : C2 n (e + 22) 45 [vr (some 74)] I L c K := by
  have hh := oH_76 c
  have ho := oOk_j (n := n) (c := c) (j := c) hc (Nat.le_refl _)
  refine Re_readsOffice (d := e + 17) ?_
  rw [chkE ho.1]
  refine Of_clear ?_
  simp only [chkE ho.1]
  rw [rv_no]
  generalize hJ : up2 (up2 (up2 (up2 (up2 I (oH c) 0 8) (oH c) 1 18) (oH c) 2 10) (oH c) 5 0) (oH c) 7 0 = J
  have z0 : rdz (oH c) I J := by
    intro x j q r
    rw [← hJ]
    repeat rw [up2_ne (by omega)]
  have g0 : J (oH c) 0 = 8 ∧ J (oH c) 1 = 18 ∧ J (oH c) 2 = 10 ∧ J (oH c) 5 = 0 ∧ J (oH c) 7 = 0 := by
    rw [← hJ]
    simp (disch := omega) only [up2_same, up2_at]
    exact ⟨trivial, trivial, trivial, trivial, trivial⟩
  have b0 : BdC J (oH c) := by
    intro i hi
    rw [← hJ]
    repeat rw [up2_ne (by omega)]
    exact hB i hi
  clear hJ
  refine x_goTo (a := 0) ht (RdT_z hh z0 hT) ?_
  intro I1 x1 a1
  have z1 : rdz (oH c) I I1 := rdz_tr z0 (rdz_2 x1)
  have f : ∀ j, I1 (oH c) j = J (oH c) j := fun j => x1 _ j (by omega)
  rw [rv_no]
  refine Re_readsOffice_14 (d := e + 17) ?_
  rw [if_pos (by decide), if_neg (by decide), show ((0 : Int) + 1) = 9 - ((9 : Nat) : Int) + 1 by decide]
  refine x_readsOffice_l ht hc 9 0 (8, 18, 10, [], []) I1 (by decide) (RdT_z hh z1 hT) (strC_z z1 hs) a1 (Nat.zero_le _) ⟨by rw [f]; exact g0.1, by rw [f]; exact g0.2.1, by rw [f]; exact g0.2.2.1, ⟨by rw [f]; exact g0.2.2.2.2, fun i hi => absurd hi (Nat.not_lt_zero _)⟩, ⟨by rw [f]; exact g0.2.2.2.1, fun i hi => absurd hi (Nat.not_lt_zero _)⟩⟩ (BdC_2 hh x1 b0) (by decide) (by decide) ?_
  intro I2 z2 a2 b2 f2
  exact k I2 (rdz_tr z1 z2) a2 b2 f2
