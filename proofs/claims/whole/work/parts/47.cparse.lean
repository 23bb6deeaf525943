/-! ===== the reader: the class ===== -/
def rd2 (I J : mI) : Prop := ∀ a k, ¬ (a = 74 ∧ (k = 2 ∨ k = 3)) → J a k = I a k
def rdy (h : Nat) (I J : mI) : Prop := ∀ a k, a ≠ h + 3 → ¬ (a = h ∧ k = 7) → ¬ (a = 74 ∧ (k = 2 ∨ k = 3)) → J a k = I a k
theorem rd2_rf (I : mI) : rd2 I I := fun _ _ _ => rfl
theorem rdy_rf (h : Nat) (I : mI) : rdy h I I := fun _ _ _ _ _ => rfl
theorem rd2_tr {I J K : mI} (h1 : rd2 I J) (h2 : rd2 J K) : rd2 I K := fun a k q => (h2 a k q).trans (h1 a k q)
theorem rdy_tr {h : Nat} {I J K : mI} (h1 : rdy h I J) (h2 : rdy h J K) : rdy h I K := fun a k q r s => (h2 a k q r s).trans (h1 a k q r s)
theorem rdy_2 {h : Nat} {I J : mI} (h1 : rd2 I J) : rdy h I J := fun a k _ _ s => h1 a k s
def RdT (I : mI) (sg : Nat → Int) (n : Nat) : Prop := I 74 1 = (n : Int) ∧ ∀ i, i < n → I 75 i = sg i
def AtC (I : mI) (sg : Nat → Int) (a : Nat) : Prop := I 74 2 = (a : Int) ∧ I 74 3 = sg a
def MdC (I : mI) (h : Nat) (l : List Int) : Prop := I h 7 = (l.length : Int) ∧ ∀ i, i < l.length → I (h + 3) i = l.getD i 0
def BdC (I : mI) (h : Nat) : Prop := ∀ k, k < 100 → -3 ≤ I (h + 3) k ∧ I (h + 3) k < 1800
theorem RdT_y {h n : Nat} {sg : Nat → Int} {I J : mI} (hh : 76 ≤ h) (e : rdy h I J) (r : RdT I sg n) : RdT J sg n := by
  refine ⟨?_, fun i hi => ?_⟩
  · rw [e 74 1 (by omega) (by omega) (by omega)]; exact r.1
  · rw [e 75 i (by omega) (by omega) (by omega)]; exact r.2 i hi
theorem RdT_2 {n : Nat} {sg : Nat → Int} {I J : mI} (e : rd2 I J) (r : RdT I sg n) : RdT J sg n := RdT_y (h := 76) (by decide) (rdy_2 e) r
theorem MdC_2 {h : Nat} {l : List Int} {I J : mI} (hh : 76 ≤ h) (e : rd2 I J) (r : MdC I h l) : MdC J h l := by
  refine ⟨?_, fun i hi => ?_⟩
  · rw [e h 7 (by omega)]; exact r.1
  · rw [e (h + 3) i (by omega)]; exact r.2 i hi
theorem BdC_2 {h : Nat} {I J : mI} (hh : 76 ≤ h) (e : rd2 I J) (r : BdC I h) : BdC J h := fun k hk => by
  rw [e (h + 3) k (by omega)]; exact r k hk
theorem x_goTo {n tn d a : Nat} {sg : Nat → Int} {I : mI} {L : mL} {c : Nat} {K : mK2} (ht : txt sg tn) (hT : RdT I sg tn) (k : ∀ I', rd2 I I' → AtC I' sg a → K none I' L c) : C2 n d 46 [vr (some 74), vi (a : Int)] I L c K := by
  have kk : ∀ v, v = sg a → K none (up2 (up2 I 74 2 (a : Int)) 74 3 v) L c := fun v hv => by
    refine k _ (fun x j q => ?_) ⟨?_, ?_⟩
    · rw [up2_if, if_neg (fun w => q ⟨w.1, Or.inr w.2⟩), up2_if, if_neg (fun w => q ⟨w.1, Or.inl w.2⟩)]
    · rw [up2_at (by decide), up2_same]
    · rw [up2_same]; exact hv
  have e2 : up2 I 74 2 (a : Int) 74 2 = (a : Int) := up2_same
  have e1 : up2 I 74 2 (a : Int) 74 1 = (tn : Int) := by rw [up2_at (by decide)]; exact hT.1
  have e5 : ∀ i, up2 I 74 2 (a : Int) 75 i = I 75 i := fun i => by rw [up2_ne (by decide)]
  have n100 := ht.1
  refine Re_goTo ?_
  rw [e2, e1, if_neg (by omega), Int.toNat_natCast, e5]
  by_cases w : a < tn
  · rw [if_pos (by omega), if_pos (by omega)]
    exact ⟨by omega, kk _ (hT.2 a w)⟩
  · rw [if_neg (by omega)]
    exact kk _ (ht.2.2 a (by omega)).symm
theorem x_takes {n tn d a : Nat} {sg : Nat → Int} {o : Int} {I : mI} {L : mL} {c : Nat} {K : mK2} (ht : txt sg tn) (hT : RdT I sg tn) (hA : AtC I sg a) (hn : a ≤ tn) (kf : sg a ≠ o → K (some (vi 0)) I L c) (kt : sg a = o → ∀ I', rd2 I I' → AtC I' sg (a + 1) → K (some (vi 1)) I' L c) : C2 n (d + 1) 47 [vr (some 74), vi o] I L c K := by
  have n100 := ht.1
  refine Re_takes ?_
  rw [hA.2, hA.1, wr_nat (show a < 1000000 by omega)]
  by_cases w : sg a = o
  · rw [if_pos w]
    refine x_goTo ht hT ?_
    intro I1 x1 a1
    exact kt w I1 x1 a1
  · rw [if_neg w]; exact kf w
theorem x_readNumber {n tn d a : Nat} {sg : Nat → Int} {I : mI} {L : mL} {c : Nat} {K : mK2} (ht : txt sg tn) (hT : RdT I sg tn) (hA : AtC I sg a) (hn : a ≤ tn) (kf : numP sg a = none → K (some (vi (-1))) I L c) (kt : ∀ v b I', numP sg a = some (v, b) → rd2 I I' → AtC I' sg b → K (some (vi v)) I' L c) : C2 n (d + 1) 51 [vr (some 74)] I L c K := by
  have n100 := ht.1
  refine Re_readNumber ?_
  rw [hA.2, hA.1, wr_nat (show a < 1000000 by omega)]
  by_cases d1 : digit (sg a)
  · have e1 : numP sg a = if digit (sg (a + 1)) then some ((sg a - 48) * 10 + sg (a + 1) - 48, a + 2) else some (sg a - 48, a + 1) := if_pos d1
    have v1 : wr (sg a - 48) = sg a - 48 := wri (by omega)
    rw [if_neg (by omega), if_neg (by omega)]
    refine x_goTo ht hT ?_
    intro I1 x1 a1
    have T1 := RdT_2 x1 hT
    rw [rv_no, a1.2, a1.1, v1, wr_nat (show a + 1 < 1000000 by omega)]
    by_cases d2 : digit (sg (a + 1))
    · rw [if_pos d2] at e1
      rw [if_neg (by omega), if_neg (by omega)]
      refine x_goTo ht T1 ?_
      intro I2 x2 a2
      rw [rv_no, wri (x := (sg a - 48) * 10) (by omega), wri (x := (sg a - 48) * 10 + sg (a + 1)) (by omega), wri (x := (sg a - 48) * 10 + sg (a + 1) - 48) (by omega)]
      exact kt _ _ I2 e1 (rd2_tr x1 x2) a2
    · rw [if_neg d2] at e1
      have kk := kt _ _ I1 e1 x1 a1
      by_cases w : sg (a + 1) < 48
      · rw [if_pos w]; exact kk
      · rw [if_neg w, if_pos (by omega)]; exact kk
  · have kk := kf (if_neg d1)
    by_cases w : sg a < 48
    · rw [if_pos w]; exact kk
    · rw [if_neg w, if_pos (by omega)]; exact kk
theorem x_addCode {n d h : Nat} {z : Int} {l : List Int} {I : mI} {L : mL} {c : Nat} {K : mK2} (ho : oOk n c h) (hh : 76 ≤ h) (hM : MdC I h l) (hB : BdC I h) (hl : l.length < 100) (hz : -3 ≤ z ∧ z < 1800) (k : ∀ I', rdy h I I' → (∀ k, I' 74 k = I 74 k) → MdC I' h (l ++ [z]) → BdC I' h → K none I' L c) : C2 n d 27 [vr (some h), vi z] I L c K := by
  obtain ⟨o1, o2, o3, o4, o5, o6, o7, o8, o9, o10⟩ := ho
  have e7 : ∀ v : Int, up2 I (h + 3) l.length v h 7 = (l.length : Int) := fun v => by rw [up2_ne (by omega)]; exact hM.1
  refine Of_addCode ?_
  rw [chkE o1, hM.1, if_pos (by omega), chkE o1, chkE o1, o4, drf_s]
  refine chk_i (by rw [o7]; rfl) ?_
  rw [o10, Int.toNat_natCast, chkE o1, chkE o1, e7, wr_nat (show l.length < 1000000 by omega)]
  refine ⟨by omega, ?_⟩
  refine k _ (fun x j q r s => ?_) (fun j => ?_) ⟨?_, fun i hi => ?_⟩ (fun j hj => ?_)
  · rw [up2_if, if_neg r, up2_if, if_neg (fun w => q w.1)]
  · rw [up2_ne (by omega), up2_ne (by omega)]
  · rw [up2_same, List.length_append, List.length_singleton]
  · rw [List.length_append, List.length_singleton] at hi
    rw [up2_ne (by omega)]
    by_cases e : i = l.length
    · rw [e, up2_same, List.getD_eq_getElem?_getD, List.getElem?_append_right (Nat.le_refl _), Nat.sub_self]
      rfl
    · rw [up2_at e, List.getD_eq_getElem?_getD, List.getElem?_append_left (by omega), ← List.getD_eq_getElem?_getD]
      exact hM.2 i (by omega)
  · rw [up2_ne (by omega)]
    by_cases e : j = l.length
    · rw [e, up2_same]; exact hz
    · rw [up2_at e]; exact hB j hj
/-- where a reader is let go: at the place told, with the codes told, if it went well -/
def outC (sg : Nat → Int) (h : Nat) (l : List Int) (I I' : mI) (r : pR) : Prop := rdy h I I' ∧ AtC I' sg r.2.1 ∧ BdC I' h ∧ (r.1 = true → MdC I' h (l ++ r.2.2))
theorem sg_bd {sg : Nat → Int} {tn : Nat} (ht : txt sg tn) (i : Nat) : -1 ≤ sg i ∧ sg i ≤ 127 := by
  by_cases w : i < tn
  · have := ht.2.1 i w; omega
  · have := ht.2.2 i (by omega); omega
theorem out_2 {sg : Nat → Int} {h b : Nat} {l : List Int} {I J : mI} (hh : 76 ≤ h) (hB : BdC I h) (x : rd2 I J) (a : AtC J sg b) : outC sg h l I J (false, b, []) := ⟨rdy_2 x, a, BdC_2 hh x hB, fun e => by cases e⟩
theorem oH_76 (c : Nat) : 76 ≤ oH c := by
  have := oH_r c
  omega
theorem x_readsTest {n tn d a : Nat} {sg : Nat → Int} {l : List Int} {I : mI} {L : mL} {c : Nat} {K : mK2} (ht : txt sg tn) (hc : c ≤ 6) (hT : RdT I sg tn) (hA : AtC I sg a) (hn : a ≤ tn) (hM : MdC I (oH c) l) (hB : BdC I (oH c)) (hl : l.length ≤ a)
    (k : ∀ I', outC sg (oH c) l I I' (tstP sg a) → K (some (vi (b2i (tstP sg a).1))) I' L c) : C2 n (d + 2) 55 [vr (some 74)] I L c K := by
  have n100 := ht.1
  have ho := oOk_j (n := n) (c := c) (j := c) hc (Nat.le_refl _)
  have hh := oH_76 c
  have tail : ∀ lt : Int, letP (sg a) = some lt → C2 n (d + 1) 46 [vr (some 74), vi ((a + 1 : Nat) : Int)] I L c (fun r1 I2 L3 c4 => rv r1 (if (wr ((I2 74 3) - 60)) < 0 then (K (some (vi 0)) I2 L3 c4) else (if 2 < (wr ((I2 74 3) - 60)) then (K (some (vi 0)) I2 L3 c4) else (C2 n (d + 1) 46 [vr (some 74), vi (wr ((I2 74 2) + 1))] I2 L3 c4 (fun r5 I6 L7 c8 => rv r5 (C2 n (d + 1) 51 [vr (some 74)] I6 L7 c8 (fun r9 I10 L11 c12 => ri r9 (fun x13 => if x13 = (-1) then (K (some (vi 0)) I10 L11 c12) else (chk (Nat.beq (TY (oH c12)) 2) (C2 n (d + 1) 27 [vr (some (oH c12)), vi (wr ((wr ((wr ((wr (lt * 3)) + (wr ((I2 74 3) - 60)))) * 100)) + x13))] I10 L11 c12 (fun r14 I15 L16 c17 => rv r14 (K (some (vi 1)) I15 L16 c17))))))))))))  := by
    intro lt hlt
    have l5 := let_ok hlt
    have la := txt_lt ht l5.1
    have sb := sg_bd ht (a + 1)
    have et : tstP sg a = if 60 ≤ sg (a + 1) ∧ sg (a + 1) ≤ 62 then (match numP sg (a + 2) with
      | none => (false, a + 2, [])
      | some (v, b) => (true, b, [(lt * 3 + (sg (a + 1) - 60)) * 100 + v])) else (false, a + 1, []) := by unfold tstP; rw [hlt]; cases numP sg (a + 2) <;> rfl
    refine x_goTo ht hT ?_
    intro I1 x1 a1
    have T1 := RdT_2 x1 hT
    rw [rv_no, a1.2, a1.1, wri (x := sg (a + 1) - 60) (by omega), wr_nat (show a + 1 < 1000000 by omega)]
    by_cases w : 60 ≤ sg (a + 1) ∧ sg (a + 1) ≤ 62
    · rw [if_pos w] at et
      have la2 := txt_lt ht (show 0 ≤ sg (a + 1) by omega)
      rw [if_neg (by omega), if_neg (by omega)]
      refine x_goTo ht T1 ?_
      intro I2 x2 a2
      have T2 := RdT_2 x2 T1
      have x12 := rd2_tr x1 x2
      rw [rv_no]
      refine x_readNumber ht T2 a2 (by omega) ?_ ?_
      · intro hnum
        rw [hnum] at et
        rw [ri_vi, if_pos rfl]
        have kk := k I2
        rw [et] at kk
        exact kk (out_2 hh hB x12 a2)
      · intro v b I3 hnum x3 a3
        have nk := num_ok ht hnum
        rw [hnum] at et
        have kk := k
        rw [et] at kk
        have x13 := rd2_tr x12 x3
        have code : wr (wr (wr (wr (lt * 3) + (sg (a + 1) - 60)) * 100) + v) = (lt * 3 + (sg (a + 1) - 60)) * 100 + v := by
          rw [wri (x := lt * 3) (by omega), wri (x := lt * 3 + (sg (a + 1) - 60)) (by omega), wri (x := (lt * 3 + (sg (a + 1) - 60)) * 100) (by omega), wri (by omega)]
        rw [ri_vi, if_neg (by omega), chkE ho.1, code]
        clear code
        refine x_addCode ho hh (MdC_2 hh x13 hM) (BdC_2 hh x13 hB) (by omega) (by omega) ?_
        intro I4 x4 a4 m4 b4
        rw [rv_no]
        exact kk I4 ⟨rdy_tr (rdy_2 x13) x4, ⟨by rw [a4]; exact a3.1, by rw [a4]; exact a3.2⟩, b4, fun _ => m4⟩
    · rw [if_neg w] at et
      have kk := k I1
      rw [et] at kk
      have kk := kk (out_2 hh hB x1 a1)
      by_cases v : sg (a + 1) - 60 < 0
      · rw [if_pos v]; exact kk
      · rw [if_neg v, if_pos (by omega)]; exact kk
  refine Re_readsTest ?_
  rw [hA.2, hA.1, wr_nat (show a < 1000000 by omega)]
  by_cases h1 : sg a = 97
  · rw [if_pos h1]; exact tail 4 (by rw [h1]; rfl)
  rw [if_neg h1]
  by_cases h2 : sg a = 104
  · rw [if_pos h2]; exact tail 5 (by rw [h2]; rfl)
  rw [if_neg h2]
  by_cases h3 : sg a = 107
  · rw [if_pos h3]; exact tail 2 (by rw [h3]; rfl)
  rw [if_neg h3]
  by_cases h4 : sg a = 112
  · rw [if_pos h4]; exact tail 0 (by rw [h4]; rfl)
  rw [if_neg h4]
  by_cases h5 : sg a = 116
  · rw [if_pos h5]; exact tail 1 (by rw [h5]; rfl)
  rw [if_neg h5]
  by_cases h6 : sg a = 118
  · rw [if_pos h6]; exact tail 3 (by rw [h6]; rfl)
  rw [if_neg h6]
  have el : letP (sg a) = none := by
    unfold letP
    rw [if_neg h1, if_neg h2, if_neg h3, if_neg h4, if_neg h5, if_neg h6]
  have et : tstP sg a = (false, a, []) := by unfold tstP; rw [el]
  rw [et] at k
  exact k I (out_2 hh hB (rd2_rf I) hA)
theorem b2i_01 (b : Bool) : 0 ≤ b2i b ∧ b2i b ≤ 1 := by cases b <;> decide
def rdM (n tn e y : Nat) (sg : Nat → Int) (dep : Int) (c : Nat) (P : Nat → pR) : Prop := ∀ (a : Nat) (l : List Int) (I : mI) (L : mL) (K : mK2), RdT I sg tn → AtC I sg a → a ≤ tn → MdC I (oH c) l → BdC I (oH c) → l.length ≤ a → (∀ I', outC sg (oH c) l I I' (P a) → K (some (vi (b2i (P a).1))) I' L c) → C2 n e y [vr (some 74), vi dep] I L c K
theorem x_readsBoth {n tn d : Nat} {sg : Nat → Int} {dep : Int} {c : Nat} {P : Nat → pR} (ht : txt sg tn) (hc : c ≤ 6) (hok : ∀ a, a ≤ tn → okR tn a (P a)) (hP : rdM n tn (d + 1) 54 sg dep c P) : rdM n tn (d + 2) 53 sg dep c (seqP sg P 38 (-2)) := by
  intro a l I L K hT hA hn hM hB hl k
  have n100 := ht.1
  have ho := oOk_j (n := n) (c := c) (j := c) hc (Nat.le_refl _)
  have hh := oH_76 c
  have loop : ∀ j b m I1, j ≤ 100 → rdy (oH c) I I1 → AtC I1 sg b → MdC I1 (oH c) (l ++ m) → BdC I1 (oH c) → b ≤ tn → (l ++ m).length ≤ b → (∀ I', outC sg (oH c) l I I' (lopP sg P 38 (-2) j b m) → K (some (vi (b2i (lopP sg P 38 (-2) j b m).1))) I' L c) → W2 n (d + 2) 53 12 [some (vr (some 74)), some (vi dep), some (vi (100 - (j : Int)))] [] I1 L c K := by
    intro j
    induction j with
    | zero =>
      intro b m I1 _ x1 a1 m1 b1 _ _ kk
      refine Re_readsBoth_12 ?_
      rw [if_neg (by omega)]
      exact kk I1 ⟨x1, a1, b1, fun _ => m1⟩
    | succ j ih =>
      intro b m I1 hj x1 a1 m1 b1 hb hlm kk
      have T1 := RdT_y hh x1 hT
      refine Re_readsBoth_12 ?_
      rw [if_pos (by omega)]
      have e1 : lopP sg P 38 (-2) (j + 1) b m = if sg b = 38 then (if (P (b + 1)).1 = true then lopP sg P 38 (-2) j (P (b + 1)).2.1 (m ++ (P (b + 1)).2.2 ++ [-2]) else (false, (P (b + 1)).2.1, m ++ (P (b + 1)).2.2)) else (true, b, m) := rfl
      rw [e1] at kk
      clear e1
      refine x_takes (d := d) ht T1 a1 hb ?_ ?_
      · intro w
        rw [if_neg w] at kk
        rw [ri_vi, if_pos rfl]
        exact kk I1 ⟨x1, a1, b1, fun _ => m1⟩
      · intro w I2 x2 a2
        rw [if_pos w] at kk
        have lb := txt_lt ht (show 0 ≤ sg b by omega)
        obtain ⟨o1, o2, o3, o4, o5⟩ := hok (b + 1) lb
        rw [ri_vi, if_neg (by decide)]
        refine hP _ _ _ _ _ (RdT_2 x2 T1) a2 lb (MdC_2 hh x2 m1) (BdC_2 hh x2 b1) (by omega) ?_
        intro I3 ⟨x3, a3, b3, m3⟩
        have x13 : rdy (oH c) I I3 := rdy_tr (rdy_tr x1 (rdy_2 x2)) x3
        rw [ri_vi]
        by_cases t : (P (b + 1)).1 = true
        · rw [if_pos t] at kk
          have m3 := m3 t
          have o1 := o1 t
          rw [List.length_append] at hlm
          rw [t, if_neg (by decide), chkE ho.1]
          refine x_addCode ho hh m3 b3 (by rw [List.length_append, List.length_append]; omega) (by decide) ?_
          intro I4 x4 a4 m4 b4
          rw [rv_no, wri (x := 100 - ((j + 1 : Nat) : Int) + 1) (by omega), show 100 - ((j + 1 : Nat) : Int) + 1 = 100 - (j : Int) by omega]
          rw [List.append_assoc, List.append_assoc, ← List.append_assoc m] at m4
          refine ih (P (b + 1)).2.1 (m ++ (P (b + 1)).2.2 ++ [-2]) I4 (by omega) (rdy_tr x13 x4) ⟨by rw [a4]; exact a3.1, by rw [a4]; exact a3.2⟩ m4 b4 o3 ?_ kk
          rw [List.length_append, List.length_append, List.length_append, List.length_singleton]
          omega
        · rw [if_neg t] at kk
          have tf : (P (b + 1)).1 = false := by simpa using t
          rw [tf, if_pos (show b2i false = 0 from rfl)]
          exact kk I3 ⟨x13, a3, b3, fun e => (by cases e)⟩
  refine Re_readsBoth ?_
  refine hP _ _ _ _ _ hT hA hn hM hB hl ?_
  intro I1 ⟨x1, a1, b1, m1⟩
  obtain ⟨o1, o2, o3, o4, o5⟩ := hok a hn
  have e1 : seqP sg P 38 (-2) a = if (P a).1 = true then lopP sg P 38 (-2) 100 (P a).2.1 (P a).2.2 else P a := rfl
  rw [e1] at k
  clear e1
  rw [ri_vi]
  by_cases t : (P a).1 = true
  · rw [if_pos t] at k
    have m1 := m1 t
    rw [t, if_neg (by decide)]
    have lp := loop 100 (P a).2.1 (P a).2.2 I1 (Nat.le_refl _) x1 a1 m1 b1 o3 (by rw [List.length_append]; omega) k
    rw [show (100 : Int) - ((100 : Nat) : Int) = 0 by decide] at lp
    exact lp
  · rw [if_neg t] at k
    have tf : (P a).1 = false := by simpa using t
    have kk := k I1 ⟨x1, a1, b1, fun e => absurd e t⟩
    rw [tf] at kk ⊢
    rw [if_pos (show b2i false = 0 from rfl)]
    exact kk
theorem x_readsEither {n tn d : Nat} {sg : Nat → Int} {dep : Int} {c : Nat} {P : Nat → pR} (ht : txt sg tn) (hc : c ≤ 6) (hok : ∀ a, a ≤ tn → okR tn a (P a)) (hP : rdM n tn (d + 1) 53 sg dep c P) : rdM n tn (d + 2) 52 sg dep c (seqP sg P 124 (-3)) := by
  intro a l I L K hT hA hn hM hB hl k
  have n100 := ht.1
  have ho := oOk_j (n := n) (c := c) (j := c) hc (Nat.le_refl _)
  have hh := oH_76 c
  have loop : ∀ j b m I1, j ≤ 100 → rdy (oH c) I I1 → AtC I1 sg b → MdC I1 (oH c) (l ++ m) → BdC I1 (oH c) → b ≤ tn → (l ++ m).length ≤ b → (∀ I', outC sg (oH c) l I I' (lopP sg P 124 (-3) j b m) → K (some (vi (b2i (lopP sg P 124 (-3) j b m).1))) I' L c) → W2 n (d + 2) 52 12 [some (vr (some 74)), some (vi dep), some (vi (100 - (j : Int)))] [] I1 L c K := by
    intro j
    induction j with
    | zero =>
      intro b m I1 _ x1 a1 m1 b1 _ _ kk
      refine Re_readsEither_12 ?_
      rw [if_neg (by omega)]
      exact kk I1 ⟨x1, a1, b1, fun _ => m1⟩
    | succ j ih =>
      intro b m I1 hj x1 a1 m1 b1 hb hlm kk
      have T1 := RdT_y hh x1 hT
      refine Re_readsEither_12 ?_
      rw [if_pos (by omega)]
      have e1 : lopP sg P 124 (-3) (j + 1) b m = if sg b = 124 then (if (P (b + 1)).1 = true then lopP sg P 124 (-3) j (P (b + 1)).2.1 (m ++ (P (b + 1)).2.2 ++ [-3]) else (false, (P (b + 1)).2.1, m ++ (P (b + 1)).2.2)) else (true, b, m) := rfl
      rw [e1] at kk
      clear e1
      refine x_takes (d := d) ht T1 a1 hb ?_ ?_
      · intro w
        rw [if_neg w] at kk
        rw [ri_vi, if_pos rfl]
        exact kk I1 ⟨x1, a1, b1, fun _ => m1⟩
      · intro w I2 x2 a2
        rw [if_pos w] at kk
        have lb := txt_lt ht (show 0 ≤ sg b by omega)
        obtain ⟨o1, o2, o3, o4, o5⟩ := hok (b + 1) lb
        rw [ri_vi, if_neg (by decide)]
        refine hP _ _ _ _ _ (RdT_2 x2 T1) a2 lb (MdC_2 hh x2 m1) (BdC_2 hh x2 b1) (by omega) ?_
        intro I3 ⟨x3, a3, b3, m3⟩
        have x13 : rdy (oH c) I I3 := rdy_tr (rdy_tr x1 (rdy_2 x2)) x3
        rw [ri_vi]
        by_cases t : (P (b + 1)).1 = true
        · rw [if_pos t] at kk
          have m3 := m3 t
          have o1 := o1 t
          rw [List.length_append] at hlm
          rw [t, if_neg (by decide), chkE ho.1]
          refine x_addCode ho hh m3 b3 (by rw [List.length_append, List.length_append]; omega) (by decide) ?_
          intro I4 x4 a4 m4 b4
          rw [rv_no, wri (x := 100 - ((j + 1 : Nat) : Int) + 1) (by omega), show 100 - ((j + 1 : Nat) : Int) + 1 = 100 - (j : Int) by omega]
          rw [List.append_assoc, List.append_assoc, ← List.append_assoc m] at m4
          refine ih (P (b + 1)).2.1 (m ++ (P (b + 1)).2.2 ++ [-3]) I4 (by omega) (rdy_tr x13 x4) ⟨by rw [a4]; exact a3.1, by rw [a4]; exact a3.2⟩ m4 b4 o3 ?_ kk
          rw [List.length_append, List.length_append, List.length_append, List.length_singleton]
          omega
        · rw [if_neg t] at kk
          have tf : (P (b + 1)).1 = false := by simpa using t
          rw [tf, if_pos (show b2i false = 0 from rfl)]
          exact kk I3 ⟨x13, a3, b3, fun e => (by cases e)⟩
  refine Re_readsEither ?_
  refine hP _ _ _ _ _ hT hA hn hM hB hl ?_
  intro I1 ⟨x1, a1, b1, m1⟩
  obtain ⟨o1, o2, o3, o4, o5⟩ := hok a hn
  have e1 : seqP sg P 124 (-3) a = if (P a).1 = true then lopP sg P 124 (-3) 100 (P a).2.1 (P a).2.2 else P a := rfl
  rw [e1] at k
  clear e1
  rw [ri_vi]
  by_cases t : (P a).1 = true
  · rw [if_pos t] at k
    have m1 := m1 t
    rw [t, if_neg (by decide)]
    have lp := loop 100 (P a).2.1 (P a).2.2 I1 (Nat.le_refl _) x1 a1 m1 b1 o3 (by rw [List.length_append]; omega) k
    rw [show (100 : Int) - ((100 : Nat) : Int) = 0 by decide] at lp
    exact lp
  · rw [if_neg t] at k
    have tf : (P a).1 = false := by simpa using t
    have kk := k I1 ⟨x1, a1, b1, fun e => absurd e t⟩
    rw [tf] at kk ⊢
    rw [if_pos (show b2i false = 0 from rfl)]
    exact kk
theorem x_readsPart {n tn : Nat} {sg : Nat → Int} {c : Nat} (ht : txt sg tn) (hc : c ≤ 6) : ∀ D e, D ≤ 4 → rdM n tn (e + 3 * D + 3) 54 sg (4 - (D : Int)) c (prt sg D)
  | 0, e, hD => by
    intro a l I L K hT hA hn hM hB hl k
    have hh := oH_76 c
    refine Re_readsPart (d := e) ?_
    rw [hA.2]
    have e1 : prt sg 0 a = if sg a = 33 ∨ sg a = 40 then (false, a, []) else tstP sg a := rfl
    rw [e1] at k
    by_cases w : sg a = 33 ∨ sg a = 40
    · rw [if_pos w] at k
      have kk := k I (out_2 hh hB (rd2_rf I) hA)
      by_cases v : sg a = 33
      · rw [if_pos v, if_neg (by decide)]; exact kk
      · rw [if_neg v, if_pos (by omega), if_neg (by decide)]; exact kk
    · rw [if_neg w] at k
      rw [if_neg (by omega), if_neg (by omega)]
      refine x_readsTest ht hc hT hA hn hM hB hl ?_
      intro I1 o1
      rw [ri_vi]
      exact b01_i (b2i_01 _) (k I1 o1)
  | D + 1, e, hD => by
    intro a l I L K hT hA hn hM hB hl k
    have n100 := ht.1
    have hh := oH_76 c
    have ho := oOk_j (n := n) (c := c) (j := c) hc (Nat.le_refl _)
    have dw : wr (4 - ((D + 1 : Nat) : Int) + 1) = 4 - (D : Int) := by rw [wri (by omega)]; omega
    refine Re_readsPart (d := e + 3 * D + 3) ?_
    rw [hA.2, dw]
    clear dw
    have e1 : prt sg (D + 1) a = if sg a = 40 then (if (eitP sg (prt sg D) (a + 1)).1 = true then (if sg (eitP sg (prt sg D) (a + 1)).2.1 = 41 then (true, (eitP sg (prt sg D) (a + 1)).2.1 + 1, (eitP sg (prt sg D) (a + 1)).2.2) else (false, (eitP sg (prt sg D) (a + 1)).2.1, (eitP sg (prt sg D) (a + 1)).2.2)) else eitP sg (prt sg D) (a + 1))
      else if sg a = 33 then (if (prt sg D (a + 1)).1 = true then (true, (prt sg D (a + 1)).2.1, (prt sg D (a + 1)).2.2 ++ [-1]) else prt sg D (a + 1))
      else tstP sg a := rfl
    rw [e1] at k
    clear e1
    by_cases w : sg a = 33
    · have la := txt_lt ht (show 0 ≤ sg a by omega)
      rw [if_neg (by omega), if_pos w] at k
      rw [if_pos w, if_pos (by omega)]
      refine x_takes (d := e + 3 * D + 4) ht hT hA hn (fun _ => ?_) (fun v => by omega)
      rw [ri_vi, if_pos rfl, hA.1, wr_nat (show a < 1000000 by omega)]
      refine x_goTo ht hT ?_
      intro I1 x1 a1
      rw [rv_no]
      have lv := x_readsPart (n := n) ht hc D (e + 2) (by omega)
      rw [show e + 2 + 3 * D + 3 = e + 3 * D + 3 + 2 by omega] at lv
      obtain ⟨o1, o2, o3, o4, o5⟩ := prt_ok ht D (a + 1) la
      refine lv _ _ _ _ _ (RdT_2 x1 hT) a1 la (MdC_2 hh x1 hM) (BdC_2 hh x1 hB) (by omega) ?_
      intro I2 ⟨x2, a2, b2, m2⟩
      rw [ri_vi]
      by_cases t : (prt sg D (a + 1)).1 = true
      · rw [if_pos t] at k
        have o1 := o1 t
        rw [t, if_neg (by decide), chkE ho.1]
        refine x_addCode ho hh (m2 t) b2 (by rw [List.length_append]; omega) (by decide) ?_
        intro I3 x3 a3 m3 b3
        rw [rv_no]
        rw [List.append_assoc] at m3
        exact k I3 ⟨rdy_tr (rdy_tr (rdy_2 x1) x2) x3, ⟨by rw [a3]; exact a2.1, by rw [a3]; exact a2.2⟩, b3, fun _ => m3⟩
      · rw [if_neg t] at k
        have tf : (prt sg D (a + 1)).1 = false := by simpa using t
        have kk := k I2 ⟨rdy_tr (rdy_2 x1) x2, a2, b2, fun e => absurd e t⟩
        rw [tf] at kk ⊢
        rw [if_pos (show b2i false = 0 from rfl)]
        exact kk
    · rw [if_neg w]
      by_cases v : sg a = 40
      · have la := txt_lt ht (show 0 ≤ sg a by omega)
        rw [if_pos v] at k
        rw [if_pos v, if_pos (by omega)]
        refine x_takes (d := e + 3 * D + 4) ht hT hA hn (fun q => absurd v q) (fun _ I1 x1 a1 => ?_)
        rw [ri_vi, if_neg (by decide)]
        have lv : rdM n tn (e + 3 * D + 3 + 2) 52 sg (4 - (D : Int)) c (eitP sg (prt sg D)) := x_readsEither (d := e + 3 * D + 3) ht hc (fun a ha => seq_ok ht (by decide) (by decide) (prt_ok ht D) a ha) (x_readsBoth (d := e + 3 * D + 2) ht hc (prt_ok ht D) (x_readsPart (n := n) ht hc D e (by omega)))
        have ok : okR tn (a + 1) (eitP sg (prt sg D) (a + 1)) := seq_ok (o := 124) (cd := -3) ht (by decide) (by decide) (fun a ha => seq_ok (o := 38) (cd := -2) ht (by decide) (by decide) (prt_ok ht D) a ha) (a + 1) la
        obtain ⟨o1, o2, o3, o4, o5⟩ := ok
        refine lv _ _ _ _ _ (RdT_2 x1 hT) a1 la (MdC_2 hh x1 hM) (BdC_2 hh x1 hB) (by omega) ?_
        intro I2 ⟨x2, a2, b2, m2⟩
        have x12 : rdy (oH c) I I2 := rdy_tr (rdy_2 x1) x2
        rw [ri_vi]
        by_cases t : (eitP sg (prt sg D) (a + 1)).1 = true
        · rw [if_pos t] at k
          have m2 := m2 t
          rw [t, if_neg (by decide)]
          refine x_takes (d := e + 3 * D + 4) ht (RdT_y hh x12 hT) a2 o3 (fun q => ?_) (fun q I3 x3 a3 => ?_)
          · rw [if_neg q] at k
            rw [ri_vi, if_pos rfl]
            exact k I2 ⟨x12, a2, b2, fun e => (by cases e)⟩
          · rw [if_pos q] at k
            rw [ri_vi, if_neg (by decide)]
            exact k I3 ⟨rdy_tr x12 (rdy_2 x3), a3, BdC_2 hh x3 b2, fun _ => MdC_2 hh x3 m2⟩
        · rw [if_neg t] at k
          have tf : (eitP sg (prt sg D) (a + 1)).1 = false := by simpa using t
          have kk := k I2 ⟨x12, a2, b2, fun e => absurd e t⟩
          rw [tf] at kk ⊢
          rw [if_pos (show b2i false = 0 from rfl)]
          exact kk
      · rw [if_neg v, if_neg w] at k
        rw [if_neg v]
        refine x_readsTest (d := e + 3 * D + 3) ht hc hT hA hn hM hB hl ?_
        intro I1 o1
        rw [ri_vi]
        exact b01_i (b2i_01 _) (k I1 o1)
/-! words -/
def strP (sg : Nat → Int) : List Int → Nat → Bool × Nat
  | [], a => (true, a)
  | x :: r, a => if sg a = x then strP sg r (a + 1) else (false, a)
theorem lit_ok : ∀ j : Fin 6, TY (3 + j.val) = 60 ∧ (∀ c : Fin 7, Rs c.val (3 + j.val) 1 = some (9 + j.val)) ∧ Nat.ble 100 (TY (9 + j.val)) = true ∧ (Nat.beq (TY (9 + j.val)) 102 || Nat.beq (TY (9 + j.val)) 104) = true ∧ LN 0 (9 + j.val) = (byT.getD j.val []).length ∧ bshr (((byT.getD j.val []).length : Nat) : Int) 0 = (((byT.getD j.val []).length : Nat) : Int) ∧ (byT.getD j.val []).length ≤ 5 ∧ ∀ i : Fin 5, i.val < (byT.getD j.val []).length → (0 ≤ (byT.getD j.val []).getD i.val 0) ∧ bch (band ((byT.getD j.val []).getD i.val 0) 255) = (byT.getD j.val []).getD i.val 0 ∧ (byT.getD j.val []).getD i.val 0 < 65536 := by decide +kernel
theorem lit_ln (n : Nat) {j : Nat} (hj : j < 6) : LN n (9 + j) = LN 0 (9 + j) := by
  rcases j with _ | _ | _ | _ | _ | _ | j
  all_goals first | rfl | omega
theorem x_length {n d j : Nat} {I : mI} {L : mL} {c : Nat} {K : mK2} (hc : c ≤ 6) (hj : j < 6) (hs : strC I) (k : K (some (vi (((byT.getD j []).length : Nat) : Int))) I L c) : C2 n (d + 1) 221 [vr (some (3 + j))] I L c K := by
  obtain ⟨l1, l2, l3, l4, l5, l6, l7, l8⟩ := lit_ok ⟨j, hj⟩
  dsimp only at l1 l2 l3 l4 l5 l6 l7 l8
  have s0 := (hs.1 j hj).1
  refine j_length_221 ?_
  rw [chkE l1, l2 ⟨c, by omega⟩, drf_s]
  refine chk_i l3 ?_
  rw [chkE l1]
  refine j_coder_223 ?_
  rw [chkE l1, s0]
  refine ⟨rfl, ?_⟩
  rw [ri_vi, lit_ln n hj, l5, l6]
  exact k
theorem x_charAt {n d j i : Nat} {I : mI} {L : mL} {c : Nat} {K : mK2} (hc : c ≤ 6) (hj : j < 6) (hs : strC I) (hi : i < (byT.getD j []).length) (k : K (some (vi ((byT.getD j []).getD i 0))) I L c) : C2 n (d + 1) 222 [vr (some (3 + j)), vi (i : Int)] I L c K := by
  obtain ⟨l1, l2, l3, l4, l5, l6, l7, l8⟩ := lit_ok ⟨j, hj⟩
  dsimp only at l1 l2 l3 l4 l5 l6 l7 l8
  have s0 := (hs.1 j hj).1
  have s1 := (hs.1 j hj).2 i hi
  have l8 := l8 ⟨i, by omega⟩ hi
  dsimp only at l8
  refine j_charAt_222 ?_
  rw [chkE l1]
  refine j_isLatin1_224 ?_
  rw [chkE l1, s0, if_pos rfl, ri_vi, if_neg (by decide), chkE l1, l2 ⟨c, by omega⟩]
  refine j_charAt_225 ?_
  refine chk_i l3 ?_
  rw [lit_ln n hj, l5, Int.toNat_natCast, s1, l8.2.1]
  refine ⟨by omega, ?_⟩
  refine chk_i l4 ⟨by omega, ⟨l8.1, l8.2.2⟩, ?_⟩
  rw [ri_vi]
  exact ⟨⟨l8.1, l8.2.2⟩, k⟩
theorem strC_2 {I J : mI} (e : rd2 I J) (h : strC I) : strC J := by
  refine ⟨fun j hj => ⟨?_, fun k hk => ?_⟩, fun k hk => ?_⟩
  · rw [e (3 + j) 0 (by omega)]; exact (h.1 j hj).1
  · rw [e (9 + j) k (by omega)]; exact (h.1 j hj).2 k hk
  · rw [e 118 k (by omega)]; exact h.2 k hk
theorem drop_getD {l : List Int} {i : Nat} (h : i < l.length) : l.drop i = l.getD i 0 :: l.drop (i + 1) := by
  rw [List.drop_eq_getElem_cons h, List.getD_eq_getElem?_getD, List.getElem?_eq_getElem h]
  rfl
theorem x_takesAll {n tn d a j : Nat} {sg : Nat → Int} {I : mI} {L : mL} {c : Nat} {K : mK2} (ht : txt sg tn) (hc : c ≤ 6) (hT : RdT I sg tn) (hs : strC I) (hA : AtC I sg a) (hn : a ≤ tn) (hj : j < 6)
    (k : ∀ I', rd2 I I' → AtC I' sg (strP sg (byT.getD j []) a).2 → K (some (vi (b2i (strP sg (byT.getD j []) a).1))) I' L c) : C2 n (d + 2) 48 [vr (some 74), vr (some (3 + j))] I L c K := by
  obtain ⟨l1, _, _, _, _, _, l7, l8⟩ := lit_ok ⟨j, hj⟩
  dsimp only at l1 l7 l8
  refine Re_takesAll ?_
  have loop : ∀ m i b I1, i + m = (byT.getD j []).length → rd2 I I1 → AtC I1 sg b → b ≤ tn → (∀ I', rd2 I I' → AtC I' sg (strP sg ((byT.getD j []).drop i) b).2 → K (some (vi (b2i (strP sg ((byT.getD j []).drop i) b).1))) I' L c) → W2 n (d + 2) 48 2 [some (vr (some 74)), some (vr (some (3 + j))), some (vi (i : Int))] [] I1 L c K := by
    intro m
    induction m with
    | zero =>
      intro i b I1 hi x1 a1 hb kk
      refine Re_takesAll_2 ?_
      rw [chkE l1]
      refine x_length hc hj (strC_2 x1 hs) ?_
      rw [ri_vi, if_neg (by omega)]
      rw [List.drop_eq_nil_of_le (by omega)] at kk
      exact kk I1 x1 a1
    | succ m ih =>
      intro i b I1 hi x1 a1 hb kk
      have hl : i < (byT.getD j []).length := by omega
      have ge := (l8 ⟨i, by omega⟩ hl).1
      dsimp only at ge
      refine Re_takesAll_2 ?_
      rw [chkE l1]
      refine x_length hc hj (strC_2 x1 hs) ?_
      rw [ri_vi, if_pos (by omega), chkE l1]
      refine x_charAt hc hj (strC_2 x1 hs) hl ?_
      rw [ri_vi]
      have dr := drop_getD hl
      rw [dr] at kk
      generalize (byT.getD j []).getD i 0 = x at *
      have st : strP sg (x :: (byT.getD j []).drop (i + 1)) b = if sg b = x then strP sg ((byT.getD j []).drop (i + 1)) (b + 1) else (false, b) := rfl
      rw [st] at kk
      refine x_takes (d := d) ht (RdT_2 x1 hT) a1 hb ?_ ?_
      · intro w
        rw [if_neg w] at kk
        rw [ri_vi, if_pos rfl]
        exact kk I1 x1 a1
      · intro w I2 x2 a2
        rw [if_pos w] at kk
        have lb := txt_lt ht (show 0 ≤ sg b by omega)
        rw [ri_vi, if_neg (by decide), wr_nat (show i < 1000000 by omega)]
        exact ih (i + 1) (b + 1) I2 (by omega) (rd2_tr x1 x2) a2 lb kk
  exact loop (byT.getD j []).length 0 a I (by omega) (rd2_rf I) hA hn (by rw [List.drop_zero]; exact k)
/-- a clause's word by its first letters, and the blank behind it -/
def wkP (sg : Nat → Int) (a : Nat) : Int × List Int := if sg a = 109 then (1, [109, 105, 110, 100, 32]) else if sg a = 116 then (2, [116, 97, 115, 116, 101, 32]) else if sg a = 108 then (if sg (a + 2) = 103 then (3, [108, 105, 103, 104, 116, 32]) else (0, [108, 105, 107, 101, 32])) else (4, [114, 97, 116, 101, 32])
def wordP (sg : Nat → Int) (a : Nat) : Bool × Nat := strP sg (wkP sg a).2 a
theorem str_c {sg : Nat → Int} {x : Int} {r : List Int} {a : Nat} (h : sg a = x) : strP sg (x :: r) a = strP sg r (a + 1) := if_pos h
theorem str_n {sg : Nat → Int} {x : Int} {r : List Int} {a : Nat} (h : ¬ sg a = x) : strP sg (x :: r) a = (false, a) := if_neg h
theorem str_le {sg : Nat → Int} {tn : Nat} (ht : txt sg tn) : ∀ (r : List Int) (a : Nat), a ≤ tn → (∀ x, x ∈ r → 0 ≤ x) → a ≤ (strP sg r a).2 ∧ (strP sg r a).2 ≤ tn
  | [], a, h, _ => ⟨Nat.le_refl _, h⟩
  | x :: r, a, h, hx => by
    unfold strP
    by_cases w : sg a = x
    · rw [if_pos w]
      have := txt_lt ht (show 0 ≤ sg a by rw [w]; exact hx x List.mem_cons_self)
      have := str_le ht r (a + 1) this (fun y hy => hx y (List.mem_cons_of_mem _ hy))
      omega
    · rw [if_neg w]; exact ⟨Nat.le_refl _, h⟩
theorem wf_b {b : Bool} {A B C : Prop} (h1 : b = true → A) (h2 : b = false → B) : if b2i b = 0 then B else A := by
  cases b with
  | true => rw [if_neg (by decide)]; exact h1 rfl
  | false => rw [if_pos (by decide)]; exact h2 rfl
theorem x_readWord {n tn d a : Nat} {sg : Nat → Int} {I : mI} {L : mL} {c : Nat} {K : mK2} (ht : txt sg tn) (hc : c ≤ 6) (hT : RdT I sg tn) (hs : strC I) (hA : AtC I sg a) (hn : a ≤ tn)
    (k : ∀ I', rd2 I I' → AtC I' sg (wordP sg a).2 → K (some (vi (if (wordP sg a).1 = true then (wkP sg a).1 else -1))) I' L c) : C2 n (d + 3) 50 [vr (some 74)] I L c K := by
  refine Re_readWord ?_
  refine x_takes (d := d + 1) ht hT hA hn (fun w1 => ?_) (fun w1 I1 x1 a1 => ?_)
  · rw [ri_vi, if_pos rfl]
    refine x_takes (d := d + 1) ht hT hA hn (fun w2 => ?_) (fun w2 I1 x1 a1 => ?_)
    · rw [ri_vi, if_pos rfl]
      refine x_takes (d := d + 1) ht hT hA hn (fun w3 => ?_) (fun w3 I1 x1 a1 => ?_)
      · rw [ri_vi, if_pos rfl]
        refine x_takesAll (d := d) (j := 3) ht hc hT hs hA hn (by decide) ?_
        intro I1 x1 a1
        rw [show byT.getD 3 [] = [108, 105] from rfl] at a1 ⊢
        rw [ri_vi]
        by_cases w4 : sg a = 108
        · rw [str_c w4] at a1 ⊢
          have la := txt_lt ht (show 0 ≤ sg a by omega)
          by_cases w5 : sg (a + 1) = 105
          · rw [str_c w5] at a1 ⊢
            have lb := txt_lt ht (show 0 ≤ sg (a + 1) by omega)
            rw [show strP sg [] (a + 1 + 1) = (true, a + 1 + 1) from rfl] at a1 ⊢
            have a1 : AtC I1 sg (a + 1 + 1) := a1
            rw [if_neg (show ¬ b2i true = 0 by decide)]
            have T1 := RdT_2 x1 hT
            have S1 := strC_2 x1 hs
            refine x_takes (d := d + 1) ht T1 a1 lb (fun w6 => ?_) (fun w6 I2 x2 a2 => ?_)
            · rw [ri_vi, if_pos rfl]
              refine x_takesAll (d := d) (j := 5) ht hc T1 S1 a1 lb (by decide) ?_
              intro I3 x3 a3
              rw [show byT.getD 5 [] = [103, 104, 116, 32] from rfl] at a3 ⊢
              have kk := k I3 (rd2_tr x1 x3)
              rw [ri_vi]
              unfold wordP at kk
              by_cases w7 : sg (a + 1 + 1) = 103
              · rw [show wkP sg a = (3, [108, 105, 103, 104, 116, 32]) by unfold wkP; rw [if_neg w1, if_neg w2, if_pos w4, if_pos w7]] at kk
                dsimp only at kk
                rw [str_c w4, str_c w5] at kk
                have kk := kk a3
                refine wf_b (C := True) (fun e => ?_) (fun e => ?_)
                · rw [if_pos e] at kk; exact kk
                · rw [e, if_neg (by decide)] at kk; exact kk
              · rw [show wkP sg a = (0, [108, 105, 107, 101, 32]) by unfold wkP; rw [if_neg w1, if_neg w2, if_pos w4, if_neg w7]] at kk
                dsimp only at kk
                rw [str_c w4, str_c w5, str_n w6] at kk
                rw [str_n w7] at a3 ⊢
                exact kk a3
            · have lc := txt_lt ht (show 0 ≤ sg (a + 1 + 1) by omega)
              rw [ri_vi, if_neg (by decide)]
              refine x_takesAll (d := d) (j := 4) ht hc (RdT_2 x2 T1) (strC_2 x2 S1) a2 lc (by decide) ?_
              intro I3 x3 a3
              rw [show byT.getD 4 [] = [101, 32] from rfl] at a3 ⊢
              have kk := k I3 (rd2_tr (rd2_tr x1 x2) x3)
              rw [ri_vi]
              unfold wordP at kk
              rw [show wkP sg a = (0, [108, 105, 107, 101, 32]) by unfold wkP; rw [if_neg w1, if_neg w2, if_pos w4, if_neg (show ¬ sg (a + 2) = 103 from fun e => by rw [show a + 2 = a + 1 + 1 from rfl, w6] at e; cases e)]] at kk
              dsimp only at kk
              rw [str_c w4, str_c w5, str_c w6] at kk
              have kk := kk a3
              refine wf_b (C := True) (fun e => ?_) (fun e => ?_)
              · rw [if_pos e] at kk; exact kk
              · rw [e, if_neg (by decide)] at kk; exact kk
          · rw [str_n w5] at a1 ⊢
            have kk := k I1 x1
            unfold wordP at kk
            have e1 : strP sg (wkP sg a).2 a = (false, a + 1) := by
              unfold wkP
              rw [if_neg w1, if_neg w2, if_pos w4]
              split <;> (dsimp only; rw [str_c w4, str_n w5])
            rw [e1] at kk
            exact kk a1
        · rw [str_n w4] at a1 ⊢
          have kk := k I1 x1
          unfold wordP at kk
          have e1 : strP sg (wkP sg a).2 a = (false, a) := by
            unfold wkP
            rw [if_neg w1, if_neg w2, if_neg w4]
            dsimp only
            rw [str_n w3]
          rw [e1] at kk
          exact kk a1
      · have la := txt_lt ht (show 0 ≤ sg a by omega)
        rw [ri_vi, if_neg (by decide)]
        refine x_takesAll (d := d) (j := 2) ht hc (RdT_2 x1 hT) (strC_2 x1 hs) a1 la (by decide) ?_
        intro I3 x3 a3
        rw [show byT.getD 2 [] = [97, 116, 101, 32] from rfl] at a3 ⊢
        have kk := k I3 (rd2_tr x1 x3)
        rw [ri_vi]
        unfold wordP at kk
        rw [show wkP sg a = (4, [114, 97, 116, 101, 32]) by unfold wkP; rw [if_neg w1, if_neg w2, if_neg (by omega)]] at kk
        dsimp only at kk
        rw [str_c w3] at kk
        have kk := kk a3
        refine wf_b (C := True) (fun e => ?_) (fun e => ?_)
        · rw [if_pos e] at kk; exact kk
        · rw [e, if_neg (by decide)] at kk; exact kk
    · have la := txt_lt ht (show 0 ≤ sg a by omega)
      rw [ri_vi, if_neg (by decide)]
      refine x_takesAll (d := d) (j := 1) ht hc (RdT_2 x1 hT) (strC_2 x1 hs) a1 la (by decide) ?_
      intro I3 x3 a3
      rw [show byT.getD 1 [] = [97, 115, 116, 101, 32] from rfl] at a3 ⊢
      have kk := k I3 (rd2_tr x1 x3)
      rw [ri_vi]
      unfold wordP at kk
      rw [show wkP sg a = (2, [116, 97, 115, 116, 101, 32]) by unfold wkP; rw [if_neg w1, if_pos w2]] at kk
      dsimp only at kk
      rw [str_c w2] at kk
      have kk := kk a3
      refine wf_b (C := True) (fun e => ?_) (fun e => ?_)
      · rw [if_pos e] at kk; exact kk
      · rw [e, if_neg (by decide)] at kk; exact kk
  · have la := txt_lt ht (show 0 ≤ sg a by omega)
    rw [ri_vi, if_neg (by decide)]
    refine x_takesAll (d := d) (j := 0) ht hc (RdT_2 x1 hT) (strC_2 x1 hs) a1 la (by decide) ?_
    intro I3 x3 a3
    rw [show byT.getD 0 [] = [105, 110, 100, 32] from rfl] at a3 ⊢
    have kk := k I3 (rd2_tr x1 x3)
    rw [ri_vi]
    unfold wordP at kk
    rw [show wkP sg a = (1, [109, 105, 110, 100, 32]) by unfold wkP; rw [if_pos w1]] at kk
    dsimp only at kk
    rw [str_c w1] at kk
    have kk := kk a3
    refine wf_b (C := True) (fun e => ?_) (fun e => ?_)
    · rw [if_pos e] at kk; exact kk
    · rw [e, if_neg (by decide)] at kk; exact kk
/-! clauses -/
abbrev cl1 : Type := Int × Int × List Int
/-- one clause: did it go, where, and (its kind, its number, its codes) -/
def clsP (sg : Nat → Int) (a : Nat) : Bool × Nat × cl1 :=
  if (wordP sg a).1 = true then (match numP sg (wordP sg a).2 with
    | none => (false, (wordP sg a).2, (0, 0, []))
    | some (v, b) => if 2 ≤ (wkP sg a).1 then (true, b, ((wkP sg a).1, v, []))
        else if sg b = 32 then ((eitP sg (prt sg 4) (b + 1)).1, (eitP sg (prt sg 4) (b + 1)).2.1, ((wkP sg a).1, v, (eitP sg (prt sg 4) (b + 1)).2.2)) else (false, b, (0, 0, [])))
  else (false, (wordP sg a).2, (0, 0, []))
def wsC (I : mI) (h : Nat) (ws : List (Int × Nat)) : Prop := I h 5 = (ws.length : Int) ∧ ∀ i, i < ws.length → I (h + 1) i = (ws.getD i (0, 0)).1 ∧ I (h + 2) i = (((ws.getD i (0, 0)).2 : Nat) : Int)
theorem x_addWish {n d h : Nat} {z : Int} {l : List Int} {ws : List (Int × Nat)} {I : mI} {L : mL} {c : Nat} {K : mK2} (ho : oOk n c h) (hh : 76 ≤ h) (hM : MdC I h l) (hW : wsC I h ws) (hl : ws.length < 10) (k : ∀ I', (∀ a k, ¬ (a = h ∧ k = 5) → a ≠ h + 1 → a ≠ h + 2 → I' a k = I a k) → wsC I' h (ws ++ [(z, l.length)]) → K none I' L c) : C2 n d 28 [vr (some h), vi z] I L c K := by
  obtain ⟨o1, o2, o3, o4, o5, o6, o7, o8, o9, o10⟩ := ho
  have e5 : ∀ v : Int, up2 I (h + 1) ws.length v h 5 = (ws.length : Int) := fun v => by rw [up2_ne (by omega)]; exact hW.1
  have e7 : ∀ v : Int, up2 I (h + 1) ws.length v h 7 = (l.length : Int) := fun v => by rw [up2_ne (by omega)]; exact hM.1
  have f5 : ∀ v w : Int, up2 (up2 I (h + 1) ws.length v) (h + 2) ws.length w h 5 = (ws.length : Int) := fun v w => by rw [up2_ne (by omega)]; exact e5 v
  refine Of_addWish ?_
  rw [chkE o1, hW.1, if_pos (by omega), chkE o1, chkE o1, o2, drf_s]
  refine chk_i (by rw [o5]; rfl) ?_
  rw [o8, Int.toNat_natCast, chkE o1, chkE o1, chkE o1, o3, drf_s]
  refine ⟨by omega, ?_⟩
  refine chk_i (by rw [o6]; rfl) ?_
  rw [o9, e5, e7, Int.toNat_natCast, chkE o1, chkE o1, f5, wr_nat (show ws.length < 1000000 by omega)]
  refine ⟨by omega, ?_⟩
  refine k _ (fun a j p q r => ?_) ⟨?_, fun i hi => ?_⟩
  · rw [up2_if, if_neg p, up2_if, if_neg (fun w => r w.1), up2_if, if_neg (fun w => q w.1)]
  · rw [up2_same, List.length_append, List.length_singleton]
  · rw [List.length_append, List.length_singleton] at hi
    rw [up2_ne (show h + 1 ≠ h by omega), up2_ne (show h + 2 ≠ h by omega), up2_ne (show h + 1 ≠ h + 2 by omega)]
    by_cases e : i = ws.length
    · rw [e, up2_same, up2_same, List.getD_eq_getElem?_getD, List.getElem?_append_right (Nat.le_refl _), Nat.sub_self]
      exact ⟨rfl, rfl⟩
    · rw [up2_at e, up2_at e, up2_ne (show h + 2 ≠ h + 1 by omega), List.getD_eq_getElem?_getD, List.getElem?_append_left (by omega), ← List.getD_eq_getElem?_getD]
      exact hW.2 i (by omega)
/-- what one clause leaves in the office being made -/
def effC (h : Nat) (ws : List (Int × Nat)) (l : List Int) (I J : mI) (q : cl1) : Prop :=
  J h 0 = (if q.1 = 2 then q.2.1 else I h 0) ∧ J h 1 = (if q.1 = 3 then (if 23 < q.2.1 then 23 else q.2.1) else I h 1) ∧ J h 2 = (if q.1 = 4 then q.2.1 else I h 2) ∧ MdC J h (l ++ q.2.2) ∧ wsC J h (if q.1 < 2 then ws ++ [(if q.1 = 0 then q.2.1 else -q.2.1, (l ++ q.2.2).length)] else ws)
/-- only the reader's place and the office being made change -/
def rdz (h : Nat) (I J : mI) : Prop := ∀ a k, ¬ (h ≤ a ∧ a ≤ h + 3) → ¬ (a = 74 ∧ (k = 2 ∨ k = 3)) → J a k = I a k
theorem rdz_y {h : Nat} {I J : mI} (e : rdy h I J) : rdz h I J := fun a k q r => e a k (by omega) (by omega) r
theorem rdz_tr {h : Nat} {I J K : mI} (h1 : rdz h I J) (h2 : rdz h J K) : rdz h I K := fun a k q r => (h2 a k q r).trans (h1 a k q r)
theorem wk_k (sg : Nat → Int) (a : Nat) : 0 ≤ (wkP sg a).1 ∧ (wkP sg a).1 ≤ 4 ∧ ∀ x, x ∈ (wkP sg a).2 → 0 ≤ x := by
  unfold wkP
  repeat' split
  all_goals exact ⟨by decide, by decide, by decide⟩
theorem wsC_m {h : Nat} {ws : List (Int × Nat)} {I J : mI} (e5 : J h 5 = I h 5) (e1 : ∀ i, J (h + 1) i = I (h + 1) i) (e2 : ∀ i, J (h + 2) i = I (h + 2) i) (w : wsC I h ws) : wsC J h ws :=
  ⟨by rw [e5]; exact w.1, fun i hi => by rw [e1, e2]; exact w.2 i hi⟩
theorem MdC_m {h : Nat} {l : List Int} {I J : mI} (e7 : J h 7 = I h 7) (e3 : ∀ i, J (h + 3) i = I (h + 3) i) (w : MdC I h l) : MdC J h l :=
  ⟨by rw [e7]; exact w.1, fun i hi => by rw [e3]; exact w.2 i hi⟩
theorem x_readsClause {n tn e a : Nat} {sg : Nat → Int} {l : List Int} {ws : List (Int × Nat)} {I : mI} {L : mL} {c : Nat} {K : mK2} (ht : txt sg tn) (hc : c ≤ 6) (hT : RdT I sg tn) (hs : strC I) (hA : AtC I sg a) (hn : a ≤ tn) (hM : MdC I (oH c) l) (hB : BdC I (oH c)) (hl : l.length ≤ a) (hW : wsC I (oH c) ws) (hw : ws.length < 10)
    (k : ∀ I', rdz (oH c) I I' → AtC I' sg (clsP sg a).2.1 → BdC I' (oH c) → ((clsP sg a).1 = true → effC (oH c) ws l I I' (clsP sg a).2.2) → K (some (vi (b2i (clsP sg a).1))) I' L c) : C2 n (e + 21) 49 [vr (some 74)] I L c K := by
  have n100 := ht.1
  have hh := oH_76 c
  have ho := oOk_j (n := n) (c := c) (j := c) hc (Nat.le_refl _)
  have hk := wk_k sg a
  refine Re_readsClause (d := e + 17) ?_
  refine x_readWord (d := e + 17) ht hc hT hs hA hn ?_
  intro I1 x1 a1
  have le1 := str_le ht (wkP sg a).2 a hn hk.2.2
  have le1 : a ≤ (wordP sg a).2 ∧ (wordP sg a).2 ≤ tn := le1
  rw [ri_vi]
  by_cases w : (wordP sg a).1 = true
  · rw [if_pos w, if_neg (by omega)]
    have e1 : clsP sg a = (match numP sg (wordP sg a).2 with
      | none => (false, (wordP sg a).2, (0, 0, []))
      | some (v, b) => if 2 ≤ (wkP sg a).1 then (true, b, ((wkP sg a).1, v, []))
        else if sg b = 32 then ((eitP sg (prt sg 4) (b + 1)).1, (eitP sg (prt sg 4) (b + 1)).2.1, ((wkP sg a).1, v, (eitP sg (prt sg 4) (b + 1)).2.2)) else (false, b, (0, 0, []))) := if_pos w
    rw [e1] at k
    clear e1
    refine x_readNumber (d := e + 19) ht (RdT_2 x1 hT) a1 le1.2 (fun hnum => ?_) (fun v b I2 hnum x2 a2 => ?_)
    · rw [hnum] at k
      rw [ri_vi, if_pos rfl]
      exact k I1 (rdz_y (rdy_2 x1)) a1 (BdC_2 hh x1 hB) (fun e => by cases e)
    · rw [hnum] at k
      have nk := num_ok ht hnum
      have x12 := rd2_tr x1 x2
      have k : ∀ I', rdz (oH c) I I' → AtC I' sg (if 2 ≤ (wkP sg a).1 then (true, b, ((wkP sg a).1, v, [])) else if sg b = 32 then ((eitP sg (prt sg 4) (b + 1)).1, (eitP sg (prt sg 4) (b + 1)).2.1, ((wkP sg a).1, v, (eitP sg (prt sg 4) (b + 1)).2.2)) else (false, b, ((0 : Int), (0 : Int), ([] : List Int)))).2.1 → BdC I' (oH c) → _ → _ := k
      have m2 := MdC_2 hh x12 hM
      have b2 := BdC_2 hh x12 hB
      have f2 : ∀ j, I2 (oH c) j = I (oH c) j := fun j => x12 _ j (by omega)
      have w2 : wsC I2 (oH c) ws := wsC_m (f2 5) (fun i => x12 _ i (by omega)) (fun i => x12 _ i (by omega)) hW
      generalize wkP sg a = kd at *
      obtain ⟨kd, wd⟩ := kd
      dsimp only at k hk ⊢
      rw [ri_vi, if_neg (by omega)]
      have set : ∀ (j : Nat) (x : Int), j < 3 → 2 ≤ kd → (j = 0 → kd = 2 ∧ x = v) → (j = 1 → kd = 3 ∧ x = if 23 < v then 23 else v) → (j = 2 → kd = 4 ∧ x = v) → K (some (vi 1)) (up2 I2 (oH c) j x) L c := by
        intro j x hj h2 j0 j1 j2
        rw [if_pos h2] at k
        refine k _ (fun y i q r => ?_) ⟨?_, ?_⟩ (fun i hi => ?_) (fun _ => ?_)
        · rw [up2_if, if_neg (by omega)]; exact x12 y i r
        · rw [up2_ne (by omega)]; exact a2.1
        · rw [up2_ne (by omega)]; exact a2.2
        · rw [up2_ne (by omega)]; exact b2 i hi
        · have g : ∀ i, i ≠ j → up2 I2 (oH c) j x (oH c) i = I (oH c) i := fun i hi => by rw [up2_at hi]; exact f2 i
          have gj : up2 I2 (oH c) j x (oH c) j = x := up2_same
          refine ⟨?_, ?_, ?_, ?_, ?_⟩
          · show up2 I2 (oH c) j x (oH c) 0 = if kd = 2 then v else I (oH c) 0
            by_cases z : j = 0
            · have := j0 z; subst z; rw [gj, if_pos this.1]; exact this.2
            · rw [g 0 (by omega), if_neg (by omega)]
          · show up2 I2 (oH c) j x (oH c) 1 = if kd = 3 then (if 23 < v then 23 else v) else I (oH c) 1
            by_cases z : j = 1
            · have := j1 z; subst z; rw [gj, if_pos this.1]; exact this.2
            · rw [g 1 (by omega), if_neg (by omega)]
          · show up2 I2 (oH c) j x (oH c) 2 = if kd = 4 then v else I (oH c) 2
            by_cases z : j = 2
            · have := j2 z; subst z; rw [gj, if_pos this.1]; exact this.2
            · rw [g 2 (by omega), if_neg (by omega)]
          · show MdC _ (oH c) (l ++ [])
            rw [List.append_nil]
            exact MdC_m (by rw [up2_at (by omega)]) (fun i => by rw [up2_ne (by omega)]) m2
          · show wsC _ (oH c) (if kd < 2 then _ else ws)
            rw [if_neg (by omega)]
            exact wsC_m (by rw [up2_at (by omega)]) (fun i => by rw [up2_ne (by omega)]) (fun i => by rw [up2_ne (by omega)]) w2
      by_cases k2 : kd = 2
      · rw [if_pos k2, chkE ho.1]
        exact set 0 v (by omega) (by omega) (fun _ => ⟨k2, rfl⟩) (fun a => by omega) (fun a => by omega)
      rw [if_neg k2]
      by_cases k3 : kd = 3
      · rw [if_pos k3, chkE ho.1]
        exact set 1 _ (by omega) (by omega) (fun a => by omega) (fun _ => ⟨k3, rfl⟩) (fun a => by omega)
      rw [if_neg k3]
      by_cases k4 : kd = 4
      · rw [if_pos k4, chkE ho.1]
        exact set 2 v (by omega) (by omega) (fun a => by omega) (fun a => by omega) (fun _ => ⟨k4, rfl⟩)
      rw [if_neg k4]
      rw [if_neg (show ¬ 2 ≤ kd by omega)] at k
      refine x_takes (d := e + 19) ht (RdT_2 x12 hT) a2 nk.2.1 (fun q => ?_) (fun q I3 x3 a3 => ?_)
      · rw [if_neg q] at k
        rw [ri_vi, if_pos rfl]
        exact k I2 (rdz_y (rdy_2 x12)) a2 b2 (fun e => by cases e)
      · rw [if_pos q] at k
        have lb := txt_lt ht (show 0 ≤ sg b by omega)
        have x13 := rd2_tr x12 x3
        have lv : rdM n tn (e + 20) 52 sg (4 - ((4 : Nat) : Int)) c (eitP sg (prt sg 4)) := x_readsEither (d := e + 18) ht hc (fun a ha => seq_ok ht (by decide) (by decide) (prt_ok ht 4) a ha) (x_readsBoth (d := e + 17) ht hc (prt_ok ht 4) (x_readsPart (n := n) ht hc 4 (e + 3) (by decide)))
        rw [show (4 : Int) - ((4 : Nat) : Int) = 0 by decide] at lv
        rw [ri_vi, if_neg (by decide)]
        refine lv _ _ _ _ _ (RdT_2 x13 hT) a3 lb (MdC_2 hh x13 hM) (BdC_2 hh x13 hB) (by omega) ?_
        intro I4 ⟨x4, a4, b4, m4⟩
        have x14 : rdy (oH c) I I4 := rdy_tr (rdy_2 x13) x4
        rw [ri_vi]
        generalize eitP sg (prt sg 4) (b + 1) = r at *
        refine wf_b (C := True) (fun t => ?_) (fun t => ?_)
        · have m4 := m4 t
          have w4 : wsC I4 (oH c) ws := wsC_m (x14 _ 5 (by omega) (by omega) (by omega)) (fun i => x14 _ i (by omega) (by omega) (by omega)) (fun i => x14 _ i (by omega) (by omega) (by omega)) hW
          have fin : ∀ z : Int, z = (if kd = 0 then v else -v) → C2 n (e + 17 + 3) 28 [vr (some (oH c)), vi z] I4 L c (fun r21 I22 L23 c24 => rv r21 (K (some (vi 1)) I22 L23 c24)) := by
            intro z hz
            refine x_addWish ho hh m4 w4 hw ?_
            intro I5 x5 w5
            rw [rv_no]
            have kk := k I5 (fun y i q r => ?_) ⟨?_, ?_⟩ (fun i hi => ?_) (fun _ => ⟨?_, ?_, ?_, ?_, ?_⟩)
            · rw [t] at kk; exact kk
            · rw [x5 y i (by omega) (by omega) (by omega)]; exact rdz_y x14 y i q r
            · rw [x5 74 2 (by omega) (by omega) (by omega)]; exact a4.1
            · rw [x5 74 3 (by omega) (by omega) (by omega)]; exact a4.2
            · rw [x5 _ i (by omega) (by omega) (by omega)]; exact b4 i hi
            · rw [x5 _ 0 (by omega) (by omega) (by omega), if_neg (show ¬ kd = 2 from k2)]; exact x14 _ 0 (by omega) (by omega) (by omega)
            · rw [x5 _ 1 (by omega) (by omega) (by omega), if_neg (show ¬ kd = 3 from k3)]; exact x14 _ 1 (by omega) (by omega) (by omega)
            · rw [x5 _ 2 (by omega) (by omega) (by omega), if_neg (show ¬ kd = 4 from k4)]; exact x14 _ 2 (by omega) (by omega) (by omega)
            · exact MdC_m (x5 _ 7 (by omega) (by omega) (by omega)) (fun i => x5 _ i (by omega) (by omega) (by omega)) m4
            · rw [if_pos (show kd < 2 by omega), ← hz]; exact w5
          by_cases k0 : kd = 0
          · rw [if_pos k0, chkE ho.1]
            exact fin v (by rw [if_pos k0])
          · rw [if_neg k0, chkE ho.1, wri (x := -v) (by omega)]
            exact fin (-v) (by rw [if_neg k0])
        · have kk := k I4 (rdz_y x14) a4 b4 (fun e => by rw [t] at e; cases e)
          rw [t] at kk
          exact kk
  · rw [if_neg w, if_pos rfl]
    have e1 : clsP sg a = (false, (wordP sg a).2, (0, 0, [])) := if_neg w
    rw [e1] at k
    exact k I1 (rdz_y (rdy_2 x1)) a1 (BdC_2 hh x1 hB) (fun e => by cases e)
