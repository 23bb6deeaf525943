/-! ===== the reference's reader: its small calls, and the loop with the stack ===== -/
theorem up2_nj {f : mI} {a k x j : Nat} {v : Int} (h : x ≠ a) : up2 f a k v x j = f x j := congrFun (up2_ne h) j
def RdM (I : mI) (sg : Nat → Int) (tn : Nat) : Prop := I 104 11 = (tn : Int) ∧ ∀ i, i < tn → I 110 i = sg i
/-- only the place and the digits change -/
def afr (I J : mI) : Prop := ∀ x j, ¬ (x = 104 ∧ (j = 12 ∨ j = 13)) → J x j = I x j
theorem afr_rf (I : mI) : afr I I := fun _ _ _ => rfl
theorem afr_tr {I J K : mI} (h1 : afr I J) (h2 : afr J K) : afr I K := fun a k q => (h2 a k q).trans (h1 a k q)
theorem afr_up {I : mI} {v : Int} : afr I (up2 I 104 12 v) := fun x j q => by rw [up2_if, if_neg (by omega)]
theorem afr_R {I J : mI} {sg : Nat → Int} {tn : Nat} (e : afr I J) (h : RdM I sg tn) : RdM J sg tn := by
  refine ⟨?_, fun i hi => ?_⟩
  · rw [e 104 11 (by omega)]; exact h.1
  · rw [e 110 i (by omega)]; exact h.2 i hi
theorem z_takes {n tn d a : Nat} {sg : Nat → Int} {o : Int} {I : mI} {L : mL} {c : Nat} {K : mK2} (ht : txt sg tn) (hR : RdM I sg tn) (hA : I 104 12 = (a : Int)) (ho : 0 ≤ o) (kf : sg a ≠ o → K (some (vi 0)) I L c) (kt : sg a = o → K (some (vi 1)) (up2 I 104 12 ((a + 1 : Nat) : Int)) L c) : C2 n (d + 1) 131 [vr (some 104), vi o] I L c K := by
  have n100 := ht.1
  refine m_takes ?_
  rw [hA, hR.1]
  by_cases w : a < tn
  · rw [if_pos (by omega), Int.toNat_natCast, hR.2 a w, wr_nat (show a < 1000000 by omega)]
    refine ⟨by omega, ?_⟩
    exact ite_i kt kf
  · have e := ht.2.2 a (by omega)
    rw [if_neg (by omega), if_neg (by omega)]
    exact kf (by omega)
theorem z_takesNumber {n tn d a : Nat} {sg : Nat → Int} {I : mI} {L : mL} {c : Nat} {K : mK2} (ht : txt sg tn) (hR : RdM I sg tn) (hA : I 104 12 = (a : Int)) (kf : numP sg a = none → K (some (vi 0)) I L c) (kt : ∀ v b I', numP sg a = some (v, b) → afr I I' → I' 104 12 = (b : Int) → I' 104 13 = v → K (some (vi 1)) I' L c) : C2 n (d + 2) 134 [vr (some 104)] I L c K := by
  have n100 := ht.1
  have dg : ∀ {A B : Prop} {x : Int}, (digit x → A) → (¬ digit x → B) → if x < 48 then B else if 57 < x then B else A := by
    intro A B x h1 h2
    by_cases q : x < 48
    · rw [if_pos q]; exact h2 (fun w => by have := w.1; omega)
    · rw [if_neg q]
      by_cases r : 57 < x
      · rw [if_pos r]; exact h2 (fun w => by have := w.2; omega)
      · rw [if_neg r]; exact h1 ⟨by omega, by omega⟩
  refine m_takesNumber ?_
  rw [hA, hR.1]
  by_cases w : a < tn
  · rw [if_pos (by omega), Int.toNat_natCast, hR.2 a w]
    refine ⟨by omega, ?_⟩
    refine dg (fun d1 => ?_) (fun d1 => kf (if_neg d1))
    have e1 : numP sg a = if digit (sg (a + 1)) then some ((sg a - 48) * 10 + sg (a + 1) - 48, a + 2) else some (sg a - 48, a + 1) := if_pos d1
    have d1 : 48 ≤ sg a ∧ sg a ≤ 57 := d1
    refine m_takesNumber_16 ?_
    have f12 : up2 I 104 13 0 104 12 = (a : Int) := by rw [up2_at (by decide)]; exact hA
    have f11 : up2 I 104 13 0 104 11 = (tn : Int) := by rw [up2_at (by decide)]; exact hR.1
    have f13 : up2 I 104 13 0 104 13 = 0 := up2_same
    have f110 : ∀ i, up2 I 104 13 0 110 i = I 110 i := fun i => up2_nj (by decide)
    rw [f12, f11, f110, f13, if_pos (by decide), if_pos (by omega), Int.toNat_natCast, hR.2 a w]
    refine ⟨by omega, ?_⟩
    rw [if_neg (by omega), if_neg (by omega), if_pos (by omega)]
    refine ⟨by omega, ?_⟩
    rw [wri (x := 10 * 0) (by omega), wri (x := 10 * 0 + sg a) (by omega), wri (x := 10 * 0 + sg a - 48) (by omega), show (10 : Int) * 0 + sg a - 48 = sg a - 48 by omega, wri (x := 0 + 1) (by omega)]
    have g12 : up2 (up2 I 104 13 0) 104 13 (sg a - 48) 104 12 = (a : Int) := by rw [up2_at (by decide)]; exact f12
    rw [g12, wr_nat (show a < 1000000 by omega)]
    generalize hJ : up2 (up2 (up2 I 104 13 0) 104 13 (sg a - 48)) 104 12 ((a + 1 : Nat) : Int) = J
    have j12 : J 104 12 = ((a + 1 : Nat) : Int) := by rw [← hJ, up2_same]
    have j13 : J 104 13 = sg a - 48 := by rw [← hJ, up2_at (by decide), up2_same]
    have jf : afr I J := fun x j q => by rw [← hJ, up2_if, if_neg (by omega), up2_if, if_neg (by omega), up2_if, if_neg (by omega)]
    have jR := afr_R jf hR
    clear hJ
    refine m_takesNumber_16 ?_
    rw [j12, jR.1, j13, if_pos (by decide)]
    by_cases w2 : a + 1 < tn
    · rw [if_pos (by omega), Int.toNat_natCast, jR.2 _ w2]
      refine ⟨by omega, ?_⟩
      refine dg (fun d2 => ?_) (fun d2 => ?_)
      · rw [if_pos d2] at e1
        have d2 : 48 ≤ sg (a + 1) ∧ sg (a + 1) ≤ 57 := d2
        rw [if_pos (by omega)]
        refine ⟨by omega, ?_⟩
        rw [wri (x := 10 * (sg a - 48)) (by omega), wri (x := 10 * (sg a - 48) + sg (a + 1)) (by omega), wri (x := 10 * (sg a - 48) + sg (a + 1) - 48) (by omega), wri (x := 0 + 1 + 1) (by omega)]
        have h12 : up2 J 104 13 (10 * (sg a - 48) + sg (a + 1) - 48) 104 12 = ((a + 1 : Nat) : Int) := by rw [up2_at (by decide)]; exact j12
        rw [h12, wr_nat (show a + 1 < 1000000 by omega)]
        refine m_takesNumber_16 ?_
        rw [if_neg (by decide)]
        refine kt _ _ _ e1 (fun x j q => ?_) up2_same ?_
        · rw [up2_if, if_neg (by omega), up2_if, if_neg (by omega)]; exact jf x j q
        · rw [up2_at (by decide), up2_same]; omega
      · rw [if_neg d2] at e1
        exact kt _ _ _ e1 jf j12 j13
    · rw [if_neg (by omega)]
      have e := ht.2.2 (a + 1) (by omega)
      rw [if_neg (fun w : digit (sg (a + 1)) => by have := w.1; omega)] at e1
      exact kt _ _ _ e1 jf j12 j13
  · have e := ht.2.2 a (by omega)
    rw [if_neg (by omega)]
    exact kf (if_neg (fun w : digit (sg a) => by have := w.1; omega))
def wlP (p t i : Nat) : List Int := (letT.drop (p + i)).take (t - i) ++ [32]
theorem wl_s {p t i : Nat} (h : p + t ≤ 22) (hi : i < t) : wlP p t i = letT.getD (p + i) 0 :: wlP p t (i + 1) := by
  unfold wlP
  have hl : letT.length = 22 := rfl
  rw [drop_getD (show p + i < letT.length by omega), show t - i = (t - (i + 1)) + 1 by omega]
  rfl
theorem let_nn (k : Nat) : 0 ≤ letT.getD k 0 := by
  by_cases h : k < 22
  · have : ∀ k : Fin 22, 0 ≤ letT.getD k.val 0 := by decide
    exact this ⟨k, h⟩
  · rw [List.getD_eq_getElem?_getD, List.getElem?_eq_none (show letT.length ≤ k by have : letT.length = 22 := rfl; omega)]
    exact Int.le_refl 0
theorem z_takesWord {n tn d a p t : Nat} {sg : Nat → Int} {I : mI} {L : mL} {c : Nat} {K : mK2} (ht : txt sg tn) (hR : RdM I sg tn) (hs : ∀ k, k < 22 → I 118 k = letT.getD k 0) (hA : I 104 12 = (a : Int)) (hp : p + t ≤ 22)
    (k : ∀ I', afr I I' → I' 104 12 = (((strP sg (wlP p t 0) a).2 : Nat) : Int) → K (some (vi (b2i (strP sg (wlP p t 0) a).1))) I' L c) : C2 n (d + 2) 132 [vr (some 104), vi (p : Int), vi (t : Int)] I L c K := by
  have key : ∀ i, i ≤ t → ∀ (b : Nat) (J : mI), afr I J → J 104 12 = (b : Int) → (∀ I', afr I I' → I' 104 12 = (((strP sg (wlP p t i) b).2 : Nat) : Int) → K (some (vi (b2i (strP sg (wlP p t i) b).1))) I' L c) → W2 n (d + 2) 132 2 [some (vr (some 104)), some (vi (p : Int)), some (vi (t : Int)), some (vi (i : Int))] [] J L c K := by
    refine loopN (N := t) ?_ ?_
    · intro b J f a1 kk
      have e : wlP p t t = [32] := by unfold wlP; rw [Nat.sub_self]; rfl
      rw [e] at kk
      refine m_takesWord_2 ?_
      rw [if_neg (by omega)]
      refine z_takes (a := b) ht (afr_R f hR) a1 (by decide) (fun q => ?_) (fun q => ?_)
      · rw [str_n q] at kk
        exact kk J f a1
      · rw [str_c q] at kk
        exact kk _ (afr_tr f afr_up) up2_same
    · intro i hi ih b J f a1 kk
      rw [wl_s hp hi] at kk
      refine m_takesWord_2 ?_
      rw [if_pos (by omega), wri (x := (p : Int) + (i : Int)) (by omega), show (p : Int) + (i : Int) = ((p + i : Nat) : Int) by omega, Int.toNat_natCast, f 118 _ (by omega), hs _ (by omega), wr_nat (show i < 1000000 by omega)]
      refine ⟨by omega, ?_⟩
      refine z_takes (a := b) ht (afr_R f hR) a1 (let_nn _) (fun q => ?_) (fun q => ?_)
      · rw [str_n q] at kk
        rw [ri_vi, if_pos rfl]
        exact kk J f a1
      · rw [str_c q] at kk
        rw [ri_vi, if_neg (by decide)]
        exact ih (b + 1) _ (afr_tr f afr_up) up2_same kk
  refine m_takesWord ?_
  exact key 0 (Nat.zero_le _) a I (afr_rf I) hA k
theorem wf_1 {b : Bool} {A : Prop} (h : A) : b01W (b2i b) A := by
  cases b <;> exact h
/-- a clause's word, as the reference writes it down -/
theorem z_takesHead {n tn d a p : Nat} {sg : Nat → Int} {I : mI} {L : mL} {c : Nat} {K : mK2} (ht : txt sg tn) (hR : RdM I sg tn) (hs : ∀ k, k < 22 → I 118 k = letT.getD k 0) (hA : I 104 12 = (a : Int)) (hn : a ≤ tn) (hp : p < 60)
    (k : ∀ I', afr (up2 I 112 p (wkP sg a).1) I' → I' 104 12 = (((wordP sg a).2 : Nat) : Int) → K (some (vi (b2i (wordP sg a).1))) I' L c) : C2 n (d + 3) 141 [vr (some 104), vi (p : Int)] I L c K := by
  have n100 := ht.1
  have go : ∀ (q : Nat) (t : Nat) (v : Int), q + t ≤ 22 → wkP sg a = (v, wlP q t 0) → C2 n (d + 2) 132 [vr (some 104), vi (q : Int), vi (t : Int)] (up2 I 112 p v) L c (fun r I L c => ri r (fun x => b01W x (K (some (vi x)) I L c))) := by
    intro q t v hq e
    have f : ∀ x j, x ≠ 112 → up2 I 112 p v x j = I x j := fun x j h => up2_nj h
    refine z_takesWord ht (a := a) ⟨by rw [f _ _ (by decide)]; exact hR.1, fun i hi => by rw [f _ _ (by decide)]; exact hR.2 i hi⟩ (fun j hj => by rw [f _ _ (by decide)]; exact hs j hj) (by rw [f _ _ (by decide)]; exact hA) hq ?_
    intro I' a1 a2
    rw [ri_vi]
    refine wf_1 ?_
    unfold wordP at k
    rw [e] at k
    exact k I' a1 a2
  have hb : (0 : Int) ≤ (p : Int) ∧ (p : Int) < 60 := by omega
  refine m_takesHead ?_
  simp only [Int.toNat_natCast, up2_same]
  rw [hA, hR.1]
  by_cases w : a < tn
  · rw [if_pos (by omega), Int.toNat_natCast, hR.2 a w]
    refine ⟨by omega, ?_⟩
    by_cases h1 : sg a = 108
    · rw [if_pos h1, wri (x := (a : Int) + 2) (by omega), show (a : Int) + 2 = ((a + 2 : Nat) : Int) by omega, Int.toNat_natCast]
      have el : wkP sg a = if sg (a + 2) = 103 then (3, [108, 105, 103, 104, 116, 32]) else (0, [108, 105, 107, 101, 32]) := by unfold wkP; rw [if_neg (by omega), if_neg (by omega), if_pos h1]
      by_cases w2 : a + 2 < tn
      · rw [if_pos (by omega), hR.2 _ w2]
        refine ⟨by omega, ?_⟩
        by_cases h2 : sg (a + 2) = 103
        · rw [if_pos h2] at el
          rw [if_pos h2, if_pos trivial]
          exact ⟨hb, hb, go 13 5 3 (by decide) el⟩
        · rw [if_neg h2] at el
          rw [if_neg h2, if_neg (by decide)]
          exact ⟨hb, hb, go 0 4 0 (by decide) el⟩
      · have e := ht.2.2 (a + 2) (by omega)
        rw [if_neg (by omega)] at el
        rw [if_neg (by omega), if_neg (by decide)]
        exact ⟨hb, hb, go 0 4 0 (by decide) el⟩
    rw [if_neg h1]
    by_cases h2 : sg a = 109
    · rw [if_pos h2]
      exact ⟨hb, go 4 4 1 (by decide) (if_pos h2)⟩
    rw [if_neg h2]
    by_cases h3 : sg a = 116
    · rw [if_pos h3]
      exact ⟨hb, go 8 5 2 (by decide) (by unfold wkP; rw [if_neg h2, if_pos h3]; rfl)⟩
    rw [if_neg h3]
    exact ⟨hb, go 18 4 4 (by decide) (by unfold wkP; rw [if_neg h2, if_neg h3, if_neg h1]; rfl)⟩
  · have e := ht.2.2 a (by omega)
    rw [if_neg (by omega)]
    exact ⟨hb, go 18 4 4 (by decide) (by unfold wkP; rw [if_neg (by omega), if_neg (by omega), if_neg (by omega)]; rfl)⟩
