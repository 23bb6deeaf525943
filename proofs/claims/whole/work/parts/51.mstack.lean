/-! ===== the reference's reader: the loop with the stack ===== -/
def stkM (I : mI) : List Int → Prop
  | [] => True
  | x :: S => I 117 S.length = x ∧ stkM I S
theorem stk_c {I J : mI} : ∀ S : List Int, (∀ k, k < S.length → J 117 k = I 117 k) → stkM I S → stkM J S
  | [], _, _ => trivial
  | _ :: S, e, h => ⟨by rw [e S.length (Nat.lt_succ_self _)]; exact h.1, stk_c S (fun k hk => e k (Nat.lt_succ_of_lt hk)) h.2⟩
def CdM (I : mI) (b0 : Nat) (l : List Int) : Prop := I 104 22 = ((b0 + l.length : Nat) : Int) ∧ ∀ i, i < l.length → I 116 (b0 + i) = l.getD i 0
def StM (sg : Nat → Int) (tn b0 B : Nat) (I : mI) (a : Nat) (S l : List Int) : Prop := RdM I sg tn ∧ I 104 12 = (a : Int) ∧ CdM I b0 l ∧ (I 104 23 = (S.length : Int) ∧ I 104 24 = (opn S : Int) ∧ stkM I S) ∧ (a ≤ tn ∧ b0 + l.length + S.length ≤ B + a)
/-- what one step of the reader may change -/
def mfr (b0 : Nat) (I J : mI) : Prop := ∀ x k, x ≠ 117 → ¬ (x = 116 ∧ b0 ≤ k) → ¬ (x = 104 ∧ (k = 12 ∨ k = 13 ∨ k = 22 ∨ k = 23 ∨ k = 24)) → J x k = I x k
/-- and one clause's place of end, within its office's codes -/
def pfr (cl b0 B : Nat) (I J : mI) : Prop := (∀ x k, x ≠ 117 → ¬ (x = 116 ∧ b0 ≤ k) → ¬ (x = 104 ∧ (k = 12 ∨ k = 13 ∨ k = 22 ∨ k = 23 ∨ k = 24)) → ¬ (x = 115 ∧ k = cl) → J x k = I x k) ∧ J 115 cl ≤ ((B + 100 : Nat) : Int)
theorem pfr_m {cl b0 B : Nat} {I J K : mI} (h : pfr cl b0 B I J) (e : mfr b0 J K) : pfr cl b0 B I K := by
  refine ⟨fun x k q1 q2 q3 q4 => ?_, ?_⟩
  · rw [e x k q1 q2 q3]; exact h.1 x k q1 q2 q3 q4
  · rw [e 115 cl (by decide) (by omega) (by omega)]; exact h.2
theorem Cd_em {I J : mI} {b0 : Nat} {l : List Int} {z : Int} (h : CdM I b0 l) (e22 : J 104 22 = ((b0 + l.length + 1 : Nat) : Int)) (e116 : ∀ k, J 116 k = if k = b0 + l.length then z else I 116 k) : CdM J b0 (l ++ [z]) := by
  refine ⟨by rw [e22, List.length_append, List.length_singleton, Nat.add_assoc], fun i hi => ?_⟩
  rw [List.length_append, List.length_singleton] at hi
  rw [e116]
  by_cases e : i = l.length
  · rw [if_pos (by omega), e, List.getD_eq_getElem?_getD, List.getElem?_append_right (Nat.le_refl _), Nat.sub_self]
    rfl
  · rw [if_neg (by omega), List.getD_eq_getElem?_getD, List.getElem?_append_left (by omega), ← List.getD_eq_getElem?_getD]
    exact h.2 i (by omega)
theorem z_emits {n d q : Nat} {p : Int} {I : mI} {L : mL} {c : Nat} {K : mK2} (hq : I 104 22 = (q : Int)) (h6 : q < 600) (k : K none (up2 (up2 I 116 q p) 104 22 ((q + 1 : Nat) : Int)) L c) : C2 n d 135 [vr (some 104), vi p] I L c K := by
  have f : up2 I 116 q p 104 22 = (q : Int) := by rw [up2_ne (by decide)]; exact hq
  refine m_emits ?_
  rw [hq, Int.toNat_natCast, f, wr_nat (show q < 1000000 by omega)]
  exact ⟨by omega, k⟩
theorem St_pop {sg : Nat → Int} {tn b0 B b : Nat} {I J : mI} {x z : Int} {S l : List Int} (h : StM sg tn b0 B I b (x :: S) l) (e : ∀ y k, J y k = if y = 104 ∧ k = 22 then ((b0 + l.length + 1 : Nat) : Int) else if y = 104 ∧ k = 23 then (S.length : Int) else if y = 104 ∧ k = 24 then (opn S : Int) else if y = 116 ∧ k = b0 + l.length then z else I y k) : StM sg tn b0 B J b S (l ++ [z]) := by
  obtain ⟨⟨r1, r2⟩, hA, hC, ⟨h3, h4, hk⟩, hb⟩ := h
  have hl : (x :: S).length = S.length + 1 := rfl
  rw [hl] at hb
  refine ⟨⟨?_, fun i hi => ?_⟩, ?_, Cd_em hC ?_ (fun k => ?_), ⟨?_, ?_, stk_c S (fun k hk => ?_) hk.2⟩, hb.1, ?_⟩
  · rw [e, if_neg (by omega), if_neg (by omega), if_neg (by omega), if_neg (by omega)]; exact r1
  · rw [e, if_neg (by omega), if_neg (by omega), if_neg (by omega), if_neg (by omega)]; exact r2 i hi
  · rw [e, if_neg (by omega), if_neg (by omega), if_neg (by omega), if_neg (by omega)]; exact hA
  · rw [e, if_pos ⟨rfl, rfl⟩]
  · rw [e, if_neg (by omega), if_neg (by omega), if_neg (by omega)]
    by_cases q : k = b0 + l.length
    · rw [if_pos ⟨rfl, q⟩, if_pos q]
    · rw [if_neg (fun w => q w.2), if_neg q]
  · rw [e, if_neg (by omega), if_pos ⟨rfl, rfl⟩]
  · rw [e, if_neg (by omega), if_neg (by omega), if_pos ⟨rfl, rfl⟩]
  · rw [e, if_neg (by omega), if_neg (by omega), if_neg (by omega), if_neg (by omega)]
  · rw [List.length_append, List.length_singleton]; omega
theorem opn_0 {x : Int} {S : List Int} (h : ¬ (x = 33 ∨ x = 40)) : opn (x :: S) = opn S := by
  show opn S + (if x = 33 ∨ x = 40 then 1 else 0) = _
  rw [if_neg h]
  rfl
theorem opn_1 {x : Int} {S : List Int} (h : x = 33 ∨ x = 40) : opn (x :: S) = opn S + 1 := by
  show opn S + (if x = 33 ∨ x = 40 then 1 else 0) = _
  rw [if_pos h]
theorem opn_le : ∀ S : List Int, opn S ≤ S.length
  | [] => Nat.le_refl _
  | x :: S => by
    have ih := opn_le S
    show opn S + (if x = 33 ∨ x = 40 then 1 else 0) ≤ S.length + 1
    split <;> omega
theorem z_settle {n e tn b0 B cl b : Nat} {sg : Nat → Int} {p : Int} {I0 : mI} {L : mL} {c : Nat} {K : mK2} (hB : B ≤ 500 ∧ B ≤ b0) (ht : txt sg tn) : ∀ (S l : List Int) (I : mI), pfr cl b0 B I0 I → StM sg tn b0 B I b S l → (∀ I', pfr cl b0 B I0 I' → StM sg tn b0 B I' b (stl p S l).1 (stl p S l).2 → K none I' L c) → W2 n (e + 1) 137 0 [some (vr (some 104)), some (vi p)] [] I L c K
  | [], l, I, hf, hS, k => by
    have hS' := hS
    obtain ⟨hR, hA, hC, ⟨h3, h4, hk⟩, hb⟩ := hS'
    refine m_settle_0 ?_
    rw [h3, if_neg (by decide)]
    exact k I hf hS
  | x :: S, l, I, hf, hS, k => by
    have hS' := hS
    have n100 := ht.1
    obtain ⟨hR, hA, hC, ⟨h3, h4, hk⟩, hb⟩ := hS'
    have hl : (x :: S).length = S.length + 1 := rfl
    rw [hl] at h3 hb
    have v1 : wr (((S.length + 1 : Nat) : Int) - 1) = (S.length : Int) := by rw [wri (by omega)]; omega
    have hx : I 117 S.length = x := hk.1
    have em : ∀ z, z = -x → (x = 38 ∨ x = 124) → (∀ I', pfr cl b0 B I0 I' → StM sg tn b0 B I' b (stl p S (l ++ [z])).1 (stl p S (l ++ [z])).2 → K none I' L c) → C2 n e 135 [vr (some 104), vi z] (up2 I 104 23 (S.length : Int)) L c (fun r1 I2 L3 c4 => rv r1 (W2 n (e + 1) 137 0 [some (vr (some 104)), some (vi p)] [] I2 L3 c4 K)) := by
      intro z hz h2 kk
      refine z_emits (q := b0 + l.length) (by rw [up2_at (by decide)]; exact hC.1) (by omega) ?_
      rw [rv_no]
      refine z_settle hB ht S (l ++ [z]) _ (pfr_m hf (fun y j q1 q2 q3 => ?_)) (St_pop hS (fun y j => ?_)) kk
      · rw [up2_if, if_neg (by omega), up2_if, if_neg (by omega), up2_if, if_neg (by omega)]
      · have o0 := opn_0 (x := x) (S := S) (by omega)
        rw [up2_if, up2_if, up2_if]
        by_cases q1 : y = 104 ∧ j = 22
        · rw [if_pos q1, if_pos q1]
        rw [if_neg q1, if_neg q1]
        by_cases q2 : y = 104 ∧ j = 23
        · rw [if_neg (by omega), if_pos q2, if_pos q2]
        rw [if_neg q2, if_neg q2]
        by_cases q3 : y = 104 ∧ j = 24
        · rw [if_neg (by omega), if_pos q3, q3.1, q3.2, h4, o0]
        rw [if_neg q3]
    refine m_settle_0 ?_
    rw [h3, if_pos (by omega), v1]
    have f1 : up2 I 104 23 (S.length : Int) 104 23 = (S.length : Int) := up2_same
    have f2 : ∀ j, up2 I 104 23 (S.length : Int) 117 j = I 117 j := fun j => up2_nj (by decide)
    rw [f1, f2, Int.toNat_natCast, hx]
    refine ⟨by omega, ?_⟩
    by_cases q1 : x = 38
    · rw [q1, stl_38] at k
      rw [if_pos q1, wri (x := -x) (by omega)]
      refine ⟨by omega, ?_⟩
      exact em (-x) rfl (Or.inl q1) (by rw [q1]; exact k)
    rw [if_neg q1]
    refine ⟨by omega, ?_⟩
    by_cases q2 : x = 124
    · rw [if_pos q2]
      by_cases q3 : p = 38
      · rw [if_pos q3]
        have es : stl p (x :: S) l = (x :: S, l) := by
          show (if x = 38 then _ else if x = 124 ∧ p ≠ 38 then _ else (x :: S, l)) = _
          rw [if_neg q1, if_neg (fun w => w.2 q3)]
        rw [es] at k
        exact k I hf hS
      · rw [if_neg q3, wri (x := -x) (by omega)]
        rw [q2, stl_124 q3] at k
        refine ⟨by omega, ?_⟩
        exact em (-x) rfl (Or.inr q2) (by rw [q2]; exact k)
    · rw [if_neg q2]
      have es : stl p (x :: S) l = (x :: S, l) := by
        show (if x = 38 then _ else if x = 124 ∧ p ≠ 38 then _ else (x :: S, l)) = _
        rw [if_neg q1, if_neg (fun w => q2 w.1)]
      rw [es] at k
      exact k I hf hS
/-! the loop's places -/
def WTm (n d cl tn b0 B : Nat) (sg : Nat → Int) (I0 : mI) (L : mL) (c : Nat) (K : mK2) (a : Nat) (S l : List Int) : Prop := ∀ I, pfr cl b0 B I0 I → StM sg tn b0 B I a S l → W2 n (d + 4) 140 22 [some (vr (some 104)), some (vi (cl : Int)), some (vi 1), none] [] I L c K
def PWm (n d cl tn b0 B : Nat) (sg : Nat → Int) (I0 : mI) (L : mL) (c : Nat) (K : mK2) (b : Nat) (S l : List Int) : Prop := ∀ (I : mI) (e : Nat) (K' : mK2), pfr cl b0 B I0 I → StM sg tn b0 B I b S l → (∀ I', W2 n (d + 4) 140 22 [some (vr (some 104)), some (vi (cl : Int)), some (vi 0), none] [] I' L c K → K' none I' L c) → W2 n (e + 1) 136 0 [some (vr (some 104))] [] I L c K'
def FLm (cl b0 B : Nat) (I0 : mI) (L : mL) (c : Nat) (K : mK2) (b : Nat) : Prop := ∀ I, pfr cl b0 B I0 I → I 104 12 = (b : Int) → K (some (vi 0)) I L c
def OKm (cl b0 B : Nat) (I0 : mI) (L : mL) (c : Nat) (K : mK2) (b : Nat) (l : List Int) : Prop := ∀ I, pfr cl b0 B I0 I → I 104 12 = (b : Int) → CdM I b0 l → I 115 cl = ((b0 + l.length : Nat) : Int) → K (some (vi 1)) I L c
theorem z_whole33 {n d cl tn b0 B : Nat} {sg : Nat → Int} {I0 : mI} {L : mL} {c : Nat} {K : mK2} (hB : B ≤ 500 ∧ B ≤ b0) (ht : txt sg tn) {b : Nat} {S l : List Int} (h : PWm n d cl tn b0 B sg I0 L c K b S (l ++ [-33])) : PWm n d cl tn b0 B sg I0 L c K b (33 :: S) l := by
  intro I e K' hf hS hk
  have hS' := hS
  have n100 := ht.1
  obtain ⟨hR, hA, hC, ⟨h3, h4, hs⟩, hb⟩ := hS'
  have hl : ((33 : Int) :: S).length = S.length + 1 := rfl
  rw [hl] at h3 hb
  have v1 : wr (((S.length + 1 : Nat) : Int) - 1) = (S.length : Int) := by rw [wri (by omega)]; omega
  have ho := opn_1 (x := 33) (S := S) (Or.inl rfl)
  have lo := opn_le S
  refine m_whole_0 ?_
  rw [h3, if_pos (by omega), v1, Int.toNat_natCast, show I 117 S.length = 33 from hs.1, if_pos rfl]
  refine ⟨by omega, ?_⟩
  refine z_emits (q := b0 + l.length) hC.1 (by omega) ?_
  rw [rv_no]
  generalize hJ : up2 (up2 I 116 (b0 + l.length) (-33)) 104 22 ((b0 + l.length + 1 : Nat) : Int) = J
  have f3 : J 104 23 = ((S.length + 1 : Nat) : Int) := by rw [← hJ, up2_at (by decide), up2_ne (by decide)]; exact h3
  have f4 : J 104 24 = ((opn S + 1 : Nat) : Int) := by rw [← hJ, up2_at (by decide), up2_ne (by decide), h4, ho]
  have g4 : up2 J 104 23 (S.length : Int) 104 24 = ((opn S + 1 : Nat) : Int) := by rw [up2_at (by decide)]; exact f4
  rw [f3, v1, g4, wri (x := ((opn S + 1 : Nat) : Int) - 1) (by omega), show ((opn S + 1 : Nat) : Int) - 1 = (opn S : Int) by omega]
  refine h _ e K' (pfr_m hf (fun y j q1 q2 q3 => ?_)) (St_pop hS (fun y j => ?_)) hk
  · rw [up2_if, if_neg (by omega), up2_if, if_neg (by omega), ← hJ, up2_if, if_neg (by omega), up2_if, if_neg (by omega)]
  · rw [up2_if, up2_if, ← hJ, up2_if, up2_if]
    by_cases q1 : y = 104 ∧ j = 22
    · rw [if_pos q1, if_pos q1, if_neg (by omega), if_neg (by omega)]
    rw [if_neg q1, if_neg q1]
    by_cases q2 : y = 104 ∧ j = 23
    · rw [if_pos q2, if_pos q2, if_neg (by omega)]
    rw [if_neg q2, if_neg q2]
theorem z_done {n d cl tn b0 B : Nat} {sg : Nat → Int} {I0 : mI} {L : mL} {c : Nat} {K : mK2} (hB : B ≤ 500 ∧ B ≤ b0) (hcl : cl < 60) (ht : txt sg tn) {b : Nat} {S l : List Int} (h : DNp sg (WTm n d cl tn b0 B sg I0 L c K) (PWm n d cl tn b0 B sg I0 L c K) (FLm cl b0 B I0 L c K) (OKm cl b0 B I0 L c K) b S l) (I : mI) (hf : pfr cl b0 B I0 I) (hS : StM sg tn b0 B I b S l) : W2 n (d + 4) 140 22 [some (vr (some 104)), some (vi (cl : Int)), some (vi 0), none] [] I L c K := by
  have n100 := ht.1
  have hR := hS.1
  have hA := hS.2.1
  have hb := hS.2.2.2.2
  unfold DNp at h
  -- an operator is put on the stack
  have op : ∀ p : Int, sg b = p → b < tn → (p = 38 ∨ p = 124) → WTm n d cl tn b0 B sg I0 L c K (b + 1) (p :: (stl p S l).1) (stl p S l).2 → C2 n (d + 3) 137 [vr (some 104), vi p] I L c (fun r1 I2 L3 c4 => rv r1 ((0 ≤ (I2 104 23) ∧ (I2 104 23) < 101) ∧ (W2 n (d + 4) 140 22 [some (vr (some 104)), some (vi (cl : Int)), some (vi 1), none] [] (up2 (up2 (up2 I2 117 ((I2 104 23).toNat) p) 104 23 (wr (((up2 I2 117 ((I2 104 23).toNat) p) 104 23) + 1))) 104 12 (wr (((up2 (up2 I2 117 ((I2 104 23).toNat) p) 104 23 (wr (((up2 I2 117 ((I2 104 23).toNat) p) 104 23) + 1))) 104 12) + 1))) L3 c4 K))) := by
    intro p hp hbt h2 hw
    refine vc_C rfl ?_
    refine z_settle (e := d + 2) hB ht S l I hf hS ?_
    intro I2 f2 S2
    generalize hS1 : (stl p S l).1 = S1 at *
    generalize hl1 : (stl p S l).2 = l1 at *
    obtain ⟨R2, A2, C2', ⟨a3, a4, ak⟩, ab⟩ := S2
    have g1 : up2 I2 117 S1.length p 104 23 = (S1.length : Int) := by rw [up2_ne (by decide)]; exact a3
    rw [rv_no, a3, Int.toNat_natCast, g1, wr_nat (show S1.length < 1000000 by omega)]
    have g2 : up2 (up2 I2 117 S1.length p) 104 23 ((S1.length + 1 : Nat) : Int) 104 12 = (b : Int) := by rw [up2_at (by decide), up2_ne (by decide)]; exact A2
    rw [g2, wr_nat (show b < 1000000 by omega)]
    refine ⟨by omega, ?_⟩
    refine hw _ (pfr_m f2 (fun y j q1 q2 q3 => ?_)) ⟨⟨?_, fun i hi => ?_⟩, up2_same, ⟨?_, fun i hi => ?_⟩, ⟨?_, ?_, ?_, stk_c S1 (fun k hk => ?_) ak⟩, by omega, ?_⟩
    · rw [up2_if, if_neg (by omega), up2_if, if_neg (by omega), up2_if, if_neg (by omega)]
    · rw [up2_at (by decide), up2_at (by decide), up2_ne (by decide)]; exact R2.1
    · rw [up2_ne (by decide), up2_ne (by decide), up2_ne (by decide)]; exact R2.2 i hi
    · rw [up2_at (by decide), up2_at (by decide), up2_ne (by decide)]; exact C2'.1
    · rw [up2_ne (by decide), up2_ne (by decide), up2_ne (by decide)]; exact C2'.2 i hi
    · rw [up2_at (by decide), up2_same]; rfl
    · rw [up2_at (by decide), up2_at (by decide), up2_ne (by decide), a4, opn_0 (by omega)]
    · rw [up2_ne (by decide), up2_ne (by decide), up2_same]
    · rw [up2_ne (by decide), up2_ne (by decide), up2_at (by omega)]
    · show b0 + l1.length + (S1.length + 1) ≤ B + (b + 1); omega
  -- the end, or a ) that closes
  have fin : ¬ sg b = 38 → ¬ sg b = 124 → ∀ I2, pfr cl b0 B I0 I2 → StM sg tn b0 B I2 b (stl 124 S l).1 (stl 124 S l).2 → ∀ J, J = up2 I2 115 cl (I2 104 22) → J 104 23 = (((stl 124 S l).1.length : Nat) : Int) ∧ ((stl 124 S l).1.length = 0 → K (some (vi 1)) J L c) ∧ ((stl 124 S l).1.length ≠ 0 → sg b ≠ 41 → K (some (vi 0)) J L c) ∧ ((stl 124 S l).1.length ≠ 0 → sg b = 41 → b < tn → C2 n (d + 3) 136 [vr (some 104)] (up2 (up2 (up2 J 104 23 (wr ((J 104 23) - 1))) 104 24 (wr (((up2 J 104 23 (wr ((J 104 23) - 1))) 104 24) - 1))) 104 12 (wr (((up2 (up2 J 104 23 (wr ((J 104 23) - 1))) 104 24 (wr (((up2 J 104 23 (wr ((J 104 23) - 1))) 104 24) - 1))) 104 12) + 1))) L c (fun r13 I14 L15 c16 => rv r13 (W2 n (d + 4) 140 22 [some (vr (some 104)), some (vi (cl : Int)), some (vi 0), none] [] I14 L15 c16 K))) := by
    intro q8 q4 I2 f2 S2 J hJ
    rw [if_neg q8, if_neg q4] at h
    generalize (stl 124 S l).1 = S1 at *
    generalize (stl 124 S l).2 = l1 at *
    obtain ⟨R2, A2, ⟨D1, D2⟩, ⟨a3, a4, ak⟩, ab⟩ := S2
    have jn : ∀ x k, x ≠ 115 → J x k = I2 x k := fun x k q => by rw [hJ]; exact up2_nj q
    have j5 : J 115 cl = ((b0 + l1.length : Nat) : Int) := by rw [hJ, up2_same]; exact D1
    have jf : pfr cl b0 B I0 J := by
      refine ⟨fun x k q1 q2 q3 q4 => ?_, by rw [j5]; omega⟩
      rw [hJ, up2_if, if_neg q4]
      exact f2.1 x k q1 q2 q3 q4
    have jC : CdM J b0 l1 := ⟨by rw [jn _ _ (by decide)]; exact D1, fun i hi => by rw [jn _ _ (by decide)]; exact D2 i hi⟩
    have jA : J 104 12 = (b : Int) := by rw [jn _ _ (by decide)]; exact A2
    have j3 : J 104 23 = ((S1.length : Nat) : Int) := by rw [jn _ _ (by decide)]; exact a3
    have j4 : J 104 24 = (opn S1 : Int) := by rw [jn _ _ (by decide)]; exact a4
    have jk : ∀ k, J 117 k = I2 117 k := fun k => jn _ _ (by decide)
    have jR : RdM J sg tn := ⟨by rw [jn _ _ (by decide)]; exact R2.1, fun i hi => by rw [jn _ _ (by decide)]; exact R2.2 i hi⟩
    clear hJ jn
    refine ⟨j3, fun z => ?_, fun z q1 => ?_, fun z q1 hbt => ?_⟩
    · cases S1 with
      | nil => exact h J jf jA jC j5
      | cons x S' => cases z
    · cases S1 with
      | nil => exact absurd rfl z
      | cons x S' =>
        have h : if sg b = 41 then _ else _ := h
        rw [if_neg q1] at h
        exact h J jf jA
    · cases S1 with
      | nil => exact absurd rfl z
      | cons x S' =>
        have h : if sg b = 41 then x = 40 ∧ PWm n d cl tn b0 B sg I0 L c K (b + 1) S' l1 else _ := h
        rw [if_pos q1] at h
        obtain ⟨h40, h⟩ := h
        have hl : (x :: S').length = S'.length + 1 := rfl
        rw [hl] at j3 ab
        have lo := opn_le S'
        rw [opn_1 (Or.inr h40)] at j4
        have v1 : wr (((S'.length + 1 : Nat) : Int) - 1) = (S'.length : Int) := by rw [wri (by omega)]; omega
        have v2 : wr (((opn S' + 1 : Nat) : Int) - 1) = (opn S' : Int) := by rw [wri (by omega)]; omega
        have g4 : up2 J 104 23 (S'.length : Int) 104 24 = ((opn S' + 1 : Nat) : Int) := by rw [up2_at (by decide)]; exact j4
        rw [j3, v1, g4, v2]
        have g5 : up2 (up2 J 104 23 (S'.length : Int)) 104 24 (opn S' : Int) 104 12 = (b : Int) := by rw [up2_at (by decide), up2_at (by decide)]; exact jA
        rw [g5, wr_nat (show b < 1000000 by omega)]
        refine vc_C rfl ?_
        refine h _ (d + 2) _ (pfr_m jf (fun y j q1 q2 q3 => ?_)) ⟨⟨?_, fun i hi => ?_⟩, up2_same, ⟨?_, fun i hi => ?_⟩, ⟨?_, ?_, stk_c S' (fun k hk => ?_) ak.2⟩, by omega, by omega⟩ (fun I' w => w)
        · rw [up2_if, if_neg (by omega), up2_if, if_neg (by omega), up2_if, if_neg (by omega)]
        · rw [up2_at (by decide), up2_at (by decide), up2_at (by decide)]; exact jR.1
        · rw [up2_ne (by decide), up2_ne (by decide), up2_ne (by decide)]; exact jR.2 i hi
        · rw [up2_at (by decide), up2_at (by decide), up2_at (by decide)]; exact jC.1
        · rw [up2_ne (by decide), up2_ne (by decide), up2_ne (by decide)]; exact jC.2 i hi
        · rw [up2_at (by decide), up2_at (by decide), up2_same]
        · rw [up2_at (by decide), up2_same]
        · rw [up2_ne (by decide), up2_ne (by decide), up2_ne (by decide)]; exact jk k
  have hcl' : (0 : Int) ≤ (cl : Int) ∧ (cl : Int) < 60 := by omega
  refine m_takesE_22 ?_
  rw [hA, hR.1, Int.toNat_natCast, Int.toNat_natCast]
  by_cases w : b < tn
  · rw [if_pos (by omega), hR.2 b w, if_pos rfl]
    refine ⟨by omega, ?_⟩
    by_cases q8 : sg b = 38
    · rw [if_pos q8] at h
      rw [if_pos q8, q8]
      exact op 38 q8 w (Or.inl rfl) h
    rw [if_neg q8]
    by_cases q4 : sg b = 124
    · rw [if_neg q8, if_pos q4] at h
      rw [if_pos q4, q4]
      exact op 124 q4 w (Or.inr rfl) h
    rw [if_neg q4]
    refine vc_C rfl ?_
    refine z_settle (e := d + 2) hB ht S l I hf hS ?_
    intro I2 f2 S2
    obtain ⟨g1, g2, g3, g4⟩ := fin q8 q4 I2 f2 S2 _ rfl
    rw [rv_no, g1]
    refine ⟨hcl', ?_⟩
    rw [g1] at g4
    by_cases z : (stl 124 S l).1.length = 0
    · rw [if_pos (by omega)]; exact g2 z
    · rw [if_neg (by omega)]
      exact ite_i (fun q1 => g4 z q1 w) (fun q1 => g3 z q1)
  · have e := ht.2.2 b (by omega)
    rw [if_neg (by omega), if_pos rfl]
    refine vc_C rfl ?_
    refine z_settle (e := d + 2) hB ht S l I hf hS ?_
    intro I2 f2 S2
    obtain ⟨g1, g2, g3, g4⟩ := fin (by omega) (by omega) I2 f2 S2 _ rfl
    rw [rv_no, g1]
    refine ⟨hcl', ?_⟩
    by_cases z : (stl 124 S l).1.length = 0
    · rw [if_pos (by omega)]; exact g2 z
    · rw [if_neg (by omega)]
      exact g3 z (by omega)
theorem z_place {n d : Nat} {p : Int} {I : mI} {L : mL} {c : Nat} {K : mK2} (k : ∀ v, (letP p = some v ∨ (letP p = none ∧ v = -1)) → K (some (vi v)) I L c) : C2 n d 138 [vr (some 104), vi p] I L c K := by
  refine m_place ?_
  by_cases h1 : p = 97
  · rw [if_pos h1]; exact k 4 (Or.inl (by rw [h1]; rfl))
  rw [if_neg h1]
  by_cases h2 : p = 104
  · rw [if_pos h2]; exact k 5 (Or.inl (by rw [h2]; rfl))
  rw [if_neg h2]
  by_cases h3 : p = 107
  · rw [if_pos h3]; exact k 2 (Or.inl (by rw [h3]; rfl))
  rw [if_neg h3]
  by_cases h4 : p = 112
  · rw [if_pos h4]; exact k 0 (Or.inl (by rw [h4]; rfl))
  rw [if_neg h4]
  by_cases h5 : p = 116
  · rw [if_pos h5]; exact k 1 (Or.inl (by rw [h5]; rfl))
  rw [if_neg h5]
  by_cases h6 : p = 118
  · rw [if_pos h6]; exact k 3 (Or.inl (by rw [h6]; rfl))
  rw [if_neg h6]
  exact k (-1) (Or.inr ⟨by unfold letP; rw [if_neg h1, if_neg h2, if_neg h3, if_neg h4, if_neg h5, if_neg h6], rfl⟩)
theorem afr_p {cl b0 B : Nat} {I0 I J : mI} (h : pfr cl b0 B I0 I) (e : afr I J) : pfr cl b0 B I0 J := pfr_m h (fun x k _ _ q => e x k (by omega))
theorem z_takesTest {n d cl tn b0 B a : Nat} {sg : Nat → Int} {I0 : mI} {L : mL} {c : Nat} {K : mK2} (hB : B ≤ 500 ∧ B ≤ b0) (ht : txt sg tn) {S l : List Int} {I : mI} (hf : pfr cl b0 B I0 I) (hS : StM sg tn b0 B I a S l)
    (kf : (tstP sg a).1 = false → ∀ I', pfr cl b0 B I0 I' → I' 104 12 = (((tstP sg a).2.1 : Nat) : Int) → K (some (vi 0)) I' L c)
    (kt : (tstP sg a).1 = true → ∀ I', pfr cl b0 B I0 I' → StM sg tn b0 B I' (tstP sg a).2.1 S (l ++ (tstP sg a).2.2.map trC) → C2 n (d + 2) 136 [vr (some 104)] I' L c (fun r I L c => rv r (K (some (vi 1)) I L c))) : C2 n (d + 3) 139 [vr (some 104)] I L c K := by
  have n100 := ht.1
  have hR := hS.1
  have hA := hS.2.1
  have hb := hS.2.2.2.2
  have ok := tst_ok ht hb.1
  have main : C2 n (d + 2) 138 [vr (some 104), vi (sg a)] I L c (fun r19 I20 L21 c22 => ri r19 (fun x23 => if x23 < 0 then (K (some (vi 0)) I20 L21 c22) else (if ((up2 I20 104 12 (wr ((I20 104 12) + 1))) 104 12) < ((up2 I20 104 12 (wr ((I20 104 12) + 1))) 104 11) then ((0 ≤ ((up2 I20 104 12 (wr ((I20 104 12) + 1))) 104 12) ∧ ((up2 I20 104 12 (wr ((I20 104 12) + 1))) 104 12) < 100) ∧ (if ((up2 I20 104 12 (wr ((I20 104 12) + 1))) 110 (((up2 I20 104 12 (wr ((I20 104 12) + 1))) 104 12).toNat)) < 60 then (K (some (vi 0)) (up2 I20 104 12 (wr ((I20 104 12) + 1))) L21 c22) else (if 62 < ((up2 I20 104 12 (wr ((I20 104 12) + 1))) 110 (((up2 I20 104 12 (wr ((I20 104 12) + 1))) 104 12).toNat)) then (K (some (vi 0)) (up2 I20 104 12 (wr ((I20 104 12) + 1))) L21 c22) else (C2 n (d + 2) 134 [vr (some 104)] (up2 (up2 I20 104 12 (wr ((I20 104 12) + 1))) 104 12 (wr (((up2 I20 104 12 (wr ((I20 104 12) + 1))) 104 12) + 1))) L21 c22 (fun r24 I25 L26 c27 => ri r24 (fun x28 => if x28 = 0 then (K (some (vi 0)) I25 L26 c27) else (C2 n (d + 2) 135 [vr (some 104), vi (wr ((wr ((wr (1000 * x23)) + (wr (100 * (wr (((up2 I20 104 12 (wr ((I20 104 12) + 1))) 110 (((up2 I20 104 12 (wr ((I20 104 12) + 1))) 104 12).toNat)) - 60)))))) + (I25 104 13)))] I25 L26 c27 (fun r29 I30 L31 c32 => rv r29 (C2 n (d + 2) 136 [vr (some 104)] I30 L31 c32 (fun r33 I34 L35 c36 => rv r33 (K (some (vi 1)) I34 L35 c36))))))))))) else (K (some (vi 0)) (up2 I20 104 12 (wr ((I20 104 12) + 1))) L21 c22)))) := by
    refine z_place (fun v hv => ?_)
    rw [ri_vi]
    have et : tstP sg a = match letP (sg a) with
      | none => (false, a, [])
      | some l => if 60 ≤ sg (a + 1) ∧ sg (a + 1) ≤ 62 then (match numP sg (a + 2) with
          | none => (false, a + 2, [])
          | some (v, b) => (true, b, [(l * 3 + (sg (a + 1) - 60)) * 100 + v])) else (false, a + 1, []) := rfl
    rcases hv with hv | hv
    · have l5 := let_ok hv
      have la := txt_lt ht l5.1
      rw [hv] at et
      dsimp only at et
      rw [if_neg (by omega), hA, wr_nat (show a < 1000000 by omega), up2_same]
      generalize hJ : up2 I 104 12 ((a + 1 : Nat) : Int) = J
      have jf : afr I J := by rw [← hJ]; exact afr_up
      have jA : J 104 12 = ((a + 1 : Nat) : Int) := by rw [← hJ, up2_same]
      clear hJ
      have jR := afr_R jf hR
      rw [jR.1]
      by_cases w1 : a + 1 < tn
      · rw [if_pos (by omega), Int.toNat_natCast, jR.2 _ w1]
        refine ⟨by omega, ?_⟩
        by_cases w2 : 60 ≤ sg (a + 1) ∧ sg (a + 1) ≤ 62
        · rw [if_pos w2] at et
          rw [if_neg (by omega), if_neg (by omega), wr_nat (show a + 1 < 1000000 by omega)]
          have j2 : afr I (up2 J 104 12 ((a + 1 + 1 : Nat) : Int)) := afr_tr jf afr_up
          refine z_takesNumber (a := a + 2) ht (afr_R j2 hR) up2_same (fun hnum => ?_) (fun x b I3 hnum x3 a3 d3 => ?_)
          · rw [hnum] at et
            rw [et] at kf
            rw [ri_vi, if_pos rfl]
            exact kf rfl _ (afr_p hf j2) up2_same
          · have nk := num_ok ht hnum
            rw [hnum] at et
            dsimp only at et
            rw [et] at kt ok
            have kt : ∀ I', pfr cl b0 B I0 I' → StM sg tn b0 B I' b S (l ++ [(v * 3 + (sg (a + 1) - 60)) * 100 + x].map trC) → C2 n (d + 2) 136 [vr (some 104)] I' L c (fun r I L c => rv r (K (some (vi 1)) I L c)) := kt rfl
            clear et
            have tr : [(v * 3 + (sg (a + 1) - 60)) * 100 + x].map trC = [1000 * v + 100 * (sg (a + 1) - 60) + x] := by
              show [trC ((v * 3 + (sg (a + 1) - 60)) * 100 + x)] = _
              rw [tr_bd (by omega)]
              have t1 : ((v * 3 + (sg (a + 1) - 60)) * 100 + x) / 300 = v := by omega
              have t2 : ((v * 3 + (sg (a + 1) - 60)) * 100 + x) / 100 % 3 = sg (a + 1) - 60 := by omega
              have t3 : ((v * 3 + (sg (a + 1) - 60)) * 100 + x) % 100 = x := by omega
              rw [t1, t2, t3]
            rw [tr] at kt
            clear tr
            have j3 : afr I I3 := afr_tr j2 x3
            rw [ri_vi, if_neg (by decide), d3, wri (x := sg (a + 1) - 60) (by omega), wri (x := 1000 * v) (by omega), wri (x := 100 * (sg (a + 1) - 60)) (by omega), wri (x := 1000 * v + 100 * (sg (a + 1) - 60)) (by omega), wri (x := 1000 * v + 100 * (sg (a + 1) - 60) + x) (by omega)]
            generalize 1000 * v + 100 * (sg (a + 1) - 60) + x = z at *
            have hC := hS.2.2.1
            refine z_emits (q := b0 + l.length) (by rw [j3 _ _ (by omega)]; exact hC.1) (by omega) ?_
            rw [rv_no]
            have ob : a + 3 ≤ b := ok.1 rfl
            have fe : ∀ y j, ¬ (y = 104 ∧ (j = 12 ∨ j = 13)) → ¬ (y = 104 ∧ j = 22) → ¬ (y = 116 ∧ j = b0 + l.length) → up2 (up2 I3 116 (b0 + l.length) z) 104 22 ((b0 + l.length + 1 : Nat) : Int) y j = I y j := fun y j q1 q2 q3 => by
              rw [up2_if, if_neg q2, up2_if, if_neg q3]; exact j3 y j q1
            obtain ⟨_, _, _, ⟨h3, h4, hk⟩, _⟩ := hS
            refine kt _ (pfr_m hf (fun y j q1 q2 q3 => fe y j (by omega) (by omega) (by omega))) ⟨⟨?_, fun i hi => ?_⟩, ?_, Cd_em hC up2_same (fun k => ?_), ⟨?_, ?_, stk_c S (fun k hk => fe _ _ (by omega) (by omega) (by omega)) hk⟩, nk.2.1, ?_⟩
            · rw [fe _ _ (by omega) (by omega) (by omega)]; exact hR.1
            · rw [fe _ _ (by omega) (by omega) (by omega)]; exact hR.2 i hi
            · rw [up2_at (by decide), up2_ne (by decide)]; exact a3
            · by_cases q : k = b0 + l.length
              · rw [if_pos q, up2_ne (by decide), q, up2_same]
              · rw [if_neg q]; exact fe _ _ (by omega) (by omega) (by omega)
            · rw [fe _ _ (by omega) (by omega) (by omega)]; exact h3
            · rw [fe _ _ (by omega) (by omega) (by omega)]; exact h4
            · rw [List.length_append, List.length_singleton]; omega
        · rw [if_neg w2] at et
          rw [et] at kf
          have kk := kf rfl J (afr_p hf jf) jA
          by_cases v1 : sg (a + 1) < 60
          · rw [if_pos v1]; exact kk
          · rw [if_neg v1, if_pos (by omega)]; exact kk
      · have e := ht.2.2 (a + 1) (by omega)
        rw [if_neg (by omega)] at et
        rw [et] at kf
        rw [if_neg (by omega)]
        exact kf rfl J (afr_p hf jf) jA
    · rw [hv.1] at et
      rw [et] at kf
      rw [hv.2, if_pos (by decide)]
      exact kf rfl I hf hA
  refine m_takesTest ?_
  rw [hA, hR.1]
  by_cases w : a < tn
  · rw [if_pos (by omega), Int.toNat_natCast, hR.2 a w]
    exact ⟨by omega, main⟩
  · have e := ht.2.2 a (by omega)
    rw [e] at main
    rw [if_neg (by omega)]
    exact main
theorem z_clo {n d cl tn b0 B : Nat} {sg : Nat → Int} {I0 : mI} {L : mL} {c : Nat} {K : mK2} (hB : B ≤ 500 ∧ B ≤ b0) (hcl : cl < 60) (ht : txt sg tn) : cloP sg (WTm n d cl tn b0 B sg I0 L c K) (PWm n d cl tn b0 B sg I0 L c K) (FLm cl b0 B I0 L c K) (OKm cl b0 B I0 L c K) := by
  have n100 := ht.1
  refine ⟨fun a S l q ho h => ?_, fun a S l q ho h => ?_, fun a S l q h1 h2 => ?_, fun b S l h => z_whole33 hB ht h, fun b S l hn h => ?_⟩
  · intro I hf hS
    have hR := hS.1
    have hA := hS.2.1
    have hO := hS.2.2.2.1.2.1
    have la := txt_lt ht (show 0 ≤ sg a by omega)
    refine m_takesE_22 ?_
    rw [hA, hR.1, Int.toNat_natCast, if_pos (by omega), hR.2 a la, if_neg (by decide), hO]
    refine ⟨by omega, ?_⟩
    have kk := h I hf hA
    rcases q with q | q
    · rw [if_pos q, if_pos (by omega)]; exact kk
    · rw [if_neg (by omega), if_pos q, if_pos (by omega)]; exact kk
  · intro I hf hS
    obtain ⟨hR, hA, hC, ⟨h3, h4, hk⟩, hb⟩ := hS
    have la := txt_lt ht (show 0 ≤ sg a by omega)
    have lo := ho
    refine m_takesE_22 ?_
    rw [hA, hR.1, Int.toNat_natCast, if_pos (by omega), hR.2 a la, if_neg (by decide), h4, if_neg (show ¬ ((opn S : Nat) : Int) = 4 by omega), wr_nat (show opn S < 1000000 by omega)]
    refine ⟨by omega, ?_⟩
    have g1 : up2 I 104 24 ((opn S + 1 : Nat) : Int) 104 23 = (S.length : Int) := by rw [up2_at (by decide)]; exact h3
    rw [g1, Int.toNat_natCast]
    have g2 : up2 (up2 I 104 24 ((opn S + 1 : Nat) : Int)) 117 S.length (sg a) 104 23 = (S.length : Int) := by rw [up2_ne (by decide)]; exact g1
    rw [g2, wr_nat (show S.length < 1000000 by omega)]
    have g3 : up2 (up2 (up2 I 104 24 ((opn S + 1 : Nat) : Int)) 117 S.length (sg a)) 104 23 ((S.length + 1 : Nat) : Int) 104 12 = (a : Int) := by rw [up2_at (by decide), up2_ne (by decide), up2_at (by decide)]; exact hA
    rw [g3, wr_nat (show a < 1000000 by omega)]
    have kk : W2 n (d + 4) 140 22 [some (vr (some 104)), some (vi (cl : Int)), some (vi 1), none] [] (up2 (up2 (up2 (up2 I 104 24 ((opn S + 1 : Nat) : Int)) 117 S.length (sg a)) 104 23 ((S.length + 1 : Nat) : Int)) 104 12 ((a + 1 : Nat) : Int)) L c K := by
      refine h _ (pfr_m hf (fun y j q1 q2 q3 => ?_)) ⟨⟨?_, fun i hi => ?_⟩, up2_same, ⟨?_, fun i hi => ?_⟩, ⟨?_, ?_, ?_, stk_c S (fun k hk => ?_) hk⟩, la, ?_⟩
      · rw [up2_if, if_neg (by omega), up2_if, if_neg (by omega), up2_if, if_neg (by omega), up2_if, if_neg (by omega)]
      · rw [up2_at (by decide), up2_at (by decide), up2_ne (by decide), up2_at (by decide)]; exact hR.1
      · rw [up2_ne (by decide), up2_ne (by decide), up2_ne (by decide), up2_ne (by decide)]; exact hR.2 i hi
      · rw [up2_at (by decide), up2_at (by decide), up2_ne (by decide), up2_at (by decide)]; exact hC.1
      · rw [up2_ne (by decide), up2_ne (by decide), up2_ne (by decide), up2_ne (by decide)]; exact hC.2 i hi
      · rw [up2_at (by decide), up2_same]; rfl
      · rw [up2_at (by decide), up2_at (by decide), up2_ne (by decide), up2_same, opn_1 q]
      · rw [up2_ne (by decide), up2_ne (by decide), up2_same]
      · rw [up2_ne (by decide), up2_ne (by decide), up2_at (by omega), up2_ne (by decide)]
      · show b0 + l.length + (S.length + 1) ≤ B + (a + 1); omega
    rcases q with q | q
    · rw [if_pos q]; exact ⟨by omega, kk⟩
    · rw [if_neg (by omega), if_pos q]; exact ⟨by omega, kk⟩
  · intro I hf hS
    have hR := hS.1
    have hA := hS.2.1
    have main : C2 n (d + 3) 139 [vr (some 104)] I L c (fun r17 I18 L19 c20 => ri r17 (fun x21 => if x21 = 0 then (K (some (vi 0)) I18 L19 c20) else (W2 n (d + 4) 140 22 [some (vr (some 104)), some (vi (cl : Int)), some (vi 0), none] [] I18 L19 c20 K))) := by
      refine z_takesTest hB ht hf hS (fun t I' f' a' => ?_) (fun t I' f' s' => ?_)
      · rw [ri_vi, if_pos rfl]
        exact h2 t I' f' a'
      · refine vc_C rfl ?_
        refine h1 t I' (d + 1) _ f' s' (fun I2 w => ?_)
        rw [rv_no, ri_vi, if_neg (by decide)]
        exact w
    refine m_takesE_22 ?_
    rw [hA, hR.1, Int.toNat_natCast]
    by_cases w : a < tn
    · rw [if_pos (by omega), hR.2 a w, if_neg (by decide), if_neg (fun e => q (Or.inl e)), if_neg (fun e => q (Or.inr e))]
      exact ⟨by omega, main⟩
    · rw [if_neg (by omega), if_neg (by decide)]
      exact main
  · intro I e K' hf hS hk
    have kk := hk I (z_done hB hcl ht h I hf hS)
    obtain ⟨hR, hA, hC, ⟨h3, h4, hs⟩, hb⟩ := hS
    refine m_whole_0 ?_
    cases S with
    | nil => rw [h3, if_neg (by decide)]; exact kk
    | cons x S =>
      have hl : (x :: S).length = S.length + 1 := rfl
      rw [hl] at h3 hb
      have v1 : wr (((S.length + 1 : Nat) : Int) - 1) = (S.length : Int) := by rw [wri (by omega)]; omega
      have hx : I 117 S.length = x := hs.1
      rw [h3, if_pos (by omega), v1, Int.toNat_natCast, hx, if_neg (fun e => hn x S rfl (by rw [e]; decide))]
      exact ⟨by omega, kk⟩
/-- an expression, from its first sign on -/
theorem z_takesE {n d cl tn b0 B a : Nat} {sg : Nat → Int} {I : mI} {L : mL} {c : Nat} {K : mK2} (hB : B ≤ 500 ∧ B ≤ b0) (hcl : cl < 60) (ht : txt sg tn) (hR : RdM I sg tn) (hA : I 104 12 = (a : Int)) (hn : a ≤ tn) (h22 : I 104 22 = (b0 : Int)) (hb : b0 ≤ B + a) (h5 : I 115 cl ≤ ((B + 100 : Nat) : Int))
    (kf : (eitP sg (prt sg 4) a).1 = false → ∀ I', pfr cl b0 B (up2 I 114 cl (b0 : Int)) I' → I' 104 12 = (((eitP sg (prt sg 4) a).2.1 : Nat) : Int) → K (some (vi 0)) I' L c)
    (kt : (eitP sg (prt sg 4) a).1 = true → ∀ I', pfr cl b0 B (up2 I 114 cl (b0 : Int)) I' → I' 104 12 = (((eitP sg (prt sg 4) a).2.1 : Nat) : Int) → CdM I' b0 ((eitP sg (prt sg 4) a).2.2.map trC) → I' 115 cl = ((b0 + ((eitP sg (prt sg 4) a).2.2.map trC).length : Nat) : Int) → K (some (vi 1)) I' L c) : C2 n (d + 4) 140 [vr (some 104), vi (cl : Int)] I L c K := by
  refine m_takesE ?_
  have g : up2 (up2 I 104 23 0) 104 24 0 104 22 = (b0 : Int) := by rw [up2_at (by decide), up2_at (by decide)]; exact h22
  rw [g, Int.toNat_natCast]
  refine ⟨by omega, ?_⟩
  have w := top_abs ht (z_clo (n := n) (d := d) (cl := cl) (b0 := b0) (B := B) (I0 := up2 I 114 cl (b0 : Int)) (L := L) (c := c) (K := K) hB hcl ht) hn (fun t I' f' a' c' e' => kt t I' f' a' c' e') (fun t I' f' a' => kf t I' f' a')
  refine w _ ⟨fun x k q1 q2 q3 q4 => ?_, ?_⟩ ⟨⟨?_, fun i hi => ?_⟩, ?_, ⟨?_, fun i hi => absurd hi (Nat.not_lt_zero _)⟩, ⟨?_, ?_, trivial⟩, hn, ?_⟩
  · rw [up2_if, up2_if, up2_if, up2_if]
    by_cases q : x = 114 ∧ k = cl
    · rw [if_pos q, if_pos q]
    · rw [if_neg q, if_neg q, if_neg (by omega), if_neg (by omega)]
  · rw [up2_ne (by decide), up2_ne (by decide), up2_ne (by decide)]; exact h5
  · rw [up2_ne (by decide), up2_at (by decide), up2_at (by decide)]; exact hR.1
  · rw [up2_ne (by decide), up2_ne (by decide), up2_ne (by decide)]; exact hR.2 i hi
  · rw [up2_ne (by decide), up2_at (by decide), up2_at (by decide)]; exact hA
  · rw [up2_ne (by decide)]; exact g
  · rw [up2_ne (by decide), up2_at (by decide), up2_same]; rfl
  · rw [up2_ne (by decide), up2_same]; rfl
  · show b0 + 0 + 0 ≤ B + a; omega
