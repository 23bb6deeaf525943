/-! ===== the class: a town is copied ===== -/
theorem x_copyR {n d h a g b N : Nat} {I : mI} {L : mL} {c : Nat} {K : mK2} (h1 : rOk n c h a N) (h2 : rOk n c g b N) (hb : h < 1000 ∧ a < 1000) (hne : h ≠ g ∧ h ≠ b ∧ a ≠ g ∧ a ≠ b ∧ h ≠ a) (k : ∀ I', eqx [h, a] I I' → I' h 2 = I g 2 → (∀ i, i ≠ 2 → I' h i = I h i) → (∀ i, i < 4 * N → I' a i = I b i) → K none I' L c) : C2 n d 60 [vr (some h), vr (some g)] I L c K := by
  obtain ⟨r1, r2, r3, r4⟩ := h1
  obtain ⟨s1, s2, s3, s4⟩ := h2
  obtain ⟨n1, n2, n3, n4, n5⟩ := hne
  refine Ro_copyFrom ?_
  simp only [chkE r1, chkE s1, r2, s2, drf_s, r4, s4, r3, s3, Nat.beq_refl, Bool.and_true]
  refine chk_i rfl (chk_i rfl ?_)
  rw [if_neg (by omega)]
  refine ⟨by omega, ?_⟩
  show chk true _
  refine chk_i rfl ?_
  rw [cpy_ne (show g ≠ a from fun e => n3 e.symm), Int.toNat_natCast]
  refine k _ (eqx_up (eqx_cpy (eqx_rf _ _) (fun i => jk_m hb.2 (by simp))) (jk_m hb.1 (by simp))) up2_same ?_ ?_
  · intro i hi
    rw [up2_at hi, cpy_ne n5]
  · intro i hi
    rw [up2_ne (fun e => n5 e.symm), cpy_in hi]
def tOk (n c T : Nat) : Prop := TY T = 7 ∧ Rs c T 0 = some (T + 1) ∧ TY (T + 1) = 113 ∧ LN n (T + 1) = 6 ∧ (∀ p, p < 6 → Rs c (T + 1) p = some (T + 8 + 3 * p) ∧ pOk n c (T + 8 + 3 * p)) ∧ Rs c T 5 = some (T + 2) ∧ rOk n c (T + 2) (T + 3) 6 ∧ Rs c T 6 = some (T + 4) ∧ rOk n c (T + 4) (T + 5) 10 ∧ Rs c T 7 = some (T + 6) ∧ rOk n c (T + 6) (T + 7) 8
theorem tOk_now {n c : Nat} : tOk n c 17 := ⟨rfl, rfl, rfl, rfl, fun p hp => ⟨Rs18 hp, pOk_now hp⟩, rfl, rOk_l, rfl, rOk_p, rfl, rOk_b⟩
theorem tOk_kept {n c : Nat} : tOk n c 43 := ⟨rfl, rfl, rfl, rfl, fun p hp => ⟨Rs44 hp, pOk_kept hp⟩, rfl, ⟨rfl, rfl, rfl, rfl⟩, rfl, ⟨rfl, rfl, rfl, rfl⟩, rfl, ⟨rfl, rfl, rfl, rfl⟩⟩
/-- the town's cells -/
def inT2 (T h : Nat) : Prop := T ≤ h ∧ h < T + 26
def agrT (T U : Nat) (I J : mI) : Prop := (J T 1 = I U 1 ∧ J T 2 = I U 2 ∧ J T 3 = I U 3 ∧ J T 4 = I U 4) ∧ (∀ p, p < 6 → perC J (T + 8 + 3 * p) = perC I (U + 8 + 3 * p)) ∧ (J (T + 2) 2 = I (U + 2) 2 ∧ ∀ i, i < 24 → J (T + 3) i = I (U + 3) i) ∧ (J (T + 4) 2 = I (U + 4) 2 ∧ ∀ i, i < 40 → J (T + 5) i = I (U + 5) i) ∧ (J (T + 6) 2 = I (U + 6) 2 ∧ ∀ i, i < 32 → J (T + 7) i = I (U + 7) i)
def eqo (T : Nat) (I J : mI) : Prop := ∀ h, ¬ inT2 T h → J h = I h
theorem eqo_tr {T : Nat} {I J M : mI} (a : eqo T I J) (b : eqo T J M) : eqo T I M := fun h q => (b h q).trans (a h q)
theorem eqo_l {T : Nat} {l : List Nat} {I J : mI} (hT : T < 78) (e : eqx l I J) (hl : ∀ x, x ∈ l → inT2 T x) : eqo T I J := by
  intro h q
  funext k
  refine e h k (jk_f.mpr ⟨fun _ hm => q (hl h hm), fun e4 hm => ?_⟩)
  have := hl _ hm
  subst e4
  exact q (by unfold inT2 at this ⊢; omega)
theorem x_copyT {n d T U : Nat} {I : mI} {L : mL} {c : Nat} {K : mK2} (h1 : tOk n c T) (h2 : tOk n c U) (hb : T < 78 ∧ U < 78) (hd : T + 26 ≤ U ∨ U + 26 ≤ T) (hg : ∀ p, p < 6 → 0 ≤ I (U + 8 + 3 * p) 4 ∧ I (U + 8 + 3 * p) 4 ≤ 1) (k : ∀ I', eqo T I I' → agrT T U I I' → (∀ i, i ≠ 2 → I' (T + 2) i = I (T + 2) i ∧ I' (T + 4) i = I (T + 4) i ∧ I' (T + 6) i = I (T + 6) i) → K none I' L c) : C2 n (d + 1) 65 [vr (some T), vr (some U)] I L c K := by
  obtain ⟨a1, a2, a3, a4, a5, a6, a7, a8, a9, a10, a11⟩ := h1
  obtain ⟨b1, b2, b3, b4, b5, b6, b7, b8, b9, b10, b11⟩ := h2
  refine To_copyFrom ?_
  have loop := loopN (N := 6) (P := fun j => ∀ I1, eqo T I I1 → (I1 (T + 2) = I (T + 2) ∧ I1 (T + 4) = I (T + 4) ∧ I1 (T + 6) = I (T + 6)) → (∀ p, p < j → perC I1 (T + 8 + 3 * p) = perC I (U + 8 + 3 * p)) → W2 n (d + 1) 65 2 [some (vr (some T)), some (vr (some U)), some (vi (j : Int))] [] I1 L c K) ?_ ?_ 0 (Nat.zero_le _)
  · exact loop I (fun _ _ => rfl) ⟨rfl, rfl, rfl⟩ (fun p hp => absurd hp (Nat.not_lt_zero _))
  · intro I1 x1 s1 z1
    have out : ∀ h, inT2 U h → I1 h = I h := fun h q => x1 h (by unfold inT2 at q ⊢; omega)
    refine To_copyFrom_2 ?_
    rw [if_neg (by omega)]
    simp only [chkE a1, chkE b1, a6, drf_s, chkE a7.1, up2_ne (show U ≠ T by omega), b6]
    generalize hI2 : up2 (up2 (up2 (up2 I1 T 1 (I1 U 1)) T 2 (I1 U 2)) T 3 (I1 U 3)) T 4 (I1 U 4) = I2
    have x2 : eqx [T] I1 I2 := by
      rw [← hI2]
      exact eqx_up (eqx_up (eqx_up (eqx_up (eqx_rf _ _) (jk_m (by omega) (by simp))) (jk_m (by omega) (by simp))) (jk_m (by omega) (by simp))) (jk_m (by omega) (by simp))
    have t1 : I2 T 1 = I U 1 ∧ I2 T 2 = I U 2 ∧ I2 T 3 = I U 3 ∧ I2 T 4 = I U 4 := by
      rw [← hI2, ← out U (by unfold inT2; omega)]
      exact ⟨by simp [up2], by simp [up2], by simp [up2], by simp [up2]⟩
    clear hI2
    refine x_copyR a7 b7 (by omega) (by omega) ?_
    intro I3 x3 u3 v3 w3
    rw [rv_no]
    simp only [chkE a1, chkE b1, a8, drf_s, chkE a9.1, b8]
    refine x_copyR a9 b9 (by omega) (by omega) ?_
    intro I4 x4 u4 v4 w4
    rw [rv_no]
    simp only [chkE a1, chkE b1, a10, drf_s, chkE a11.1, b10]
    refine x_copyR a11 b11 (by omega) (by omega) ?_
    intro I5 x5 u5 v5 w5
    rw [rv_no]
    have o2 : eqo T I1 I2 := eqo_l hb.1 x2 (by simp [inT2])
    have o3 : eqo T I2 I3 := eqo_l hb.1 x3 (by simp [inT2])
    have o4 : eqo T I3 I4 := eqo_l hb.1 x4 (by simp [inT2])
    have o5 : eqo T I4 I5 := eqo_l hb.1 x5 (by simp [inT2])
    have c5 : ∀ h, h ≠ 104 → h ≠ T + 6 → h ≠ T + 7 → I5 h = I4 h := fun h q0 q1 q2 => cell_n x5 q0 (by simp; omega)
    have c4 : ∀ h, h ≠ 104 → h ≠ T + 4 → h ≠ T + 5 → I4 h = I3 h := fun h q0 q1 q2 => cell_n x4 q0 (by simp; omega)
    have c3 : ∀ h, h ≠ 104 → h ≠ T + 2 → h ≠ T + 3 → I3 h = I2 h := fun h q0 q1 q2 => cell_n x3 q0 (by simp; omega)
    have c2 : ∀ h, h ≠ 104 → h ≠ T → I2 h = I1 h := fun h q0 q1 => cell_n x2 q0 (by simp; omega)
    have aT : ∀ h, inT2 T h → h ≠ 104 := by
      intro h q e
      subst e
      have k1 := a4
      have k2 := a3
      unfold inT2 at q
      have : T = 79 ∨ T = 80 ∨ T = 81 ∨ T = 82 ∨ T = 83 ∨ T = 84 ∨ T = 85 ∨ T = 86 ∨ T = 87 ∨ T = 88 ∨ T = 89 ∨ T = 90 ∨ T = 91 ∨ T = 92 ∨ T = 93 ∨ T = 94 ∨ T = 95 ∨ T = 96 ∨ T = 97 ∨ T = 98 ∨ T = 99 := by omega
      rcases this with e | e | e | e | e | e | e | e | e | e | e | e | e | e | e | e | e | e | e | e | e <;> (subst e; exact absurd a1 (by decide))
    have aU : ∀ h, inT2 U h → h ≠ 104 := by
      intro h q e
      subst e
      unfold inT2 at q
      have : U = 79 ∨ U = 80 ∨ U = 81 ∨ U = 82 ∨ U = 83 ∨ U = 84 ∨ U = 85 ∨ U = 86 ∨ U = 87 ∨ U = 88 ∨ U = 89 ∨ U = 90 ∨ U = 91 ∨ U = 92 ∨ U = 93 ∨ U = 94 ∨ U = 95 ∨ U = 96 ∨ U = 97 ∨ U = 98 ∨ U = 99 := by omega
      rcases this with e | e | e | e | e | e | e | e | e | e | e | e | e | e | e | e | e | e | e | e | e <;> (subst e; exact absurd b1 (by decide))
    have nT : ∀ i, i < 26 → T + i ≠ 104 := fun i hi => aT _ (by unfold inT2; omega)
    have nU : ∀ i, i < 26 → U + i ≠ 104 := fun i hi => aU _ (by unfold inT2; omega)
    have f5 : ∀ h, h ≠ 104 → ¬ inT2 T h → I5 h = I h := fun h _ q => eqo_tr (eqo_tr (eqo_tr (eqo_tr x1 o2) o3) o4) o5 h q
    have n0 := nT 0 (by decide)
    refine k I5 (eqo_tr (eqo_tr (eqo_tr (eqo_tr x1 o2) o3) o4) o5) ⟨?_, ?_, ⟨?_, ?_⟩, ⟨?_, ?_⟩, ⟨?_, ?_⟩⟩ ?_
    · rw [c5 T n0 (by omega) (by omega), c4 T n0 (by omega) (by omega), c3 T n0 (by omega) (by omega)]
      exact t1
    · intro p hp
      rw [← z1 p hp]
      have nn : ∀ i, i < 3 → I5 (T + 8 + 3 * p + i) = I1 (T + 8 + 3 * p + i) := by
        intro i hi
        have n1 : T + 8 + 3 * p + i ≠ 104 := aT _ (by unfold inT2; omega)
        rw [c5 _ n1 (by omega) (by omega), c4 _ n1 (by omega) (by omega), c3 _ n1 (by omega) (by omega), c2 _ n1 (by omega)]
      exact perC_c (nn 0 (by decide)) (nn 1 (by decide)) (nn 2 (by decide))
    · rw [c5 _ (nT 2 (by decide)) (by omega) (by omega), c4 _ (nT 2 (by decide)) (by omega) (by omega), u3, c2 _ (nU 2 (by decide)) (by omega), out _ (by unfold inT2; omega)]
    · intro i hi
      rw [c5 _ (nT 3 (by decide)) (by omega) (by omega), c4 _ (nT 3 (by decide)) (by omega) (by omega), w3 i hi, c2 _ (nU 3 (by decide)) (by omega), out _ (by unfold inT2; omega)]
    · rw [c5 _ (nT 4 (by decide)) (by omega) (by omega), u4, c3 _ (nU 4 (by decide)) (by omega) (by omega), c2 _ (nU 4 (by decide)) (by omega), out _ (by unfold inT2; omega)]
    · intro i hi
      rw [c5 _ (nT 5 (by decide)) (by omega) (by omega), w4 i hi, c3 _ (nU 5 (by decide)) (by omega) (by omega), c2 _ (nU 5 (by decide)) (by omega), out _ (by unfold inT2; omega)]
    · rw [u5, c4 _ (nU 6 (by decide)) (by omega) (by omega), c3 _ (nU 6 (by decide)) (by omega) (by omega), c2 _ (nU 6 (by decide)) (by omega), out _ (by unfold inT2; omega)]
    · intro i hi
      rw [w5 i hi, c4 _ (nU 7 (by decide)) (by omega) (by omega), c3 _ (nU 7 (by decide)) (by omega) (by omega), c2 _ (nU 7 (by decide)) (by omega), out _ (by unfold inT2; omega)]
    · intro i hi
      refine ⟨?_, ?_, ?_⟩
      · rw [c5 _ (nT 2 (by decide)) (by omega) (by omega), c4 _ (nT 2 (by decide)) (by omega) (by omega), v3 i hi, c2 _ (nT 2 (by decide)) (by omega), s1.1]
      · rw [c5 _ (nT 4 (by decide)) (by omega) (by omega), v4 i hi, c3 _ (nT 4 (by decide)) (by omega) (by omega), c2 _ (nT 4 (by decide)) (by omega), s1.2.1]
      · rw [v5 i hi, c4 _ (nT 6 (by decide)) (by omega) (by omega), c3 _ (nT 6 (by decide)) (by omega) (by omega), c2 _ (nT 6 (by decide)) (by omega), s1.2.2]
  · intro j hj ih I1 x1 s1 z1
    have out : ∀ h, inT2 U h → I1 h = I h := fun h q => x1 h (by unfold inT2 at q ⊢; omega)
    refine To_copyFrom_2 ?_
    rw [if_pos (by omega)]
    simp only [chkE a1, chkE b1, a2, b2, drf_s, a4, b4, Int.toNat_natCast, (a5 j hj).1, (b5 j hj).1, chkE (a5 j hj).2.1, wr_nat (show j < 1000000 by omega)]
    refine chk_i (by rw [a3]; rfl) ⟨by omega, ?_⟩
    refine chk_i (by rw [b3]; rfl) ⟨by omega, ?_⟩
    have pu : perC I1 (U + 8 + 3 * j) = perC I (U + 8 + 3 * j) := perC_c (out _ (by unfold inT2; omega)) (out _ (by unfold inT2; omega)) (out _ (by unfold inT2; omega))
    refine x_copyP (a5 j hj).2 (b5 j hj).2 (by omega) (by omega) (by rw [out _ (by unfold inT2; omega)]; exact hg j hj) ?_
    intro I2 x2 z2
    have o2 : eqo T I1 I2 := eqo_l hb.1 x2 (by simp [inT2]; omega)
    have cc : ∀ h, h < 104 → h < T + 8 + 3 * j ∨ T + 8 + 3 * j + 2 < h → I2 h = I1 h := fun h q0 q1 => cell_n x2 (by omega) (by simp; omega)
    rw [rv_no]
    refine ih I2 (eqo_tr x1 o2) ⟨?_, ?_, ?_⟩ ?_
    · by_cases q : T + 2 < 104
      · rw [cc _ q (by omega), s1.1]
      · exact absurd a1 (by have : T = 99 := by omega
                            subst this; decide)
    · by_cases q : T + 4 < 104
      · rw [cc _ q (by omega), s1.2.1]
      · exact absurd a1 (by have : T = 99 ∨ T = 98 ∨ T = 97 ∨ T = 96 := by omega
                            rcases this with e | e | e | e <;> (subst e; decide))
    · by_cases q : T + 6 < 104
      · rw [cc _ q (by omega), s1.2.2]
      · exact absurd a1 (by have : T = 99 ∨ T = 98 ∨ T = 97 ∨ T = 96 ∨ T = 95 ∨ T = 94 := by omega
                            rcases this with e | e | e | e | e | e <;> (subst e; decide))
    · intro p hp
      by_cases r : p = j
      · rw [r, z2, pu]
      · have nn : ∀ i, i < 3 → I2 (T + 8 + 3 * p + i) = I1 (T + 8 + 3 * p + i) := by
          intro i hi
          refine cell_n x2 ?_ (by simp; omega)
          intro e
          have : T = 79 ∨ T = 80 ∨ T = 81 ∨ T = 82 ∨ T = 83 ∨ T = 84 ∨ T = 85 ∨ T = 86 ∨ T = 87 ∨ T = 88 ∨ T = 89 ∨ T = 90 ∨ T = 91 ∨ T = 92 ∨ T = 93 ∨ T = 94 ∨ T = 95 ∨ T = 96 ∨ T = 97 ∨ T = 98 ∨ T = 99 := by omega
          rcases this with e | e | e | e | e | e | e | e | e | e | e | e | e | e | e | e | e | e | e | e | e <;> (subst e; exact absurd a1 (by decide))
        rw [perC_c (p := T + 8 + 3 * p) (nn 0 (by decide)) (nn 1 (by decide)) (nn 2 (by decide))]
        exact z1 p (by omega)
