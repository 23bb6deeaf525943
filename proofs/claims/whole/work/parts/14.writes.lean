/-! ===== the reference's writes ===== -/
theorem per_105 (I : mI) (j : Nat) (x : Int) : perM (up2 I 105 j x) = updP (perM I) j (setP (perM I j) 1 x) := by
  funext p i
  unfold updP setP
  by_cases hp : p = j
  · subst hp
    rw [if_pos rfl]
    rcases i with _ | _ | _ | _ | _ | i
    · rfl
    · exact up2_same
    · rfl
    · rfl
    · rfl
    · rfl
  · rw [if_neg hp]
    rcases i with _ | _ | _ | _ | _ | i
    · rfl
    · exact up2_at hp
    · rfl
    · rfl
    · rfl
    · rfl
theorem per_106 (I : mI) (j : Nat) (x : Int) : perM (up2 I 106 j x) = updP (perM I) j (setP (perM I j) 2 x) := by
  funext p i
  unfold updP setP
  by_cases hp : p = j
  · subst hp
    rw [if_pos rfl]
    rcases i with _ | _ | _ | _ | _ | i
    · rfl
    · rfl
    · exact up2_same
    · rfl
    · rfl
    · rfl
  · rw [if_neg hp]
    rcases i with _ | _ | _ | _ | _ | i
    · rfl
    · rfl
    · exact up2_at hp
    · rfl
    · rfl
    · rfl
theorem per_107 (I : mI) (j : Nat) (x : Int) : perM (up2 I 107 j x) = updP (perM I) j (setP (perM I j) 3 x) := by
  funext p i
  unfold updP setP
  by_cases hp : p = j
  · subst hp
    rw [if_pos rfl]
    rcases i with _ | _ | _ | _ | _ | i
    · rfl
    · rfl
    · rfl
    · exact up2_same
    · rfl
    · rfl
  · rw [if_neg hp]
    rcases i with _ | _ | _ | _ | _ | i
    · rfl
    · rfl
    · rfl
    · exact up2_at hp
    · rfl
    · rfl
theorem per_108 (I : mI) (j t : Nat) (x : Int) (ht : t < 6) : perM (up2 I 108 (6 * j + t) x) = updP (perM I) j (setP (perM I j) (5 + t) x) := by
  funext p i
  unfold updP setP
  by_cases hp : p = j
  · subst hp
    rw [if_pos rfl]
    rcases i with _ | _ | _ | _ | _ | i
    · rw [if_neg (by omega)]; rfl
    · rw [if_neg (by omega)]; rfl
    · rw [if_neg (by omega)]; rfl
    · rw [if_neg (by omega)]; rfl
    · rw [if_neg (by omega)]; rfl
    · show (if i < 6 then up2 I 108 (6 * p + t) x 108 (6 * p + i) else if i < 10 then I 109 (4 * p + (i - 6)) else 0) = _
      by_cases q : i + 5 = 5 + t
      · obtain rfl : i = t := by omega
        rw [if_pos q, if_pos ht, up2_same]
      · rw [if_neg q, up2_at (by omega)]
        rfl
  · rw [if_neg hp]
    rcases i with _ | _ | _ | _ | _ | i
    · rfl
    · rfl
    · rfl
    · rfl
    · rfl
    · show (if i < 6 then up2 I 108 (6 * j + t) x 108 (6 * p + i) else if i < 10 then I 109 (4 * p + (i - 6)) else 0) = (if i < 6 then I 108 (6 * p + i) else if i < 10 then I 109 (4 * p + (i - 6)) else 0)
      by_cases q : i < 6
      · rw [if_pos q, if_pos q, up2_at (by omega)]
      · rw [if_neg q, if_neg q]
theorem per_109 (I : mI) (j t : Nat) (x : Int) (ht : t < 4) : perM (up2 I 109 (4 * j + t) x) = updP (perM I) j (setP (perM I j) (11 + t) x) := by
  funext p i
  unfold updP setP
  by_cases hp : p = j
  · subst hp
    rw [if_pos rfl]
    rcases i with _ | _ | _ | _ | _ | i
    · rw [if_neg (by omega)]; rfl
    · rw [if_neg (by omega)]; rfl
    · rw [if_neg (by omega)]; rfl
    · rw [if_neg (by omega)]; rfl
    · rw [if_neg (by omega)]; rfl
    · show (if i < 6 then I 108 (6 * p + i) else if i < 10 then up2 I 109 (4 * p + t) x 109 (4 * p + (i - 6)) else 0) = _
      by_cases q : i + 5 = 11 + t
      · obtain rfl : i = 6 + t := by omega
        rw [if_pos q, if_neg (by omega), if_pos (by omega), show 6 + t - 6 = t by omega, up2_same]
      · rw [if_neg q]
        show _ = (if i < 6 then I 108 (6 * p + i) else if i < 10 then I 109 (4 * p + (i - 6)) else 0)
        by_cases q1 : i < 6
        · rw [if_pos q1, if_pos q1]
        · rw [if_neg q1, if_neg q1, up2_at (by omega)]
  · rw [if_neg hp]
    rcases i with _ | _ | _ | _ | _ | i
    · rfl
    · rfl
    · rfl
    · rfl
    · rfl
    · show (if i < 6 then I 108 (6 * p + i) else if i < 10 then up2 I 109 (4 * j + t) x 109 (4 * p + (i - 6)) else 0) = (if i < 6 then I 108 (6 * p + i) else if i < 10 then I 109 (4 * p + (i - 6)) else 0)
      by_cases q1 : i < 6
      · rw [if_pos q1, if_pos q1]
      · rw [if_neg q1, if_neg q1]
        by_cases q : i < 10
        · rw [if_pos q, if_pos q, up2_at (by omega)]
        · rw [if_neg q, if_neg q]
/-- the bits of those who left, one changed -/
theorem per_gone (I : mI) (j : Nat) (x : Int) (b : Bool) (hb : ∀ p, Nat.testBit x.toNat p = if p = j then b else Nat.testBit (I 104 1).toNat p) : perM (up2 I 104 1 x) = updP (perM I) j (setP (perM I j) 4 (b2i b)) := by
  funext p i
  unfold updP setP
  by_cases hp : p = j
  · subst hp
    rw [if_pos rfl]
    rcases i with _ | _ | _ | _ | _ | i
    · rfl
    · rfl
    · rfl
    · rfl
    · show (if Nat.testBit (up2 I 104 1 x 104 1).toNat p = true then 1 else 0) = b2i b
      rw [up2_same, hb, if_pos rfl]
      rfl
    · rfl
  · rw [if_neg hp]
    rcases i with _ | _ | _ | _ | _ | i
    · rfl
    · rfl
    · rfl
    · rfl
    · show (if Nat.testBit (up2 I 104 1 x 104 1).toNat p = true then 1 else 0) = (if Nat.testBit (I 104 1).toNat p = true then 1 else 0)
      rw [up2_same, hb, if_neg hp]
    · rfl
theorem clr_lt : ∀ g : Fin 64, ∀ p : Fin 6, 0 ≤ band (g.val : Int) (bxor (bshl 1 (p.val : Int)) (-1)) ∧ band (g.val : Int) (bxor (bshl 1 (p.val : Int)) (-1)) < 64 := by decide +kernel
theorem clr_bit : ∀ g : Fin 64, ∀ p q : Fin 6, Nat.testBit (band (g.val : Int) (bxor (bshl 1 (p.val : Int)) (-1))).toNat q.val = if q = p then false else Nat.testBit g.val q.val := by decide +kernel
theorem set_lt : ∀ g : Fin 64, ∀ p : Fin 6, 0 ≤ bior (g.val : Int) (bshl 1 (p.val : Int)) ∧ bior (g.val : Int) (bshl 1 (p.val : Int)) < 64 := by decide +kernel
theorem set_bit : ∀ g : Fin 64, ∀ p q : Fin 6, Nat.testBit (bior (g.val : Int) (bshl 1 (p.val : Int))).toNat q.val = if q = p then true else Nat.testBit g.val q.val := by decide +kernel
theorem tb_hi {x q : Nat} (h : x < 64) (hq : 6 ≤ q) : Nat.testBit x q = false := Nat.testBit_lt_two_pow (Nat.lt_of_lt_of_le h (Nat.pow_le_pow_right (by decide) hq : 2 ^ 6 ≤ 2 ^ q))
theorem clr_all {g : Int} {p : Nat} (hg : 0 ≤ g ∧ g < 64) (hp : p < 6) : (0 ≤ band g (bxor (bshl 1 (p : Int)) (-1)) ∧ band g (bxor (bshl 1 (p : Int)) (-1)) < 64) ∧ ∀ q, Nat.testBit (band g (bxor (bshl 1 (p : Int)) (-1))).toNat q = if q = p then false else Nat.testBit g.toNat q := by
  obtain ⟨g, rfl⟩ : ∃ m : Nat, g = m := ⟨g.toNat, by omega⟩
  have a := clr_lt ⟨g, by omega⟩ ⟨p, hp⟩
  refine ⟨a, fun q => ?_⟩
  rw [Int.toNat_natCast]
  by_cases hq : q < 6
  · have b := clr_bit ⟨g, by omega⟩ ⟨p, hp⟩ ⟨q, hq⟩
    rw [b]
    by_cases e : q = p
    · rw [if_pos e, if_pos (Fin.ext e)]
    · rw [if_neg e, if_neg (fun x => e (Fin.mk.inj x))]
  · rw [tb_hi (by dsimp only at a; omega) (by omega), if_neg (by omega), tb_hi (by omega) (by omega)]
theorem set_all {g : Int} {p : Nat} (hg : 0 ≤ g ∧ g < 64) (hp : p < 6) : (0 ≤ bior g (bshl 1 (p : Int)) ∧ bior g (bshl 1 (p : Int)) < 64) ∧ ∀ q, Nat.testBit (bior g (bshl 1 (p : Int))).toNat q = if q = p then true else Nat.testBit g.toNat q := by
  obtain ⟨g, rfl⟩ : ∃ m : Nat, g = m := ⟨g.toNat, by omega⟩
  have a := set_lt ⟨g, by omega⟩ ⟨p, hp⟩
  refine ⟨a, fun q => ?_⟩
  rw [Int.toNat_natCast]
  by_cases hq : q < 6
  · have b := set_bit ⟨g, by omega⟩ ⟨p, hp⟩ ⟨q, hq⟩
    rw [b]
    by_cases e : q = p
    · rw [if_pos e, if_pos (Fin.ext e)]
    · rw [if_neg e, if_neg (fun x => e (Fin.mk.inj x))]
  · rw [tb_hi (by dsimp only at a; omega) (by omega), if_neg (by omega), tb_hi (by omega) (by omega)]
/-! each cell of a person, its bounds -/
theorem pI_up {I : mI} {a k : Nat} {v : Int} (h : pI I) (h5 : a = 105 → 0 ≤ v ∧ v ≤ 6) (h6 : a = 106 → 0 ≤ v ∧ v ≤ 9) (h7 : a = 107 → 0 ≤ v ∧ v ≤ 99) (h8 : a = 108 → 0 ≤ v ∧ v ≤ 9) (h9 : a = 109 → 0 ≤ v ∧ v ≤ 9) (h40 : a = 104 → (k = 0 → 0 ≤ v ∧ v ≤ 6) ∧ (k = 1 → 0 ≤ v ∧ v < 64) ∧ (k = 2 → 0 ≤ v ∧ v < 24)) : pI (up2 I a k v) := by
  obtain ⟨i0, i1, i2, i3, i4, i5⟩ := h
  unfold pI
  simp only [up2_if]
  refine ⟨?_, ?_, ?_, ?_, ?_, ?_⟩
  · split
    · rename_i q; exact (h40 q.1.symm).1 q.2.symm
    · exact i0
  · split
    · rename_i q; exact (h40 q.1.symm).2.1 q.2.symm
    · exact i1
  · split
    · rename_i q; exact (h40 q.1.symm).2.2 q.2.symm
    · exact i2
  · intro p hp
    obtain ⟨b1, b2, b3⟩ := i3 p hp
    refine ⟨?_, ?_, ?_⟩
    · split
      · rename_i q; exact h5 q.1.symm
      · exact b1
    · split
      · rename_i q; exact h6 q.1.symm
      · exact b2
    · split
      · rename_i q; exact h7 q.1.symm
      · exact b3
  · intro k hk
    split
    · rename_i q; exact h8 q.1.symm
    · exact i4 k hk
  · intro k hk
    split
    · rename_i q; exact h9 q.1.symm
    · exact i5 k hk
def isP (I : mI) (p : Int) : Prop := 0 ≤ p ∧ p < I 104 0
theorem c_grace {n d : Nat} {p t x : Int} {I : mI} {L : mL} {c : Nat} {K : mK2} (hI : pI I)
    (k1 : ¬ (isP I p ∧ 0 ≤ t ∧ t ≤ 5) → K (some (vi (-1))) I L c)
    (k2 : isP I p ∧ 0 ≤ t ∧ t ≤ 5 → ¬ (0 ≤ x ∧ x ≤ 9) → K (some (vi (-2))) I L c)
    (k3 : isP I p → 0 ≤ t ∧ t ≤ 5 → 0 ≤ x ∧ x ≤ 9 → ∀ I', eqx [108] I I' → pI I' → perM I' = updP (perM I) p.toNat (setP (perM I p.toNat) (5 + t.toNat) x) → K (some (vi (perM I p.toNat (5 + t.toNat)))) I' L c) : C2 n (d + 2) 124 [vr (some 104), vi p, vi t, vi x] I L c K := by
  have hn := hI.1
  unfold isP at k1 k2 k3
  refine m_grace ?_
  by_cases q : (0 ≤ p ∧ p < I 104 0) ∧ 0 ≤ t ∧ t ≤ 5
  · obtain ⟨⟨q1, q2⟩, q3, q4⟩ := q
    rw [if_neg (by omega), wri (x := I 104 0 - 1) (by omega), if_neg (by omega), if_neg (by omega), if_neg (by omega)]
    by_cases r : 0 ≤ x ∧ x ≤ 9
    · rw [if_neg (by omega), if_neg (by omega)]
      obtain ⟨p, rfl⟩ : ∃ m : Nat, p = m := ⟨p.toNat, by omega⟩
      obtain ⟨t, rfl⟩ : ∃ m : Nat, t = m := ⟨t.toNat, by omega⟩
      have e1 : wr (wr (6 * (p : Int)) + (t : Int)) = ((6 * p + t : Nat) : Int) := by rw [wri (x := 6 * (p : Int)) (by omega), wri (by omega)]; omega
      rw [e1]
      refine ⟨by omega, by omega, ?_⟩
      have kk := k3 ⟨q1, q2⟩ ⟨q3, q4⟩ r (up2 I 108 (6 * p + t) x) (eqx_up (eqx_rf _ _) rfl) (pI_up hI (by omega) (by omega) (by omega) (fun _ => r) (by omega) (by omega)) (per_108 I p t x (by omega))
      simp only [Int.toNat_natCast] at kk ⊢
      rw [per5 I p (by omega)] at kk
      exact kk
    · have kk := k2 ⟨⟨q1, q2⟩, q3, q4⟩ r
      refine ite_i (fun _ => kk) (fun _ => ?_)
      rw [if_pos (by omega)]
      exact kk
  · have kk := k1 q
    rw [wri (by omega)]
    repeat' (first | exact kk | (exfalso; omega) | refine ite_i (fun _ => ?_) (fun _ => ?_))
theorem c_goes {n d : Nat} {p : Nat} {t : Int} {I : mI} {L : mL} {c : Nat} {K : mK2} (hI : pI I) (hp : p < 6)
    (k : ∀ I', eqx [1001] I I' → pI I' → perM I' = updP (perM I) p (setP (perM I p) 4 (if t = 0 then 0 else 1)) → K none I' L c) : C2 n d 125 [vr (some 104), vi (p : Int), vi t] I L c K := by
  refine m_goes ?_
  by_cases q : t = 0
  · rw [if_pos q]
    obtain ⟨a, b⟩ := clr_all hI.2.1 hp
    refine k _ (eqx_up (eqx_rf _ _) rfl) (pI_up hI (by omega) (by omega) (by omega) (by omega) (by omega) (fun _ => ⟨by omega, fun _ => a, by omega⟩)) ?_
    rw [if_pos q]
    exact per_gone I p _ false b
  · rw [if_neg q]
    obtain ⟨a, b⟩ := set_all hI.2.1 hp
    refine k _ (eqx_up (eqx_rf _ _) rfl) (pI_up hI (by omega) (by omega) (by omega) (by omega) (by omega) (fun _ => ⟨by omega, fun _ => a, by omega⟩)) ?_
    rw [if_neg q]
    exact per_gone I p _ true b
theorem c_leave {n d : Nat} {p t : Int} {I : mI} {L : mL} {c : Nat} {K : mK2} (hI : pI I)
    (k1 : ¬ isP I p → K (some (vi (-1))) I L c)
    (k3 : isP I p → ∀ I', eqx [1001] I I' → pI I' → perM I' = updP (perM I) p.toNat (setP (perM I p.toNat) 4 (if t = 0 then 0 else 1)) → K (some (vi (perM I p.toNat 4))) I' L c) : C2 n (d + 2) 126 [vr (some 104), vi p, vi t] I L c K := by
  have hn := hI.1
  unfold isP at k1 k3
  refine m_leave ?_
  by_cases q : 0 ≤ p ∧ p < I 104 0
  · rw [if_neg (by omega), wri (x := I 104 0 - 1) (by omega), if_neg (by omega)]
    obtain ⟨p, rfl⟩ : ∃ m : Nat, p = m := ⟨p.toNat, by omega⟩
    have kk := k3 q
    rw [Int.toNat_natCast] at kk
    rw [show perM I p 4 = if Nat.testBit (I 104 1).toNat p = true then 1 else 0 from rfl] at kk
    refine c_has hI.2.1 (by omega) ?_
    rw [ri_vi]
    by_cases r : Nat.testBit (I 104 1).toNat p = true
    · simp only [if_pos r] at kk ⊢
      rw [if_neg (by decide)]
      exact c_goes hI (by omega) kk
    · simp only [if_neg r] at kk ⊢
      rw [if_pos trivial]
      exact c_goes hI (by omega) kk
  · have kk := k1 q
    rw [wri (by omega)]
    repeat' (first | exact kk | (exfalso; omega) | refine ite_i (fun _ => ?_) (fun _ => ?_))
theorem c_row {n d : Nat} {p t x : Int} {I : mI} {L : mL} {c : Nat} {K : mK2} (hI : pI I)
    (k1 : ¬ (isP I p ∧ 0 ≤ t ∧ t ≤ 3) → K (some (vi (-1))) I L c)
    (k2 : isP I p ∧ 0 ≤ t ∧ t ≤ 3 → ¬ (0 ≤ x ∧ x ≤ 9) → K (some (vi (-2))) I L c)
    (k4 : isP I p ∧ 0 ≤ t ∧ t ≤ 3 → 0 ≤ x ∧ x ≤ 9 → perM I p.toNat 1 ≠ 6 → K (some (vi (-3))) I L c)
    (k3 : isP I p → 0 ≤ t ∧ t ≤ 3 → 0 ≤ x ∧ x ≤ 9 → perM I p.toNat 1 = 6 → ∀ I', eqx [109] I I' → pI I' → perM I' = updP (perM I) p.toNat (setP (perM I p.toNat) (11 + t.toNat) x) → K (some (vi (perM I p.toNat (11 + t.toNat)))) I' L c) : C2 n (d + 2) 127 [vr (some 104), vi p, vi t, vi x] I L c K := by
  have hn := hI.1
  unfold isP at k1 k2 k3 k4
  refine m_row ?_
  by_cases q : (0 ≤ p ∧ p < I 104 0) ∧ 0 ≤ t ∧ t ≤ 3
  · obtain ⟨⟨q1, q2⟩, q3, q4⟩ := q
    rw [if_neg (by omega), wri (x := I 104 0 - 1) (by omega), if_neg (by omega), if_neg (by omega), if_neg (by omega)]
    by_cases r : 0 ≤ x ∧ x ≤ 9
    · rw [if_neg (by omega), if_neg (by omega)]
      obtain ⟨p, rfl⟩ : ∃ m : Nat, p = m := ⟨p.toNat, by omega⟩
      obtain ⟨t, rfl⟩ : ∃ m : Nat, t = m := ⟨t.toNat, by omega⟩
      have e1 : wr (wr (4 * (p : Int)) + (t : Int)) = ((4 * p + t : Nat) : Int) := by rw [wri (x := 4 * (p : Int)) (by omega), wri (by omega)]; omega
      rw [e1]
      refine ⟨by omega, ?_⟩
      simp only [Int.toNat_natCast] at k3 k4 ⊢
      by_cases s : I 105 p = 6
      · rw [if_pos s]
        refine ⟨by omega, by omega, ?_⟩
        have kk := k3 ⟨q1, q2⟩ ⟨q3, q4⟩ r s (up2 I 109 (4 * p + t) x) (eqx_up (eqx_rf _ _) rfl) (pI_up hI (by omega) (by omega) (by omega) (by omega) (fun _ => r) (by omega)) (per_109 I p t x (by omega))
        rw [per11 I p (by omega)] at kk
        exact kk
      · rw [if_neg s]
        exact k4 ⟨⟨q1, q2⟩, q3, q4⟩ r s
    · have kk := k2 ⟨⟨q1, q2⟩, q3, q4⟩ r
      refine ite_i (fun _ => kk) (fun _ => ?_)
      rw [if_pos (by omega)]
      exact kk
  · have kk := k1 q
    rw [wri (by omega)]
    repeat' (first | exact kk | (exfalso; omega) | refine ite_i (fun _ => ?_) (fun _ => ?_))
theorem c_hour {n d : Nat} {p : Int} {I : mI} {L : mL} {c : Nat} {K : mK2} (hI : pI I)
    (k1 : ¬ (0 ≤ p ∧ p < 24) → K (some (vi (-2))) I L c)
    (k3 : 0 ≤ p ∧ p < 24 → ∀ I', eqx [1002] I I' → pI I' → I' 104 2 = p → K (some (vi (I 104 2))) I' L c) : C2 n (d + 2) 128 [vr (some 104), vi p] I L c K := by
  refine m_hour ?_
  by_cases q : 0 ≤ p ∧ p < 24
  · rw [if_neg (by omega), if_neg (by omega)]
    exact k3 q _ (eqx_up (eqx_rf _ _) rfl) (pI_up hI (by omega) (by omega) (by omega) (by omega) (by omega) (fun _ => ⟨by omega, by omega, fun _ => q⟩)) up2_same
  · have kk := k1 q
    repeat' (first | exact kk | (exfalso; omega) | refine ite_i (fun _ => ?_) (fun _ => ?_))
