/-! ===== the reference's reads ===== -/
/-- the held office is there, its clauses are as read -/
def offOk (I : mI) : Prop := (-1 ≤ I 104 10 ∧ I 104 10 < 6) ∧ (0 ≤ I 104 10 → 0 ≤ I 111 (I 104 10).toNat ∧ I 111 (I 104 10).toNat ≤ 10)
theorem bk60 {I : mI} (h : offOk I) : bM I + kM I ≤ 60 := by
  obtain ⟨⟨h1, h2⟩, h3⟩ := h
  unfold bM kM
  split <;> omega
theorem c_begin {n d : Nat} {I : mI} {L : mL} {c : Nat} {K : mK2} (ho : offOk I) (k : K (some (vi (bM I : Int))) I L c) : C2 n d 145 [vr (some 104)] I L c K := by
  obtain ⟨⟨h1, h2⟩, h3⟩ := ho
  refine m_begin ?_
  unfold bM at k
  by_cases q : I 104 10 < 0
  · rw [if_pos q] at k ⊢; exact k
  · rw [if_neg q] at k ⊢
    rw [show wr (10 * I 104 10) = ((10 * (I 104 10).toNat : Nat) : Int) by unfold wr; omega]
    exact k
theorem c_behind {n d : Nat} {I : mI} {L : mL} {c : Nat} {K : mK2} (ho : offOk I) (k : K (some (vi ((bM I + kM I : Nat) : Int))) I L c) : C2 n d 146 [vr (some 104)] I L c K := by
  obtain ⟨⟨h1, h2⟩, h3⟩ := ho
  refine m_behind ?_
  unfold bM kM at k
  by_cases q : I 104 10 < 0
  · rw [if_pos q, if_pos q] at k; rw [if_pos q]; exact k
  · rw [if_neg q, if_neg q] at k; rw [if_neg q]
    obtain ⟨h4, h5⟩ := h3 (by omega)
    refine ⟨⟨by omega, h2⟩, ?_⟩
    rw [show wr (wr (10 * I 104 10) + I 111 (I 104 10).toNat) = ((10 * (I 104 10).toNat + (I 111 (I 104 10).toNat).toNat : Nat) : Int) by unfold wr; omega]
    exact k
theorem lastM_step (J : mI) (w : Int) (b : Nat) (x : Int) (k : Nat) : lastM J w b (k + 1) x = if J 112 (b + k) = w then J 113 (b + k) else lastM J w b k x := rfl
theorem c_lastOf {n d : Nat} {w x : Int} {I : mI} {L : mL} {c : Nat} {K : mK2} (ho : offOk I) (k : K (some (vi (lastM I w (bM I) (kM I) x))) I L c) : C2 n (d + 1) 147 [vr (some 104), vi w, vi x] I L c K := by
  have h60 := bk60 ho
  refine m_lastOf (c_begin ho ?_)
  have key := loopN (N := kM I) (P := fun j => W2 n (d + 1) 147 8 [some (vr (some 104)), some (vi w), none, some (vi (lastM I w (bM I) j x)), some (vi ((bM I + j : Nat) : Int))] [] I L c K) ?_ ?_ 0 (Nat.zero_le _)
  · exact key
  · refine m_lastOf_8 (c_behind ho ?_)
    show if _ then _ else _
    rw [if_neg (by omega)]
    exact k
  · intro j hj ih
    refine m_lastOf_8 (c_behind ho ?_)
    show if _ then _ else _
    rw [if_pos (by omega)]
    refine ⟨⟨by omega, by omega⟩, ?_⟩
    rw [Int.toNat_natCast, wr_nat (by omega)]
    by_cases q : I 112 (bM I + j) = w
    · rw [if_pos q]
      rw [lastM_step, if_pos q] at ih
      exact ⟨⟨by omega, by omega⟩, ih⟩
    · rw [if_neg q]
      rw [lastM_step, if_neg q] at ih
      exact ih
theorem c_taste {n d : Nat} {I : mI} {L : mL} {c : Nat} {K : mK2} (ho : offOk I) (k : K (some (vi (offM I).1)) I L c) : C2 n (d + 2) 148 [vr (some 104)] I L c K := by
  refine m_taste ?_
  by_cases q : I 104 26 < 0
  · rw [if_pos q]
    refine c_lastOf ho ?_
    have e : (offM I).1 = lastM I 2 (bM I) (kM I) 8 := if_neg (by omega)
    rw [e] at k
    exact k
  · rw [if_neg q]
    have e : (offM I).1 = I 104 26 := if_pos (by omega)
    rw [e] at k
    exact k
theorem c_light {n d : Nat} {I : mI} {L : mL} {c : Nat} {K : mK2} (ho : offOk I) (k : K (some (vi (offM I).2.1)) I L c) : C2 n (d + 2) 149 [vr (some 104)] I L c K := by
  refine m_light (c_lastOf ho ?_)
  show if _ then _ else _
  have e : (offM I).2.1 = if lastM I 3 (bM I) (kM I) 18 < 23 then lastM I 3 (bM I) (kM I) 18 else 23 := rfl
  rw [e] at k
  by_cases q : lastM I 3 (bM I) (kM I) 18 < 23
  · rw [if_pos q] at k ⊢; exact k
  · rw [if_neg q] at k ⊢; exact k
theorem c_rate {n d : Nat} {I : mI} {L : mL} {c : Nat} {K : mK2} (ho : offOk I) (k : K (some (vi (offM I).2.2.1)) I L c) : C2 n (d + 2) 150 [vr (some 104)] I L c K := m_rate (c_lastOf ho k)
/-- hour and light are hours -/
def hrOk (I : mI) : Prop := (0 ≤ I 104 2 ∧ I 104 2 < 24) ∧ (0 ≤ (offM I).2.1 ∧ (offM I).2.1 < 24)
theorem c_glow {n d : Nat} {I : mI} {L : mL} {c : Nat} {K : mK2} (ho : offOk I) (hh : hrOk I) (k : K (some (vi (glowS (offM I).2.1 (I 104 2)))) I L c) : C2 n (d + 3) 154 [vr (some 104)] I L c K := by
  obtain ⟨⟨h1, h2⟩, h3, h4⟩ := hh
  refine m_glow (c_light ho ?_)
  show if _ then _ else _
  generalize hl : (offM I).2.1 = l at *
  unfold glowS at k
  by_cases q : l < I 104 2
  · rw [if_pos q]
    refine c_light ho ?_
    rw [hl]
    show if _ then _ else _
    simp only [if_pos q] at k
    rw [show wr (I 104 2 - l) = I 104 2 - l by unfold wr; omega, show wr (24 - (I 104 2 - l)) = 24 - (I 104 2 - l) by unfold wr; omega, show wr (9 - (I 104 2 - l)) = 9 - (I 104 2 - l) by unfold wr; omega, show wr (9 - (24 - (I 104 2 - l))) = 9 - (24 - (I 104 2 - l)) by unfold wr; omega]
    by_cases q2 : I 104 2 - l < 24 - (I 104 2 - l)
    · rw [if_pos q2] at k ⊢
      by_cases q3 : 9 - (I 104 2 - l) < 0
      · rw [if_pos q3] at k ⊢; exact k
      · rw [if_neg q3] at k ⊢; exact k
    · rw [if_neg q2] at k ⊢
      by_cases q3 : 9 - (24 - (I 104 2 - l)) < 0
      · rw [if_pos q3] at k ⊢; exact k
      · rw [if_neg q3] at k ⊢; exact k
  · rw [if_neg q]
    refine c_light ho ?_
    rw [hl]
    show if _ then _ else _
    simp only [if_neg q] at k
    rw [show wr (l - I 104 2) = l - I 104 2 by unfold wr; omega, show wr (24 - (l - I 104 2)) = 24 - (l - I 104 2) by unfold wr; omega, show wr (9 - (l - I 104 2)) = 9 - (l - I 104 2) by unfold wr; omega, show wr (9 - (24 - (l - I 104 2))) = 9 - (24 - (l - I 104 2)) by unfold wr; omega]
    by_cases q2 : l - I 104 2 < 24 - (l - I 104 2)
    · rw [if_pos q2] at k ⊢
      by_cases q3 : 9 - (l - I 104 2) < 0
      · rw [if_pos q3] at k ⊢; exact k
      · rw [if_neg q3] at k ⊢; exact k
    · rw [if_neg q2] at k ⊢
      by_cases q3 : 9 - (24 - (l - I 104 2)) < 0
      · rw [if_pos q3] at k ⊢; exact k
      · rw [if_neg q3] at k ⊢; exact k
