/-! ===== the reference's reads ===== -/
theorem c_begin {n d : Nat} {I : mI} {L : mL} {c : Nat} {K : mK2} (ho : offOk I) (k : K (some (vi (bM I : Int))) I L c) : C2 n d 145 [vr (some 104)] I L c K := by
  obtain ⟨⟨h1, h2⟩, h3⟩ := ho
  refine m_begin ?_
  unfold bM at k
  by_cases q : I 104 10 < 0
  · rw [if_pos q] at k ⊢; exact k
  · rw [if_neg q] at k ⊢
    rw [show wr (10 * I 104 10) = ((10 * (I 104 10).toNat : Nat) : Int) by unfold wr; omega]
    exact k
theorem c_behind {n d : Nat} {I : mI} {L : mL} {c : Nat} {K : mK2} (ho : offOk I) (k : K (some (vi ((bM I + kM I : Nat) : Int))) I L c) : C2 n d 146 [vr (some 104)] I L c K := by
  obtain ⟨⟨h1, h2⟩, h3⟩ := ho
  refine m_behind ?_
  unfold bM kM at k
  by_cases q : I 104 10 < 0
  · rw [if_pos q, if_pos q] at k; rw [if_pos q]; exact k
  · rw [if_neg q, if_neg q] at k; rw [if_neg q]
    obtain ⟨h4, h5⟩ := h3 (by omega)
    refine ⟨⟨by omega, h2⟩, ?_⟩
    rw [show wr (wr (10 * I 104 10) + I 111 (I 104 10).toNat) = ((10 * (I 104 10).toNat + (I 111 (I 104 10).toNat).toNat : Nat) : Int) by unfold wr; omega]
    exact k
theorem lastM_step (J : mI) (w : Int) (b : Nat) (x : Int) (k : Nat) : lastM J w b (k + 1) x = if J 112 (b + k) = w then J 113 (b + k) else lastM J w b k x := rfl
theorem c_lastOf {n d : Nat} {w x : Int} {I : mI} {L : mL} {c : Nat} {K : mK2} (ho : offOk I) (k : K (some (vi (lastM I w (bM I) (kM I) x))) I L c) : C2 n (d + 1) 147 [vr (some 104), vi w, vi x] I L c K := by
  have h60 := (bk60 ho).1
  refine m_lastOf (c_begin ho ?_)
  have key := loopN (N := kM I) (P := fun j => W2 n (d + 1) 147 8 [some (vr (some 104)), some (vi w), none, some (vi (lastM I w (bM I) j x)), some (vi ((bM I + j : Nat) : Int))] [] I L c K) ?_ ?_ 0 (Nat.zero_le _)
  · exact key
  · refine m_lastOf_8 (c_behind ho ?_)
    show if _ then _ else _
    rw [if_neg (by omega)]
    exact k
  · intro j hj ih
    refine m_lastOf_8 (c_behind ho ?_)
    show if _ then _ else _
    rw [if_pos (by omega)]
    refine ⟨⟨by omega, by omega⟩, ?_⟩
    rw [Int.toNat_natCast, wr_nat (by omega)]
    by_cases q : I 112 (bM I + j) = w
    · rw [if_pos q]
      rw [lastM_step, if_pos q] at ih
      exact ⟨⟨by omega, by omega⟩, ih⟩
    · rw [if_neg q]
      rw [lastM_step, if_neg q] at ih
      exact ih
theorem c_taste {n d : Nat} {I : mI} {L : mL} {c : Nat} {K : mK2} (ho : offOk I) (k : K (some (vi (offM I).1)) I L c) : C2 n (d + 2) 148 [vr (some 104)] I L c K := by
  refine m_taste ?_
  by_cases q : I 104 26 < 0
  · rw [if_pos q]
    refine c_lastOf ho ?_
    have e : (offM I).1 = lastM I 2 (bM I) (kM I) 8 := if_neg (by omega)
    rw [e] at k
    exact k
  · rw [if_neg q]
    have e : (offM I).1 = I 104 26 := if_pos (by omega)
    rw [e] at k
    exact k
theorem c_light {n d : Nat} {I : mI} {L : mL} {c : Nat} {K : mK2} (ho : offOk I) (k : K (some (vi (offM I).2.1)) I L c) : C2 n (d + 2) 149 [vr (some 104)] I L c K := by
  refine m_light (c_lastOf ho ?_)
  show if _ then _ else _
  have e : (offM I).2.1 = if lastM I 3 (bM I) (kM I) 18 < 23 then lastM I 3 (bM I) (kM I) 18 else 23 := rfl
  rw [e] at k
  by_cases q : lastM I 3 (bM I) (kM I) 18 < 23
  · rw [if_pos q] at k ⊢; exact k
  · rw [if_neg q] at k ⊢; exact k
theorem c_rate {n d : Nat} {I : mI} {L : mL} {c : Nat} {K : mK2} (ho : offOk I) (k : K (some (vi (offM I).2.2.1)) I L c) : C2 n (d + 2) 150 [vr (some 104)] I L c K := m_rate (c_lastOf ho k)
theorem c_glow {n d : Nat} {I : mI} {L : mL} {c : Nat} {K : mK2} (ho : oI I) (h1 : 0 ≤ I 104 2 ∧ I 104 2 < 24) (k : K (some (vi (glowS (offM I).2.1 (I 104 2)))) I L c) : C2 n (d + 3) 154 [vr (some 104)] I L c K := by
  obtain ⟨_, ⟨h3, h4⟩, _⟩ := okO_M ho
  refine m_glow (c_light ho.1 ?_)
  generalize hl : (offM I).2.1 = l at *
  unfold glowS farS at k
  rw [ri_vi]
  by_cases q : l < I 104 2
  · rw [if_pos q]
    refine c_light ho.1 ?_
    simp only [if_pos q] at k
    rw [hl]
    simp (disch := omega) only [↓if_pos, ↓if_neg, ↓andp, wri, up2_same, up2_at, up2_ne, ri_vi, rv_no, Int.toNat_natCast, tdiv_nn, tmod_nn]
    by_cases q2 : I 104 2 - l < 24 - (I 104 2 - l)
    · simp only [if_pos q2] at k ⊢
      by_cases q3 : 9 - (I 104 2 - l) < 0
      · simp only [if_pos q3] at k ⊢; exact k
      · simp only [if_neg q3] at k ⊢; exact k
    · simp only [if_neg q2] at k ⊢
      by_cases q3 : 9 - (24 - (I 104 2 - l)) < 0
      · simp only [if_pos q3] at k ⊢; exact k
      · simp only [if_neg q3] at k ⊢; exact k
  · rw [if_neg q]
    refine c_light ho.1 ?_
    simp only [if_neg q] at k
    rw [hl]
    simp (disch := omega) only [↓if_pos, ↓if_neg, ↓andp, wri, up2_same, up2_at, up2_ne, ri_vi, rv_no, Int.toNat_natCast, tdiv_nn, tmod_nn]
    by_cases q2 : l - I 104 2 < 24 - (l - I 104 2)
    · simp only [if_pos q2] at k ⊢
      by_cases q3 : 9 - (l - I 104 2) < 0
      · simp only [if_pos q3] at k ⊢; exact k
      · simp only [if_neg q3] at k ⊢; exact k
    · simp only [if_neg q2] at k ⊢
      by_cases q3 : 9 - (24 - (l - I 104 2)) < 0
      · simp only [if_pos q3] at k ⊢; exact k
      · simp only [if_neg q3] at k ⊢; exact k
theorem has_bit : ∀ g : Fin 64, ∀ p : Fin 6, decide (band (bshr (g.val : Int) (p.val : Int)) 1 = 1) = Nat.testBit g.val p.val := by decide +kernel
theorem c_has {n d : Nat} {g : Int} {p : Nat} {I : mI} {L : mL} {c : Nat} {K : mK2} (hg : 0 ≤ g ∧ g < 64) (hp : p < 6) (k : K (some (vi (if Nat.testBit g.toNat p = true then 1 else 0))) I L c) : C2 n d 117 [vr (some 104), vi g, vi (p : Int)] I L c K := by
  obtain ⟨g, rfl⟩ : ∃ m : Nat, g = m := ⟨g.toNat, by omega⟩
  have hb := has_bit ⟨g, by omega⟩ ⟨p, hp⟩
  dsimp only at hb
  refine m_has ?_
  rw [Int.toNat_natCast, ← hb] at k
  by_cases q : band (bshr (g : Int) (p : Int)) 1 = 1
  · rw [if_pos q]; rw [if_pos (decide_eq_true q)] at k; exact k
  · rw [if_neg q]; rw [if_neg (by rw [decide_eq_false q]; decide)] at k; exact k
theorem c_factOf {n d : Nat} {f t : Int} {p : Nat} {I : mI} {L : mL} {c : Nat} {K : mK2} (hp : p < 6) (ha : 0 ≤ I 107 p ∧ I 107 p ≤ 99) (k : K (some (vi (factS (perM I p) (I 104 2) t f))) I L c) : C2 n d 151 [vr (some 104), vi f, vi (p : Int), vi t] I L c K := by
  refine m_factOf ?_
  rw [show factS (perM I p) (I 104 2) t f = if f = 0 then (p : Int) else if f = 1 then t else if f = 2 then I 105 p else if f = 3 then I 106 p else if f = 4 then I 107 p / 10 else I 104 2 from rfl] at k
  simp only [Int.toNat_natCast]
  by_cases q0 : f = 0
  · rw [if_pos q0] at k ⊢; exact k
  rw [if_neg q0] at k ⊢
  by_cases q1 : f = 1
  · rw [if_pos q1] at k ⊢; exact k
  rw [if_neg q1] at k ⊢
  by_cases q2 : f = 2
  · rw [if_pos q2] at k ⊢; exact ⟨by omega, k⟩
  rw [if_neg q2] at k ⊢
  by_cases q3 : f = 3
  · rw [if_pos q3] at k ⊢; exact ⟨by omega, k⟩
  rw [if_neg q3] at k ⊢
  by_cases q4 : f = 4
  · rw [if_pos q4] at k ⊢
    refine ⟨by omega, ?_⟩
    simp (disch := omega) only [wri, up2_same, up2_at, up2_ne, ri_vi, rv_no, Int.toNat_natCast, tdiv_nn, tmod_nn]
    exact k
  rw [if_neg q4] at k ⊢
  exact k
/-! how the pile stands -/
def pil (I : mI) : List Bool → Prop
  | [] => True
  | a :: r => I 119 r.length = (if a = true then 1 else 0) ∧ pil I r
theorem pil_up {I : mI} {k : Nat} {v : Int} : ∀ {r : List Bool}, r.length ≤ k → pil I r → pil (up2 I 119 k v) r
  | [], _, _ => trivial
  | a :: r, hk, h => by
    rw [List.length_cons] at hk
    exact ⟨by rw [up2_at (by omega)]; exact h.1, pil_up (by omega) h.2⟩
theorem pil_cg {I I' : mI} (e : I' 119 = I 119) : ∀ {r : List Bool}, pil I r → pil I' r
  | [], _ => trivial
  | a :: r, h => ⟨by rw [e]; exact h.1, pil_cg e h.2⟩
theorem codesF_cg {I I' : mI} (e : I' 116 = I 116) : ∀ m a, codesF I' a m = codesF I a m
  | 0, _ => rfl
  | m + 1, a => by unfold codesF; rw [e, codesF_cg e m]
def b2i (b : Bool) : Int := if b = true then 1 else 0
theorem wfz_not {h : Nat} {zs : List Int} (w : wfz h (-33 :: zs) = true) : 0 < h ∧ wfz h zs = true := by
  unfold wfz at w
  rw [if_pos rfl, Bool.and_eq_true, Nat.blt_eq] at w
  exact w
theorem wfz_two {h : Nat} {z : Int} {zs : List Int} (q : z < 0) (q1 : z ≠ -33) (w : wfz h (z :: zs) = true) : (z = -38 ∨ z = -124) ∧ 1 < h ∧ wfz (h - 1) zs = true := by
  unfold wfz at w
  rw [if_neg q1] at w
  by_cases r : z = -38 ∨ z = -124
  · rw [if_pos r, Bool.and_eq_true, Nat.blt_eq] at w
    exact ⟨r, w⟩
  · rw [if_neg r, Bool.and_eq_true, decide_eq_true_eq] at w
    omega
theorem wfz_tst {h : Nat} {z : Int} {zs : List Int} (q : ¬ z < 0) (w : wfz h (z :: zs) = true) : z < 6000 ∧ h < 31 ∧ wfz (h + 1) zs = true := by
  unfold wfz at w
  rw [if_neg (by omega), if_neg (by omega), Bool.and_eq_true, Bool.and_eq_true, decide_eq_true_eq, Nat.blt_eq] at w
  exact ⟨w.1.2, Nat.lt_trans w.2.1 (by decide), w.2.2⟩
theorem holds_loop {n d : Nat} {cl t : Int} {p b : Nat} {I : mI} {L : mL} {c : Nat} {K : mK2} (hcl : 0 ≤ cl ∧ cl < 60) (hp : p < 6) (ha : 0 ≤ I 107 p ∧ I 107 p ≤ 99) (hb : I 115 cl.toNat = (b : Int)) (hb6 : b ≤ 600) :
    ∀ (m a : Nat) (st : List Bool) (I' : mI), eqx [119] I I' → pil I' st → a + m = b → st.length ≤ 31 → wfz st.length (codesF I a m) = true → (∀ I'', eqx [119] I I'' → K (some (vi (b2i (topS ((codesF I a m).foldl (stpS (perM I p) (I 104 2) t) st))))) I'' L c) →
    W2 n (d + 1) 152 11 [some (vr (some 104)), some (vi cl), some (vi (p : Int)), some (vi t), some (vi (st.length : Int)), some (vi (a : Int)), none, none, none] [] I' L c K := by
  intro m
  induction m with
  | zero =>
    intro a st I' e pl hab hl w k
    refine m_holds_11 ⟨hcl, ?_⟩
    have w1 : st.length = 1 := Nat.eq_of_beq_eq_true w
    obtain ⟨x, rfl⟩ := List.length_eq_one_iff.mp w1
    have kk := k I' e
    rw [e 115 _ rfl, hb, if_neg (by omega)]
    refine ⟨by omega, ?_⟩
    have p1 : I' 119 0 = b2i x := pl.1
    rw [p1]
    cases x with
    | true => exact kk
    | false => exact kk
  | succ m ih =>
    intro a st I' e pl hab hl w k
    refine m_holds_11 ⟨hcl, ?_⟩
    rw [e 115 _ rfl, hb, if_pos (by omega)]
    refine ⟨by omega, ?_⟩
    rw [Int.toNat_natCast, e 116 _ rfl, wr_nat (by omega)]
    rw [show codesF I a (m + 1) = I 116 a :: codesF I (a + 1) m from rfl] at w k
    rw [List.foldl_cons] at k
    generalize hz : I 116 a = z at *
    by_cases q1 : z = -33
    · subst q1
      obtain ⟨w1, w2⟩ := wfz_not w
      rw [if_pos rfl]
      cases st with
      | nil => exact absurd w1 (by decide)
      | cons x r =>
        have kk : ∀ I'', eqx [119] I I'' → K (some (vi (b2i (topS ((codesF I (a + 1) m).foldl (stpS (perM I p) (I 104 2) t) ((!x) :: r)))))) I'' L c := k
        have hl' : r.length + 1 ≤ 31 := hl
        have pr : wr (((x :: r).length : Int) - 1) = (r.length : Int) := by rw [List.length_cons, wri (by omega)]; omega
        rw [pr, Int.toNat_natCast]
        refine ⟨by omega, ?_⟩
        have p1 : I' 119 r.length = b2i x := pl.1
        rw [p1]
        cases x with
        | true =>
          rw [if_neg (by decide)]
          refine ⟨by omega, ?_⟩
          exact ih (a + 1) ((!true) :: r) _ (eqx_up e rfl) ⟨up2_same, pil_up (Nat.le_refl _) pl.2⟩ (by omega) hl w2 kk
        | false =>
          rw [if_pos (by decide)]
          refine ⟨by omega, ?_⟩
          exact ih (a + 1) ((!false) :: r) _ (eqx_up e rfl) ⟨up2_same, pil_up (Nat.le_refl _) pl.2⟩ (by omega) hl w2 kk
    · rw [if_neg q1]
      by_cases q2 : z < 0
      · rw [if_pos q2]
        obtain ⟨q3, w1, w2⟩ := wfz_two q2 q1 w
        cases st with
        | nil => exact absurd w1 (by decide)
        | cons y s =>
        cases s with
        | nil => exact absurd w1 (Nat.lt_irrefl 1)
        | cons x r =>
        have hl' : r.length + 2 ≤ 31 := hl
        have pr : wr (((y :: x :: r).length : Int) + -1) = ((r.length + 1 : Nat) : Int) := by rw [List.length_cons, List.length_cons, wri (by omega)]; omega
        have pr2 : wr (((r.length + 1 : Nat) : Int) - 1) = (r.length : Int) := by rw [wri (by omega)]; omega
        have py : I' 119 (r.length + 1) = b2i y := pl.1
        have px : I' 119 r.length = b2i x := pl.2.1
        have st1 : stpS (perM I p) (I 104 2) t (y :: x :: r) z = (if z = -38 then (x && y) else (x || y)) :: r := by
          unfold stpS
          rw [if_neg q1, if_pos q2]
        rw [st1] at k
        have fin : ∀ v : Int, v = b2i (if z = -38 then (x && y) else (x || y)) → W2 n (d + 1) 152 11 [some (vr (some 104)), some (vi cl), some (vi (p : Int)), some (vi t), some (vi ((r.length + 1 : Nat) : Int)), some (vi ((a + 1 : Nat) : Int)), none, none, none] [] (up2 I' 119 r.length v) L c K := by
          intro v hv
          exact ih (a + 1) ((if z = -38 then (x && y) else (x || y)) :: r) _ (eqx_up e rfl) ⟨by rw [up2_same]; exact hv, pil_up (Nat.le_refl _) pl.2.2⟩ (by omega) (by rw [List.length_cons]; omega) w2 k
        rw [pr, pr2, Int.toNat_natCast, Int.toNat_natCast, py, px]
        by_cases q4 : z = -38
        · rw [if_pos q4] at fin
          rw [if_pos q4]
          refine ⟨by omega, ?_⟩
          cases x with
          | false =>
            rw [if_pos (by decide)]
            exact ⟨by omega, fin 0 (by cases y <;> rfl)⟩
          | true =>
            rw [if_neg (by decide)]
            refine ⟨by omega, ?_⟩
            cases y with
            | false => rw [if_pos (by decide)]; exact ⟨by omega, fin 0 rfl⟩
            | true => rw [if_neg (by decide)]; exact ⟨by omega, fin 1 rfl⟩
        · rw [if_neg q4] at fin
          rw [if_neg q4]
          refine ⟨by omega, ?_⟩
          cases x with
          | true =>
            rw [if_neg (by decide)]
            exact ⟨by omega, fin 1 (by cases y <;> rfl)⟩
          | false =>
            rw [if_pos (by decide)]
            refine ⟨by omega, ?_⟩
            cases y with
            | false => rw [if_pos (by decide)]; exact ⟨by omega, fin 0 rfl⟩
            | true => rw [if_neg (by decide)]; exact ⟨by omega, fin 1 rfl⟩
      · rw [if_neg q2]
        obtain ⟨w0, w1, w2⟩ := wfz_tst q2 w
        have st1 : stpS (perM I p) (I 104 2) t st z = tstS (perM I p) (I 104 2) t z :: st := by
          unfold stpS
          rw [if_neg q1, if_neg q2]
        rw [st1] at k
        refine c_factOf hp (by rw [e 107 _ rfl]; exact ha) ?_
        rw [perM_e e rfl, e 104 2 rfl]
        have fin : ∀ v : Int, v = b2i (tstS (perM I p) (I 104 2) t z) → W2 n (d + 1) 152 11 [some (vr (some 104)), some (vi cl), some (vi (p : Int)), some (vi t), some (vi ((st.length + 1 : Nat) : Int)), some (vi ((a + 1 : Nat) : Int)), none, none, none] [] (up2 I' 119 st.length v) L c K := by
          intro v hv
          exact ih (a + 1) (tstS (perM I p) (I 104 2) t z :: st) _ (eqx_up e rfl) ⟨by rw [up2_same]; exact hv, pil_up (Nat.le_refl _) pl⟩ (by omega) (by rw [List.length_cons]; omega) w2 k
        simp (disch := omega) only [wri, up2_same, up2_at, up2_ne, ri_vi, rv_no, Int.toNat_natCast, tdiv_nn, tmod_nn]
        rw [show (st.length : Int) + 1 = ((st.length + 1 : Nat) : Int) by omega]
        unfold tstS at fin
        by_cases s0 : z / 100 % 10 = 0
        · rw [if_pos s0]
          rw [if_pos s0] at fin
          by_cases r : factS (perM I p) (I 104 2) t (z / 1000) < z % 100
          · rw [if_pos r]; exact ⟨by omega, fin 1 (by rw [decide_eq_true r]; rfl)⟩
          · rw [if_neg r]; exact ⟨by omega, fin 0 (by rw [decide_eq_false r]; rfl)⟩
        rw [if_neg s0]
        rw [if_neg s0] at fin
        by_cases s1 : z / 100 % 10 = 1
        · rw [if_pos s1]
          rw [if_pos s1] at fin
          by_cases r : factS (perM I p) (I 104 2) t (z / 1000) = z % 100
          · rw [if_pos r]; exact ⟨by omega, fin 1 (by rw [decide_eq_true r]; rfl)⟩
          · rw [if_neg r]; exact ⟨by omega, fin 0 (by rw [decide_eq_false r]; rfl)⟩
        rw [if_neg s1]
        rw [if_neg s1] at fin
        by_cases r : z % 100 < factS (perM I p) (I 104 2) t (z / 1000)
        · rw [if_pos r]; exact ⟨by omega, fin 1 (by rw [decide_eq_true r]; rfl)⟩
        · rw [if_neg r]; exact ⟨by omega, fin 0 (by rw [decide_eq_false r]; rfl)⟩
theorem c_holds {n d : Nat} {cl p : Nat} {t : Int} {I : mI} {L : mL} {c : Nat} {K : mK2} (hcl : cl < 60) (hp : p < 6) (ha : 0 ≤ I 107 p ∧ I 107 p ≤ 99) (hc : 0 ≤ I 114 cl ∧ I 114 cl ≤ I 115 cl ∧ I 115 cl ≤ 600 ∧ wfz 0 (codesM I cl) = true) (k : ∀ I', eqx [119] I I' → K (some (vi (b2i (evS (perM I p) (I 104 2) t (codesM I cl))))) I' L c) : C2 n (d + 1) 152 [vr (some 104), vi (cl : Int), vi (p : Int), vi t] I L c K := by
  obtain ⟨h1, h2, h3, h4⟩ := hc
  refine m_holds ⟨by omega, ?_⟩
  rw [Int.toNat_natCast, show I 114 cl = (((I 114 cl).toNat : Nat) : Int) by omega]
  exact holds_loop (b := (I 115 cl).toNat) (by omega) hp ha (by rw [Int.toNat_natCast]; omega) (by omega) ((I 115 cl).toNat - (I 114 cl).toNat) (I 114 cl).toNat [] I (eqx_rf _ _) trivial (by omega) (by decide) h4 k
theorem wishM_step (J : mI) (b k : Nat) : wishM J b (k + 1) = wishM J b k ++ (if J 112 (b + k) ≤ 1 then [((if J 112 (b + k) = 0 then J 113 (b + k) else -(J 113 (b + k))), codesM J (b + k))] else []) := rfl
theorem c_liking {n d : Nat} {p : Nat} {t : Int} {I : mI} {L : mL} {c : Nat} {K : mK2} (ho : oI I) (hI : pI I) (hp : p < 6) (k : ∀ I', eqx [119] I I' → K (some (vi (likS (offM I) (perM I p) (I 104 2) t))) I' L c) : C2 n (d + 2) 153 [vr (some 104), vi (p : Int), vi t] I L c K := by
  have h60 := bk60 ho.1
  have hage := ((hI.2.2.2.1) p hp).2.2
  refine m_liking (c_begin ho.1 ?_)
  have bd := fun j (hj : j ≤ kM I) => add_bd (perM I p) (I 104 2) t (wishM I (bM I) j) 0 (fun w hw => (wishM_ok j (fun i hi => ⟨ho.2.1 _ (by omega), fun q => ((ho.2.2.1 i (by omega)).2 q).2.2.2⟩) w hw).1)
  have key := loopN (N := kM I) (P := fun j => ∀ I', eqx [119] I I' → W2 n (d + 2) 153 8 [some (vr (some 104)), some (vi (p : Int)), some (vi t), some (vi ((wishM I (bM I) j).foldl (addS (perM I p) (I 104 2) t) 0)), some (vi ((bM I + j : Nat) : Int))] [] I' L c K) ?_ ?_ 0 (Nat.zero_le _)
  · exact key I (eqx_rf _ _)
  · intro I' e
    refine m_liking_8 (c_behind (oI_e e rfl ho).1 ?_)
    rw [ri_vi, bM_e e rfl, kM_e e rfl, if_neg (by omega)]
    exact k I' e
  · intro j hj ih I' e
    refine m_liking_8 (c_behind (oI_e e rfl ho).1 ?_)
    have b1 := bd j (by omega)
    have l1 := wishM_len I (bM I) j
    have hc := ho.2.2.1 j hj
    have hn := ho.2.1 (bM I + j) (by omega)
    rw [ri_vi, bM_e e rfl, kM_e e rfl, if_pos (by omega)]
    refine ⟨by omega, ?_⟩
    rw [wishM_step, List.foldl_append] at ih
    rw [Int.toNat_natCast, e 112 _ rfl, wr_nat (by omega)]
    by_cases q : 1 < I 112 (bM I + j)
    · rw [if_pos q]
      rw [if_neg (by omega)] at ih
      exact ih I' e
    · rw [if_neg q]
      rw [if_pos (by omega)] at ih
      refine c_holds (by omega) hp (by rw [e 107 _ rfl]; exact hage) ?_ ?_
      · rw [e 114 _ rfl, e 115 _ rfl, codes_e e rfl]
        exact hc.2 (by omega)
      · intro I2 e2
        have e3 := eqx_tr e e2
        rw [perM_e e rfl, codes_e e rfl, e 104 2 rfl]
        rw [ri_vi, e3 112 _ rfl, e3 113 _ rfl]
        rw [List.foldl_cons, List.foldl_nil] at ih
        unfold addS at ih
        by_cases q2 : evS (perM I p) (I 104 2) t (codesM I (bM I + j)) = true
        · rw [if_pos q2] at ih
          rw [q2]
          rw [if_neg (by decide)]
          refine ⟨by omega, ?_⟩
          by_cases q3 : I 112 (bM I + j) = 0
          · rw [if_pos q3] at ih
            rw [if_pos q3]
            refine ⟨by omega, ?_⟩
            rw [wri (by omega)]
            exact ih I2 e3
          · rw [if_neg q3] at ih
            rw [if_neg q3]
            refine ⟨by omega, ?_⟩
            rw [wri (x := -(I 113 (bM I + j))) (by omega), wri (by omega)]
            exact ih I2 e3
        · rw [if_neg q2] at ih
          rw [Bool.eq_false_iff.mpr q2]
          rw [if_pos (by decide)]
          exact ih I2 e3
