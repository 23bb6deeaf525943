/-! ===== pairs: the class ===== -/
def jJ (O : mO) (Ps : Nat → mP) (hour : Int) (a b : Nat) : Int := jointS O (Ps a) (Ps b) hour
theorem jJ_sym (O : mO) (Ps : Nat → mP) (hour : Int) (a b : Nat) : jJ O Ps hour a b = jJ O Ps hour b a := by
  unfold jJ jointS
  rw [many_cg (g := fun t => !(offS O (Ps b) hour t || offS O (Ps a) hour t)) (fun i _ => by rw [Bool.or_comm])]
theorem jJ_self {O : mO} {Ps : Nat → mP} {hour : Int} {a : Nat} (h : Ps a 4 = 0) : paysS O (Ps a) hour = jJ O Ps hour a a := by
  have e := many_not (offS O (Ps a) hour) 6
  unfold jJ jointS paysS
  have e2 : manyS (fun t => !(offS O (Ps a) hour t || offS O (Ps a) hour t)) 6 = manyS (fun t => !(offS O (Ps a) hour t)) 6 := many_cg (fun i _ => by rw [Bool.or_self])
  rw [if_neg (by rw [h]; decide), e2]
  clear e2
  generalize manyS (fun t => !(offS O (Ps a) hour t)) 6 = x at *
  generalize manyS (offS O (Ps a) hour) 6 = y at *
  congr 1
  omega
def FU (I : mI) (O : mO) (Ps : Nat → mP) (N : Nat) (hour : Int) : Prop := ∀ p, p < N → ∀ t, t < 6 → I 87 (6 * p + t) = fineS O (Ps p) hour t
theorem sb_ge : ∀ s : Fin 64, ∀ w : Fin 6, s.val ≤ sb s.val w.val ∧ (Nat.testBit s.val w.val = false → s.val < sb s.val w.val) := by decide +kernel
theorem x_firstFree {n d put one : Nat} {I : mI} {L : mL} {c : Nat} {K : mK2} (hp : put < 64) (h : isff put one) (k : K (some (vi (one : Int))) I L c) : C2 n d 17 [vi (put : Int)] I L c K := by
  have h1 := h.1
  refine As_firstFree ?_
  have loop := loopN (N := one) (P := fun j => W2 n d 17 2 [some (vi (put : Int)), some (vi (j : Int))] [] I L c K) ?_ ?_ 0 (Nat.zero_le _)
  · exact loop
  · refine As_firstFree_2 ?_
    rw [if_pos (by omega), if_pos ((bit_is hp h.1).mpr h.2.1)]
    exact k
  · intro j hj ih
    refine As_firstFree_2 ?_
    rw [if_pos (by omega), if_neg (fun w => by have := (bit_is hp (by omega)).mp w; rw [h.2.2 j hj] at this; cases this), wr_nat (show j < 1000000 by omega)]
    exact ih
theorem x_paidBehind {n d h N put a b : Nat} {hour : Int} {Ps : Nat → mP} {I : mI} {L : mL} {c : Nat} {K : mK2} (ho : oOk n c h) (oc : oC I h) (hN : N ≤ 6) (fu : FU I (offC I h) Ps N hour) (hp : put < 64) (ha : a < N) (hb : b < N) (tb : 0 ≤ I 84 (sb (sb put a) b) ∧ I 84 (sb (sb put a) b) ≤ 40000)
    (k : K (some (vi (jJ (offC I h) Ps hour a b + I 84 (sb (sb put a) b)))) I L c) : C2 n (d + 1) 18 [vr (some 80), vr (some h), vi (put : Int), vi (a : Int), vi (b : Int)] I L c K := by
  have b1 := joint_bd (A := Ps a) (B := Ps b) (hour := hour) oc.1
  have e1 := (sb_all ⟨put, hp⟩ ⟨a, by omega⟩).1
  have l1 := sb_lt hp (show a < 6 by omega)
  have e2 := (sb_all ⟨sb put a, l1⟩ ⟨b, by omega⟩).1
  have l2 := sb_lt l1 (show b < 6 by omega)
  dsimp only at e1 e2
  refine As_paidBehind (x_paidByTwo ho oc (by omega) (by omega) (fu a ha) (fu b hb) ?_)
  rw [ri_vi, e1, e2, Int.toNat_natCast]
  unfold jJ at k
  rw [wri (by omega)]
  exact ⟨by omega, k⟩
def relq (one : Nat) (f : Option (Int × Nat)) (l4 l5 : Int) : Prop := match f with
  | none => l4 = -1
  | some q => l4 = ((oth one q.2 : Nat) : Int) ∧ l5 = q.1
theorem relq_up {one : Nat} {f : Option (Int × Nat)} {l4 l5 v : Int} {o : Nat} (h : relq one f l4 l5) {A B : Prop} (ha : (relq one (bet f (some (v, o))) ((oth one o : Nat) : Int) v) → A) (hb : relq one (bet f (some (v, o))) l4 l5 → B) : if l4 < 0 then A else if v < l5 then A else B := by
  cases f with
  | none =>
    have h' : l4 = -1 := h
    rw [if_pos (by omega)]
    exact ha ⟨rfl, rfl⟩
  | some q =>
    obtain ⟨h1, h2⟩ : l4 = ((oth one q.2 : Nat) : Int) ∧ l5 = q.1 := h
    have st : bet (some q) (some (v, o)) = if v < q.1 then some (v, o) else some q := rfl
    rw [st] at ha hb
    rw [if_neg (by omega), h2]
    by_cases w : v < q.1
    · rw [if_pos w] at ha ⊢
      exact ha ⟨rfl, rfl⟩
    · rw [if_neg w] at hb ⊢
      exact hb ⟨h1, h2⟩
theorem x_nextPartner {n d h N put one : Nat} {hour : Int} {Ps : Nat → mP} {I : mI} {L : mL} {c : Nat} {K : mK2} (ho : oOk n c h) (oc : oC I h) (hN : N ≤ 6) (fu : FU I (offC I h) Ps N hour) (out : ∀ t, t < 6 → N ≤ t → Nat.testBit put t = true) (hp : put < 64) (hf : isff put one)
    (tb : ∀ o, o = 6 ∨ (one < o ∧ o < 6 ∧ Nat.testBit put o = false) → 0 ≤ I 84 (sb (sb put one) (oth one o)) ∧ I 84 (sb (sb put one) (oth one o)) ≤ 40000)
    (k : ∀ q, fo (cnd (I 84) (jJ (offC I h) Ps hour) put one) 7 = some q → K (some (vi ((oth one q.2 : Nat) : Int))) I L c) : C2 n (d + 2) 19 [vr (some 80), vr (some h), vi (put : Int), vi (one : Int)] I L c K := by
  have h1 := hf.1
  have oN : ∀ t, t < 6 → Nat.testBit put t = false → t < N := fun t ht hb => by
    by_cases w : t < N
    · exact w
    · rw [out t ht (by omega)] at hb; cases hb
  have one_N := oN one h1 hf.2.1
  generalize hF : cnd (I 84) (jJ (offC I h) Ps hour) put one = F at *
  refine As_nextPartner ?_
  have loop := loopN (N := 6 - one) (P := fun i => ∀ l4 l5 : Int, relq one (fo F (one + 1 + i)) l4 l5 → W2 n (d + 2) 19 9 [some (vr (some 80)), some (vr (some h)), some (vi (put : Int)), some (vi (one : Int)), some (vi l4), some (vi l5), some (vi ((1 + i : Nat) : Int)), none, none] [] I L c K) ?_ ?_ 0 (Nat.zero_le _)
  · refine loop (-1) 0 ?_
    rw [show fo F (one + 1 + 0) = none from fo_none (fun i hi => by
      rw [← hF]
      exact if_neg (by omega))]
    rfl
  · intro l4 l5 hq
    refine As_nextPartner_9 ?_
    rw [show one + 1 + (6 - one) = 7 by omega] at hq
    rw [wri (x := 6 - (one : Int)) (by omega), if_pos (by omega)]
    have hs := fo_some (f := F) (i := 6) (k := 7) (by decide) (by rw [← hF]; unfold cnd; rw [if_pos (Or.inl rfl)]; exact fun e => by cases e)
    cases hf7 : fo F 7 with
    | none => exact absurd hf7 hs
    | some q =>
      rw [hf7] at hq
      obtain ⟨e1, e2⟩ : l4 = ((oth one q.2 : Nat) : Int) ∧ l5 = q.1 := hq
      rw [if_neg (by omega), e1]
      exact k q hf7
  · intro i hi ih l4 l5 hq
    have st : fo F (one + 1 + (i + 1)) = bet (fo F (one + 1 + i)) (F (one + 1 + i)) := rfl
    rw [st] at ih
    refine As_nextPartner_9 ?_
    rw [wri (x := 6 - (one : Int)) (by omega), if_neg (by omega), wri (x := (one : Int) + ((1 + i : Nat) : Int)) (by omega), wr_nat (show 1 + i < 1000000 by omega), show (one : Int) + ((1 + i : Nat) : Int) = ((one + 1 + i : Nat) : Int) by omega]
    generalize ho6 : one + 1 + i = o at *
    by_cases w : o = 6
    · have eF : F o = some (jJ (offC I h) Ps hour one (oth one o) + I 84 (sb (sb put one) (oth one o)), o) := by
        rw [← hF]; exact if_pos (Or.inl w)
      have eo : oth one o = one := if_pos w
      have tb1 := tb o (Or.inl w)
      rw [eo] at eF tb1
      rw [eF] at ih
      rw [if_pos (by omega), if_pos ((bit_is hp h1).mpr hf.2.1)]
      refine x_paidBehind ho oc hN fu hp one_N one_N tb1 ?_
      rw [ri_vi]
      refine relq_up (o := o) hq (fun a => ?_) (fun b => ih _ _ b)
      rw [eo] at a
      exact ih _ _ a
    · rw [if_neg (by omega)]
      have o6 : o < 6 := by omega
      by_cases hb : Nat.testBit put o = false
      · have eF : F o = some (jJ (offC I h) Ps hour one (oth one o) + I 84 (sb (sb put one) (oth one o)), o) := by
          rw [← hF]; exact if_pos (Or.inr ⟨by omega, o6, hb⟩)
        have eo : oth one o = o := if_neg w
        have tb1 := tb o (Or.inr ⟨by omega, o6, hb⟩)
        rw [eo] at eF tb1
        rw [eF] at ih
        rw [if_pos ((bit_is hp o6).mpr hb)]
        refine x_paidBehind ho oc hN fu hp one_N (oN o o6 hb) tb1 ?_
        rw [ri_vi]
        refine relq_up (o := o) hq (fun a => ?_) (fun b => ih _ _ b)
        rw [eo] at a
        exact ih _ _ a
      · have eF : F o = none := by
          rw [← hF]
          refine if_neg (fun a => ?_)
          rcases a with a | a
          · exact w a
          · exact hb a.2.2
        rw [eF, bet_none] at ih
        rw [if_neg (fun a => hb ((bit_is hp o6).mp a))]
        exact ih _ _ hq

theorem sub_is : ∀ a : Fin 64, ∀ b : Fin 64, decide (band (a.val : Int) (b.val : Int) = (b.val : Int)) = decide (∀ t : Fin 6, Nat.testBit b.val t.val = true → Nat.testBit a.val t.val = true) := by decide +kernel
theorem ff_is : ∀ s : Fin 63, ∃ one : Fin 6, Nat.testBit s.val one.val = false ∧ ∀ t : Fin 6, t.val < one.val → Nat.testBit s.val t.val = true := by decide +kernel
theorem sb_two : ∀ s : Fin 64, ∀ a : Fin 6, ∀ b : Fin 6, bior (s.val : Int) (bior (bshl 1 (a.val : Int)) (bshl 1 (b.val : Int))) = ((sb (sb s.val a.val) b.val : Nat) : Int) := by decide +kernel
theorem ff_un {put a b : Nat} (ha : isff put a) (hb : isff put b) : a = b := by
  rcases Nat.lt_trichotomy a b with h | h | h
  · have := hb.2.2 a h; rw [ha.2.1] at this; cases this
  · exact h
  · have := ha.2.2 b h; rw [hb.2.1] at this; cases this
theorem ff_ex {put : Nat} (h : put < 63) : ∃ one, isff put one := by
  obtain ⟨one, h1, h2⟩ := ff_is ⟨put, h⟩
  exact ⟨one.val, one.isLt, h1, fun t ht => h2 ⟨t, by have := one.isLt; omega⟩ ht⟩
theorem sb_gt {put one o : Nat} (hp : put < 64) (hf : isff put one) (ho : o = 6 ∨ (one < o ∧ o < 6 ∧ Nat.testBit put o = false)) : put < sb (sb put one) (oth one o) ∧ sb (sb put one) (oth one o) < 64 ∧ ∀ t, t < 6 → Nat.testBit put t = true → Nat.testBit (sb (sb put one) (oth one o)) t = true := by
  have h1 := hf.1
  have l1 := sb_lt hp h1
  have o6 := oth_lt h1 ho
  have g1 := (sb_ge ⟨put, hp⟩ ⟨one, h1⟩).2 hf.2.1
  have g2 := (sb_ge ⟨sb put one, l1⟩ ⟨oth one o, o6⟩).1
  dsimp only at g1 g2
  refine ⟨by omega, sb_lt l1 o6, fun t ht hb => ?_⟩
  rw [sb_bit l1 o6, sb_bit hp h1]
  split
  · rfl
  · split
    · rfl
    · exact hb
theorem cnd_cg {T T' : Nat → Int} {J : Nat → Nat → Int} {put one : Nat} (hp : put < 64) (hf : isff put one) (h : ∀ s, put < s → s < 64 → T s = T' s) (o : Nat) : cnd T J put one o = cnd T' J put one o := by
  unfold cnd
  by_cases w : o = 6 ∨ (one < o ∧ o < 6 ∧ Nat.testBit put o = false)
  · have g := sb_gt hp hf w
    rw [if_pos w, if_pos w, h _ g.1 g.2.1]
  · rw [if_neg w, if_neg w]
def TBd (N : Nat) (g : Nat → Bool) (T : Nat → Int) (lo : Nat) : Prop := ∀ s, lo ≤ s → s < 64 → (∀ t, t < 6 → N ≤ t ∨ g t = true → Nat.testBit s t = true) → 0 ≤ T s ∧ T s ≤ 594 * (63 - (s : Int))
abbrev lPU : List Nat := [84, 87]
theorem x_pairUp {n d h N : Nat} {g : Nat → Bool} {I : mI} {L : mL} {c : Nat} {K : mK2} (ho : oOk n c h) (hr : h = 69 ∨ h = 76 ∨ 155 ≤ h) (oc : oC I h) (hP : cP I) (hN : N = (I 17 1).toNat) (hg : g = fun p => decide (perN I p 4 = 1))
    (k : ∀ I' out, eqx lPU I I' → FU I' (offC I h) (perN I) N (I 17 2) → out < 64 → (∀ t, t < 6 → (Nat.testBit out t = true ↔ N ≤ t ∨ g t = true)) → tabS N g (jJ (offC I h) (perN I) (I 17 2)) (I' 84) 0 → TBd N g (I' 84) 0 → K (some (vi (out : Int))) I' L c) : C2 n (d + 5) 16 [vr (some 80), vr (some 17), vr (some h)] I L c K := by
  have hPP := hP
  obtain ⟨p1, p2, p3, p4⟩ := hP
  have hN6 : N ≤ 6 := by omega
  refine As_pairUp ?_
  rw [chkE (show TY 17 = 7 from rfl)]
  refine x_fillFines ho hr oc hPP p2 ?_
  intro I0 x0 f0
  have x0 : eqx lPU I I0 := eqx_wk rfl x0
  have fu0 : FU I0 (offC I h) (perN I) N (I 17 2) := by rw [hN]; exact f0
  have loop1 := loopN (N := 6) (P := fun j => ∀ o, o < 64 → (∀ t, t < 6 → (Nat.testBit o t = true ↔ t < j ∧ (N ≤ t ∨ g t = true))) → W2 n (d + 5) 16 15 [some (vr (some 80)), some (vr (some 17)), some (vr (some h)), some (vi (o : Int)), some (vi (j : Int)), none] [] I0 L c K) ?_ ?_ 0 (Nat.zero_le _)
  · exact loop1 0 (by decide) (fun t _ => by rw [Nat.zero_testBit]; constructor; (intro a; cases a); (intro a; omega))
  · intro o o64 ob
    have ob : ∀ t, t < 6 → (Nat.testBit o t = true ↔ N ≤ t ∨ g t = true) := fun t ht => by
      rw [ob t ht]
      exact ⟨fun a => a.2, fun a => ⟨ht, a⟩⟩
    refine As_pairUp_15 ?_
    rw [if_neg (by omega)]
    refine ⟨by decide, ?_⟩
    have loop2 := loopN (N := 63) (P := fun i => ∀ I1, eqx lPU I I1 → FU I1 (offC I h) (perN I) N (I 17 2) → tabS N g (jJ (offC I h) (perN I) (I 17 2)) (I1 84) (63 - i) → TBd N g (I1 84) (63 - i) → W2 n (d + 5) 16 69 [some (vr (some 80)), none, some (vr (some h)), some (vi (o : Int)), some (vi (62 - (i : Int))), none] [] I1 L c K) ?_ ?_ 0 (Nat.zero_le _)
    · refine loop2 _ (eqx_up x0 rfl) (fun p hp t ht => ?_) ⟨up2_same, fun put h1 h2 => by omega⟩ (fun s h1 h2 _ => ?_)
      · rw [up2_ne (by decide)]; exact fu0 p hp t ht
      · obtain rfl : s = 63 := by omega
        rw [show up2 I0 84 63 0 84 63 = 0 from up2_same]
        decide
    · intro I1 x1 fu1 t1 b1
      refine As_pairUp_69 ?_
      rw [if_pos (by omega)]
      exact k I1 o x1 fu1 o64 ob t1 b1
    · intro i hi ih I1 x1 fu1 t1 b1
      have ep : 62 - (i : Int) = ((62 - i : Nat) : Int) := by omega
      have en : wr (62 - (i : Int) + -1) = 62 - ((i + 1 : Nat) : Int) := by rw [wri (by omega)]; omega
      refine As_pairUp_69 ?_
      rw [if_neg (by omega), en, ep]
      clear en ep
      generalize hput : 62 - i = put at *
      have p63 : put < 63 := by omega
      have p64 : put < 64 := by omega
      rw [show 63 - i = put + 1 by omega] at t1 b1
      rw [show 63 - (i + 1) = put by omega] at ih
      have hs := sub_is ⟨put, p64⟩ ⟨o, o64⟩
      dsimp only at hs
      by_cases w : ∀ t : Fin 6, Nat.testBit o t.val = true → Nat.testBit put t.val = true
      · rw [decide_eq_true w, decide_eq_true_eq] at hs
        rw [if_pos hs]
        have outS : ∀ t, t < 6 → N ≤ t ∨ g t = true → Nat.testBit put t = true := fun t ht a => w ⟨t, ht⟩ ((ob t ht).mpr a)
        obtain ⟨one, hf⟩ := ff_ex p63
        have one6 := hf.1
        have cell : ∀ o', o' = 6 ∨ (one < o' ∧ o' < 6 ∧ Nat.testBit put o' = false) → 0 ≤ I1 84 (sb (sb put one) (oth one o')) ∧ I1 84 (sb (sb put one) (oth one o')) ≤ 594 * (62 - (put : Int)) := by
          intro o' ho'
          have g1 := sb_gt p64 hf ho'
          have b2 := b1 _ (by omega) g1.2.1 (fun t ht a => g1.2.2 t ht (outS t ht a))
          omega
        have oN : ∀ t, t < 6 → Nat.testBit put t = false → t < N := fun t ht hb => by
          by_cases v : t < N
          · exact v
          · rw [outS t ht (Or.inl (by omega))] at hb; cases hb
        have eo := off_s x1 rfl hr
        have oc1 := oC_s x1 rfl hr oc
        rw [← eo] at fu1
        refine x_firstFree p64 hf ?_
        rw [ri_vi]
        refine x_nextPartner ho oc1 hN6 fu1 (fun t ht a => outS t ht (Or.inl a)) p64 hf (fun o' ho' => by have := cell o' ho'; omega) ?_
        intro q hq
        obtain ⟨q1, q2⟩ := cnd_q hq
        have o6 : oth one q.2 < 6 := oth_lt one6 q1
        have oNn : oth one q.2 < N := by
          unfold oth
          by_cases v : q.2 = 6
          · rw [if_pos v]; exact oN _ one6 hf.2.1
          · rw [if_neg v]
            rcases q1 with a | a
            · exact absurd a v
            · exact oN _ a.2.1 a.2.2
        have cq := cell q.2 q1
        rw [ri_vi]
        refine x_paidBehind ho oc1 hN6 fu1 p64 (oN _ one6 hf.2.1) oNn (by omega) ?_
        have jb := joint_bd (A := perN I one) (B := perN I (oth one q.2)) (hour := I 17 2) oc1.1
        rw [ri_vi, ← q2, Int.toNat_natCast]
        have qb : 0 ≤ q.1 ∧ q.1 ≤ 594 * (63 - (put : Int)) := by rw [q2]; unfold jJ; omega
        rw [eo] at hq fu1
        clear q2 jb cq
        refine ⟨by omega, ih _ (eqx_up x1 rfl) ?_ ?_ ?_⟩
        · intro p hp t ht
          rw [up2_ne (by decide)]; exact fu1 p hp t ht
        · refine ⟨by rw [up2_at (by omega)]; exact t1.1, ?_⟩
          intro put' h1 h2 h3 one' hf'
          have cg : ∀ o', cnd (I1 84) (jJ (offC I h) (perN I) (I 17 2)) put' one' o' = cnd (up2 I1 84 put q.1 84) (jJ (offC I h) (perN I) (I 17 2)) put' one' o' := cnd_cg (by omega) hf' (fun s s1 s2 => by rw [up2_at (by omega)])
          by_cases v : put' = put
          · rw [v] at hf' cg ⊢
            obtain rfl := ff_un hf hf'
            rw [← fo_cg (fun i _ => cg i), hq, up2_same]
            exact ⟨q.2, rfl⟩
          · obtain ⟨B, hB⟩ := t1.2 put' (by omega) h2 h3 one' hf'
            rw [← fo_cg (fun i _ => cg i), up2_at v]
            exact ⟨B, hB⟩
        · intro s s1 s2 s3
          by_cases v : s = put
          · rw [v, up2_same]; exact qb
          · rw [up2_at v]; exact b1 s (by omega) s2 s3
      · rw [decide_eq_false w, decide_eq_false_iff_not] at hs
        rw [if_neg hs]
        have bad : ¬ ∀ t, t < 6 → N ≤ t ∨ g t = true → Nat.testBit put t = true := fun a => w (fun t ht => a t.val t.isLt ((ob t.val t.isLt).mp ht))
        refine ih I1 x1 fu1 ⟨t1.1, fun put' h1 h2 h3 => ?_⟩ (fun s s1 s2 s3 => ?_)
        · by_cases v : put' = put
          · rw [v] at h3; exact absurd h3 bad
          · exact t1.2 put' (by omega) h2 h3
        · by_cases v : s = put
          · rw [v] at s3; exact absurd s3 bad
          · exact b1 s (by omega) s2 s3
  · intro j hj ih o o64 ob
    have po := pOk_now (n := n) (c := c) (show j < 6 by omega)
    have g4 := p4 j (by omega)
    have gj : g j = decide (perN I j 4 = 1) := by rw [hg]
    have p4e : perN I j 4 = I (25 + 3 * j) 4 := rfl
    have se := (sb_all ⟨o, o64⟩ ⟨j, hj⟩).1
    dsimp only at se
    refine As_pairUp_15 ?_
    rw [if_pos (by omega), chkE (show TY 17 = 7 from rfl), x0 17 1 rfl, wr_nat (show j < 1000000 by omega), se]
    have setit : (N ≤ j ∨ g j = true) → W2 n (d + 5) 16 15 [some (vr (some 80)), some (vr (some 17)), some (vr (some h)), some (vi ((sb o j : Nat) : Int)), some (vi ((j + 1 : Nat) : Int)), none] [] I0 L c K := by
      intro a
      refine ih _ (sb_lt o64 hj) (fun t ht => ?_)
      rw [sb_bit o64 hj]
      by_cases e : t = j
      · rw [if_pos e, e]; exact ⟨fun _ => ⟨by omega, a⟩, fun _ => rfl⟩
      · rw [if_neg e, ob t ht]
        exact ⟨fun b => ⟨by omega, b.2⟩, fun b => ⟨by omega, b.2⟩⟩
    by_cases v : j < N
    · rw [if_pos (by omega), chkE (show TY 17 = 7 from rfl), show Rs c 17 0 = some 18 from rfl, drf_s]
      refine chk_i rfl ⟨by rw [show LN n 18 = 6 from rfl]; omega, ?_⟩
      rw [Int.toNat_natCast, Rs18 (by omega), drf_s, chkE po.1, cell_n x0 (a := 25 + 3 * j) (by omega) (by simp; omega)]
      by_cases w : I (25 + 3 * j) 4 = 0
      · rw [if_pos w]
        refine ih o o64 (fun t ht => ?_)
        rw [ob t ht]
        have gf : ¬ g j = true := by rw [gj, decide_eq_true_eq, p4e]; omega
        constructor
        · exact fun b => ⟨by omega, b.2⟩
        · intro b
          refine ⟨?_, b.2⟩
          by_cases e : t = j
          · rw [e] at b
            rcases b.2 with b' | b'
            · omega
            · exact absurd b' gf
          · omega
      · rw [if_neg w]
        refine setit (Or.inr ?_)
        rw [gj, decide_eq_true_eq, p4e]; omega
    · rw [if_neg (by omega)]
      exact setit (Or.inl (by omega))
def ansP (v : Nat) : Int := if v = 6 then -5 else (v : Int)
theorem x_walk {n d h N person : Nat} {g : Nat → Bool} {hour : Int} {Ps : Nat → mP} {I : mI} {L : mL} {c : Nat} {K : mK2} (ho : oOk n c h) (oc : oC I h) (hN : N ≤ 6) (fu : FU I (offC I h) Ps N hour) (hT : tabS N g (jJ (offC I h) Ps hour) (I 84) 0) (hB : TBd N g (I 84) 0) (hpn : person < 6) :
    ∀ m k f put l5, k + m = N → put < 64 → MK N g k f put → VP N g k f → l5 ≤ k → K (some (vi (if Nat.testBit put person = true then -5 else ansP ((rwp (I 84) (jJ (offC I h) Ps hour) m (k, f) put).getD (person - k) 6)))) I L c → W2 n (d + 3) 20 6 [some (vr (some 80)), some (vr (some h)), none, some (vi (person : Int)), some (vi (put : Int)), some (vi (l5 : Int)), none, none] [] I L c K
  | 0, k, f, put, l5, hk, hp, hmk, vp, h5, kk => by
    have e63 : put = 63 := full63 ⟨put, hp⟩ (fun t => (hmk t.val t.isLt).mpr (by
      by_cases w : t.val < k
      · exact Or.inr (Or.inr (Or.inl w))
      · exact Or.inl (by omega)))
    have al : ∀ t : Fin 6, Nat.testBit 63 t.val = true := by decide
    rw [e63, if_pos (al ⟨person, hpn⟩)] at kk
    refine As_partner_6 ?_
    rw [e63]
    by_cases w : (l5 : Int) < 6
    · rw [if_pos w, if_pos (by decide)]; exact kk
    · rw [if_neg w]; exact kk
  | m + 1, k, f, put, l5, hk, hp, hmk, vp, h5, kk => by
    have kn : k < N := by omega
    have k6 : k < 6 := by omega
    have below : Nat.testBit put person = false → k ≤ person := fun hb => by
      by_cases w : k ≤ person
      · exact w
      · rw [(hmk person hpn).mpr (Or.inr (Or.inr (Or.inl (by omega))))] at hb; cases hb
    rw [show rwp (I 84) (jJ (offC I h) Ps hour) (m + 1) (k, f) put = (if Nat.testBit put k = true then (if chs f k k < 6 then chs f k k else 6) :: rwp (I 84) (jJ (offC I h) Ps hour) m (nxp (k, f) (if chs f k k < 6 then chs f k k else 6)) put else bst (I 84) (jJ (offC I h) Ps hour) put k :: rwp (I 84) (jJ (offC I h) Ps hour) m (nxp (k, f) (bst (I 84) (jJ (offC I h) Ps hour) put k)) (sb (sb put k) (oth k (bst (I 84) (jJ (offC I h) Ps hour) put k)))) from rfl] at kk
    by_cases hb : Nat.testBit put k = true
    · rw [if_pos hb] at kk
      obtain ⟨hmk', vp', key⟩ := st_put hN kn hmk vp hb
      refine x_walk ho oc hN fu hT hB hpn m (k + 1) _ put l5 (by omega) hp hmk' vp' (by omega) ?_
      by_cases w : Nat.testBit put person = true
      · rw [if_pos w] at kk ⊢; exact kk
      · rw [if_neg w] at kk ⊢
        have b1 := below (by simpa using w)
        have ne : person ≠ k := fun e => w (by rw [e]; exact hb)
        rw [show person - k = (person - (k + 1)) + 1 by omega] at kk
        exact kk
    · rw [if_neg hb] at kk
      have hb' : Nat.testBit put k = false := by simpa using hb
      have hf := MK_ff hN kn hmk hb'
      have p63 : put < 63 := by
        by_cases w : put = 63
        · have al : ∀ t : Fin 6, Nat.testBit 63 t.val = true := by decide
          rw [w, al ⟨k, k6⟩] at hb'; cases hb'
        · omega
      have outS : ∀ t, t < 6 → N ≤ t ∨ g t = true → Nat.testBit put t = true := fun t ht a => (hmk t ht).mpr (by rcases a with a | a; exact Or.inl a; exact Or.inr (Or.inl a))
      refine As_partner_6 ?_
      rw [if_pos (by omega), if_neg (by omega)]
      refine x_firstFree hp hf ?_
      rw [ri_vi]
      refine x_nextPartner ho oc hN fu (fun t ht a => outS t ht (Or.inl a)) hp hf (fun o' ho' => ?_) ?_
      · have g1 := sb_gt hp hf ho'
        have b2 := hB _ (by omega) g1.2.1 (fun t ht a => g1.2.2 t ht (outS t ht a))
        omega
      intro q hq
      obtain ⟨q1, _⟩ := cnd_q hq
      have eB : bst (I 84) (jJ (offC I h) Ps hour) put k = q.2 := by unfold bst; rw [hq]
      rw [eB] at kk
      obtain ⟨hmk', vp'⟩ := st_free hN kn hp hmk vp hb' q1
      have o6 : oth k q.2 < 6 := oth_lt k6 q1
      rw [ri_vi]
      by_cases e1 : person = k
      · rw [if_pos (by omega)]
        rw [if_neg (by rw [e1]; exact hb), show person - k = 0 by omega, show (q.2 :: rwp (I 84) (jJ (offC I h) Ps hour) m (nxp (k, f) q.2) (sb (sb put k) (oth k q.2))).getD 0 6 = q.2 from rfl] at kk
        unfold ansP at kk
        by_cases e6 : q.2 = 6
        · rw [if_pos e6] at kk
          rw [show oth k q.2 = k from if_pos e6, if_pos rfl]
          exact kk
        · rw [if_neg e6] at kk
          rw [show oth k q.2 = q.2 from if_neg e6, if_neg (by omega)]
          exact kk
      · rw [if_neg (by omega)]
        by_cases e2 : oth k q.2 = person
        · rw [if_pos (by omega)]
          have e6 : ¬ q.2 = 6 := fun e => e1 (by rw [← e2]; exact if_pos e)
          have eq : q.2 = person := by rw [← e2]; exact (if_neg e6).symm
          have q1' : k < q.2 ∧ q.2 < 6 ∧ Nat.testBit put q.2 = false := by
            rcases q1 with a | a
            · exact absurd a e6
            · exact a
          have pN : person < N := by
            by_cases v : person < N
            · exact v
            · rw [← eq] at v
              have := outS q.2 q1'.2.1 (Or.inl (by omega))
              rw [q1'.2.2] at this; cases this
          have fx := rw_fix (J := jJ (offC I h) Ps hour) (T := I 84) hN m (k + 1) (nxp (k, f) q.2).2 (sb (sb put k) (oth k q.2)) (by omega) (sb_lt (sb_lt hp k6) o6) hmk' vp' person (by omega) pN (by rw [sb_bit (sb_lt hp k6) o6, if_pos e2.symm])
          rw [eq] at fx kk
          rw [chs_sm, if_pos k6] at fx
          rw [← eq, if_neg (by rw [q1'.2.2]; decide), eq, show person - k = (person - (k + 1)) + 1 by omega, show ∀ (a : Nat) (l : List Nat) i, (a :: l).getD (i + 1) 6 = l.getD i 6 from fun _ _ _ => rfl] at kk
          rw [show rwp (I 84) (jJ (offC I h) Ps hour) m (nxp (k, f) person) = rwp (I 84) (jJ (offC I h) Ps hour) m (k + 1, (nxp (k, f) person).2) from rfl, fx] at kk
          unfold ansP at kk
          rw [if_neg (by omega)] at kk
          exact kk
        · rw [if_neg (by omega)]
          have s2 := sb_two ⟨put, hp⟩ ⟨k, k6⟩ ⟨oth k q.2, o6⟩
          dsimp only at s2
          rw [s2, wr_nat (show l5 < 1000000 by omega)]
          refine x_walk ho oc hN fu hT hB hpn m (k + 1) _ _ (l5 + 1) (by omega) (sb_lt (sb_lt hp k6) o6) hmk' vp' (by omega) ?_
          have same : Nat.testBit (sb (sb put k) (oth k q.2)) person = Nat.testBit put person := by
            rw [sb_bit (sb_lt hp k6) o6, sb_bit hp k6]
            rw [if_neg (show ¬ person = oth k q.2 from fun e => e2 e.symm), if_neg e1]
          rw [same]
          by_cases w : Nat.testBit put person = true
          · rw [if_pos w] at kk ⊢; exact kk
          · rw [if_neg w] at kk ⊢
            have b1 := below (by simpa using w)
            rw [show person - k = (person - (k + 1)) + 1 by omega] at kk
            exact kk
theorem MK_0 {N : Nat} {g : Nat → Bool} {out : Nat} (h : ∀ t, t < 6 → (Nat.testBit out t = true ↔ N ≤ t ∨ g t = true)) : MK N g 0 (fun _ => 6) out ∧ VP N g 0 (fun _ => 6) := by
  refine ⟨fun t ht => ?_, fun t _ _ a => absurd a (by unfold chs; omega)⟩
  rw [h t ht]
  constructor
  · rintro (a | a)
    · exact Or.inl a
    · exact Or.inr (Or.inl a)
  · rintro (a | a | a | a)
    · exact Or.inl a
    · exact Or.inr a
    · omega
    · exact absurd a (by unfold chs; omega)
abbrev gC (I : mI) : Nat → Bool := fun p => decide (perN I p 4 = 1)
theorem x_pairs' {n d : Nat} {p : Int} {I : mI} {L : mL} {c : Nat} {K : mK2} (hO : cO I c) (hP : cP I) (hp : rg p)
    (k1 : ¬ (p = 0 ∨ (10 ≤ p ∧ p < 10 + I 17 1)) → K (some (vi (-1))) I L c)
    (k3 : (p = 0 ∨ (10 ≤ p ∧ p < 10 + I 17 1)) → ∀ I' out, eqx lPU I I' → out < 64 → (∀ t, t < 6 → (Nat.testBit out t = true ↔ (I 17 1).toNat ≤ t ∨ gC I t = true)) → tabS (I 17 1).toNat (gC I) (jJ (offC I (hH I)) (perN I) (I 17 2)) (I' 84) 0 →
      K (some (vi (if p = 0 then I' 84 out else if Nat.testBit out (p - 10).toNat = true then -5 else ansP ((rwp (I' 84) (jJ (offC I (hH I)) (perN I) (I 17 2)) (I 17 1).toNat (0, fun _ => 6) out).getD (p - 10).toNat 6)))) I' L c) : C2 n (d + 6) 82 [vr (some 16), vi p] I L c K := by
  have hO' := hO
  have hP' := hP
  obtain ⟨p1, p2, p3, p4⟩ := hP
  obtain ⟨ho, oc⟩ := cO_h (n := n) hO
  have hw := wr_m (a := 10) hp (by omega)
  refine x_pairs ?_
  by_cases q : p = 0
  · rw [if_pos q]
    refine x_hold hO' ?_
    rw [rr_vr]
    refine x_pairUp ho (hH_r I) oc hP' rfl (g := gC I) rfl ?_
    intro I1 out x1 f1 o64 ob t1 b1
    have kk := k3 (Or.inl q) I1 out x1 o64 ob t1
    rw [ri_vi, if_pos q, Int.toNat_natCast]
    rw [if_pos q] at kk
    exact ⟨by omega, kk⟩
  · by_cases q2 : 10 ≤ p ∧ p < 10 + I 17 1
    · have e10 : wr (p - 10) = p - 10 := by omega
      have kk := k3 (Or.inr q2)
      obtain ⟨m, em⟩ : ∃ m : Nat, p - 10 = m := ⟨(p - 10).toNat, by omega⟩
      rw [e10, em, if_neg q, if_neg (by omega), if_pos (by omega), if_pos (by omega)]
      refine x_hold hO' ?_
      rw [rr_vr]
      refine x_pairUp ho (hH_r I) oc hP' rfl (g := gC I) rfl ?_
      intro I1 out x1 f1 o64 ob t1 b1
      have kk := kk I1 out x1 o64 ob t1
      rw [if_neg q, em, Int.toNat_natCast] at kk
      rw [ri_vi, if_neg q]
      have e17 : hH I1 = hH I := by unfold hH; rw [x1 17 4 rfl]
      have eo := off_s x1 rfl (hH_r I)
      have oc1 := oC_s x1 rfl (hH_r I) oc
      refine x_hold (cO_s x1 rfl (x1 16 5 rfl) (x1 17 4 rfl) hO') ?_
      rw [rr_vr, e17]
      obtain ⟨mk0, vp0⟩ := MK_0 ob
      refine As_partner (d := d + 2) ?_
      refine x_walk (N := (I 17 1).toNat) (g := gC I) (hour := I 17 2) (Ps := perN I) ho oc1 (by omega) (by rw [eo]; exact f1) (by rw [eo]; exact t1) b1 (show m < 6 by omega) (I 17 1).toNat 0 (fun _ => 6) out 0 (by omega) o64 mk0 vp0 (by omega) ?_
      rw [ri_vi, eo]
      exact kk
    · have kk := k1 (by omega)
      rw [if_neg q]
      repeat' (first | exact kk | (exfalso; omega) | refine ite_i (fun _ => ?_) (fun _ => ?_))
