/-! ===== pairs: the reference's loop, and both answer alike ===== -/
abbrev cdM (I : mI) : Nat → Option (Int × List Nat) := cand (okp (nM I) (gonM I)) nxp (csp (jM I) (alM I)) 7 (nM I) (0, fun _ => 6)
def relP (I : mI) (N : Nat) (f : Option (Int × List Nat)) (l2 : Int) : Prop := match f with
  | none => l2 = -1
  | some q => l2 = q.1 ∧ 0 ≤ q.1 ∧ ∀ i, i < N → I 128 i = ((q.2.getD i 0 : Nat) : Int)
def fctP (I I1 : mI) : Prop := (∀ p, p < nM I → I1 126 p = alM I p) ∧ (∀ p, p < nM I → ∀ q, q < nM I → p ≠ q → I1 125 (6 * p + q) = jM I p q)
theorem cd_bad {I : mI} {N M b r : Nat} (hN : N = nM I) (hb : b < N) (hbad : ¬ okp N (gonM I) (b, dgt N M) (dgt N M b) = true) (h1 : M ≤ r) (h2 : r < nxN N (b + 1) M) (hr : r < 7 ^ N) : cdM I r = none := by
  subst hN
  unfold cdM cand
  refine if_neg (fun h => hbad ?_)
  have hl := dg_len 7 (nM I) r
  rw [vrow_okp (dgt (nM I) r) _ 0 _ (fun q hq => absurd hq (Nat.not_lt_zero _)) (fun i hi => by rw [Nat.zero_add]; exact dg_get _ _ _ hr (by omega))] at h
  have hh := h b (by omega)
  rw [Nat.zero_add] at hh
  have same : ∀ i, i ≤ b → dgt (nM I) r i = dgt (nM I) M i := fun i hi => nxN_same h1 h2 (by omega) (by omega)
  unfold okp at hh ⊢
  rw [same b (Nat.le_refl _)] at hh
  have ce : ∀ t, chs (dgt (nM I) r) t b = chs (dgt (nM I) M) t b := fun t => chs_cg (fun q hq => same q (by omega))
  simp only [ce] at hh
  exact hh
theorem cd_good {I : mI} {N M : Nat} (hN : N = nM I) (hM : M < 7 ^ N) (hok : ∀ p, p < N → okp N (gonM I) (p, dgt N M) (dgt N M p) = true) : cdM I M = some (sumS (fun p => csp (jM I) (alM I) (p, dgt N M) (dgt N M p)) N, dg 7 N M) := by
  subst hN
  unfold cdM cand
  have hl := dg_len 7 (nM I) M
  have hg : ∀ i, i < (dg 7 (nM I) M).length → (dg 7 (nM I) M).getD i 0 = dgt (nM I) M (0 + i) := fun i hi => by rw [Nat.zero_add]; exact dg_get _ _ _ hM (by omega)
  rw [if_pos]
  · rw [crow_csp (dgt (nM I) M) _ 0 _ hg, hl]
    simp only [Nat.zero_add]
  · rw [vrow_okp (dgt (nM I) M) _ 0 _ (fun q hq => absurd hq (Nat.not_lt_zero _)) hg]
    intro i hi
    rw [Nat.zero_add]
    exact hok i (by omega)
theorem c_pairs {n d : Nat} {p v : Int} {R : List Nat} {I : mI} {L : mL} {c : Nat} {K : mK2} (hr : rI I) (hp : rg p) (hv : fo (cdM I) (7 ^ nM I) = some (v, R))
    (k1 : ¬ (p = 0 ∨ (10 ≤ p ∧ p < 10 + I 104 0)) → K (some (vi (-1))) I L c)
    (k3 : (p = 0 ∨ (10 ≤ p ∧ p < 10 + I 104 0)) → ∀ I', eqx lPM I I' → K (some (vi (if p = 0 then v else ansP (R.getD (p - 10).toNat 0)))) I' L c) : C2 n (d + 9) 184 [vr (some 104), vi p] I L c K := by
  have hn := hr.2.1
  generalize hNN : nM I = N at *
  have e0 : I 104 0 = (N : Int) := by rw [← hNN]; unfold nM; omega
  have n6 : N ≤ 6 := by omega
  have hOk := okO_M hr.1
  have ba : ∀ p, 0 ≤ alM I p ∧ alM I p ≤ 594 := fun p => pays_bd hOk
  have bJ : ∀ p q, 0 ≤ jM I p q ∧ jM I p q ≤ 594 := fun p q => joint_bd hOk
  refine m_pairs ?_
  by_cases hcond : p = 0 ∨ (10 ≤ p ∧ p < 10 + I 104 0)
  · have main : C2 n (d + 8) 180 [vr (some 104)] I L c (fun r1 I2 L3 c4 => rv r1 (W2 n (d + 9) 184 29 [some (vr (some 104)), some (vi p), some (vi 0), none, none, none, none] [] I2 L3 c4 K)) := by
      refine c_layPairs hr ?_
      intro I1 x1 a1 j1
      rw [rv_no]
      have fin : ∀ l2 I2, eqx lPM I I2 → relP I2 N (some (v, R)) l2 → W2 n (d + 9) 184 52 [some (vr (some 104)), some (vi p), some (vi l2), some (vi 0), none, none, none] [] I2 L c K := by
        intro l2 I2 x2 ⟨h1, h2, h3⟩
        have kk := k3 hcond I2 x2
        refine m_pairs_52 ?_
        rw [if_pos rfl]
        by_cases q : p = 0
        · rw [if_pos q]
          rw [if_pos q] at kk
          rw [h1]
          exact kk
        · obtain ⟨m, em⟩ : ∃ m : Nat, p - 10 = m := ⟨(p - 10).toNat, by omega⟩
          rw [if_neg q] at kk ⊢
          have hm := h3 m (by omega)
          rw [wri (x := p - 10) (by omega), em, Int.toNat_natCast, hm]
          rw [em, Int.toNat_natCast] at kk
          have b6 : 0 ≤ (m : Int) ∧ (m : Int) < 6 := by omega
          refine ⟨b6, ?_⟩
          dsimp only at kk ⊢
          unfold ansP at kk
          by_cases w : R.getD m 0 = 6
          · rw [if_pos w] at kk
            rw [if_pos (by omega)]; exact kk
          · rw [if_neg w] at kk
            rw [if_neg (by omega)]; exact ⟨b6, kk⟩
      have goal : ∀ k M, 7 ^ N - M ≤ k → M < 7 ^ N → ∀ l2 I2, eqx lPM I I2 → fctP I I2 → (∀ i, i < N → I2 127 i = (dgt N M i : Int)) → relP I2 N (fo (cdM I) M) l2 → W2 n (d + 9) 184 52 [some (vr (some 104)), some (vi p), some (vi l2), some (vi 1), none, none, none] [] I2 L c K := by
        intro k
        induction k with
        | zero => intro M h1 h2; omega
        | succ k ih =>
          intro M hk hM l2 I2 x2 ft dgs rel
          have next : ∀ q, q ≤ N → ∀ l2 I3, eqx lPM I I3 → fctP I I3 → (∀ i, i < N → I3 127 i = (dgt N M i : Int)) → relP I3 N (fo (cdM I) (nxN N q M)) l2 → C2 n (d + 8) 182 [vr (some 104), vi ((q : Int) - 1)] I3 L c (fun r6 I7 L8 c9 => ri r6 (fun x10 => W2 n (d + 9) 184 52 [some (vr (some 104)), some (vi p), some (vi l2), some (vi x10), none, none, none] [] I7 L8 c9 K)) := by
            intro q hq l2 I3 x3 ft3 dg3 rel3
            refine c_goesOn (by rw [x3 104 0 rfl]; exact e0) n6 hM hq dg3 ?_ ?_
            · intro h
              rw [ri_vi]
              rw [h, hv] at rel3
              exact fin l2 I3 x3 rel3
            · intro I4 x4 dg4 hlt
              rw [ri_vi]
              have gt := nxN_gt N q M
              refine ih (nxN N q M) (by omega) hlt l2 I4 (eqx_tr x3 (eqx_wk rfl x4)) ⟨fun p hp => ?_, fun p hp q hq hne => ?_⟩ dg4 ?_
              · rw [x4 126 _ rfl]; exact ft3.1 p hp
              · rw [x4 125 _ rfl]; exact ft3.2 p hp q hq hne
              · generalize fo (cdM I) (nxN N q M) = f at rel3
                cases f with
                | none => exact rel3
                | some y =>
                  obtain ⟨h1, h2, h3⟩ := rel3
                  exact ⟨h1, h2, fun i hi => by rw [x4 128 _ rfl]; exact h3 i hi⟩
          have e2 : I2 104 0 = (N : Int) := by rw [x2 104 0 rfl]; exact e0
          have dg7 : ∀ i, i < N → I2 127 i = (dgt N M i : Int) ∧ dgt N M i < 7 := fun i hi => ⟨dgs i hi, Nat.mod_lt _ (by decide)⟩
          have pI2 : pI I2 := (rI_e x2 rfl rfl hr).2
          have gg : gonM I2 = gonM I := by funext t; unfold gonM; rw [x2 104 1 rfl]
          refine m_pairs_52 ?_
          rw [if_neg (by decide)]
          refine c_firstBad (d := d + 7) (N := N) (F := dgt N M) pI2 (by unfold nM; rw [e2, Int.toNat_natCast]) dg7 ?_ ?_
          · intro hok
            rw [gg] at hok
            have good := cd_good hNN.symm hM hok
            rw [ri_vi, e2, if_neg (by omega)]
            refine c_pairsCost (J := jM I) (al := alM I) (F := dgt N M) e2 n6 dg7 (by rw [← hNN]; exact ft.1) (by rw [← hNN]; exact ft.2) ba bJ ?_
            intro h0
            rw [ri_vi]
            generalize sumS (fun p => csp (jM I) (alM I) (p, dgt N M) (dgt N M p)) N = S at *
            have n1 : nxN N N M = M + 1 := by
              unfold nxN
              rw [Nat.sub_self, Nat.pow_zero, Nat.div_one, Nat.mul_one]
            have st : fo (cdM I) (nxN N N M) = bet (fo (cdM I) M) (some (S, dg 7 N M)) := by rw [n1, ← good]; rfl
            have wN : ∀ J : mI, J 104 0 = (N : Int) → wr (J 104 0 - 1) = (N : Int) - 1 := fun J h => by rw [h, wri (by omega)]
            have keep : relP I2 N (bet (fo (cdM I) M) (some (S, dg 7 N M))) l2 → C2 n (d + 8) 182 [vr (some 104), vi (wr (I2 104 0 - 1))] I2 L c (fun r16 I17 L18 c19 => ri r16 (fun x20 => W2 n (d + 9) 184 52 [some (vr (some 104)), some (vi p), some (vi l2), some (vi x20), none, none, none] [] I17 L18 c19 K)) := by
              intro h
              rw [wN I2 e2]
              exact next N (Nat.le_refl _) l2 I2 x2 ft dgs (by rw [st]; exact h)
            have take : bet (fo (cdM I) M) (some (S, dg 7 N M)) = some (S, dg 7 N M) → W2 n (d + 9) 184 103 [some (vr (some 104)), some (vi p), some (vi S), none, none, none, some (vi 0)] [] I2 L c K := by
              intro hb
              have loop := loopN (N := 6) (P := fun j => ∀ I3, eqx [128] I2 I3 → (∀ i, i < j → I3 128 i = I2 127 i) → W2 n (d + 9) 184 103 [some (vr (some 104)), some (vi p), some (vi S), none, none, none, some (vi (j : Int))] [] I3 L c K) ?_ ?_ 0 (Nat.zero_le _)
              · exact loop I2 (eqx_rf _ _) (fun i hi => absurd hi (Nat.not_lt_zero _))
              · intro I3 x3 z3
                have x4 : eqx lPM I I3 := eqx_tr x2 (eqx_wk rfl x3)
                refine m_pairs_103 ?_
                rw [if_neg (by omega), wN I3 (by rw [x3 104 0 rfl]; exact e2)]
                refine next N (Nat.le_refl _) S I3 x4 ⟨fun p hp => ?_, fun p hp q hq hne => ?_⟩ (fun i hi => ?_) ?_
                · rw [x3 126 _ rfl]; exact ft.1 p hp
                · rw [x3 125 _ rfl]; exact ft.2 p hp q hq hne
                · rw [x3 127 _ rfl]; exact dgs i hi
                · rw [st, hb]
                  refine ⟨rfl, h0, fun i hi => ?_⟩
                  rw [z3 i (by omega), dgs i hi]
                  show _ = (((dg 7 N M).getD i 0 : Nat) : Int)
                  rw [dg_get _ _ _ hM hi]
                  rfl
              · intro j hj ih2 I3 x3 z3
                refine m_pairs_103 ?_
                rw [if_pos (by omega), Int.toNat_natCast, wr_nat (show j < 1000000 by omega)]
                refine ⟨by omega, by omega, ih2 _ (eqx_up x3 rfl) (fun i hi => ?_)⟩
                by_cases e : i = j
                · rw [e, up2_same, x3 127 _ rfl]
                · rw [up2_at e]; exact z3 i (by omega)
            cases hf : fo (cdM I) M with
            | none =>
              rw [hf] at rel take
              have rel' : l2 = -1 := rel
              rw [if_pos (by omega)]
              exact take rfl
            | some y =>
              rw [hf] at rel take keep
              obtain ⟨h1, h2, h3⟩ := rel
              have bb : bet (some y) (some (S, dg 7 N M)) = if S < y.1 then some (S, dg 7 N M) else some y := rfl
              rw [bb] at take keep
              rw [if_neg (by omega)]
              by_cases w : S < y.1
              · rw [if_pos (by omega)]
                exact take (if_pos w)
              · rw [if_neg (by omega)]
                rw [if_neg w] at keep
                exact keep ⟨h1, h2, h3⟩
          · intro b hb hbad
            rw [gg] at hbad
            rw [ri_vi, e2, if_pos (by omega)]
            have le := nxN_le (n := N) (q := b + 1) (N := M) (by omega) hM
            have gt := nxN_gt N (b + 1) M
            have sk : fo (cdM I) (nxN N (b + 1) M) = fo (cdM I) M := by
              have := fo_up (f := cdM I) (a := M) (nxN N (b + 1) M - M) (fun i h1 h2 => cd_bad hNN.symm hb hbad h1 (by omega) (by omega))
              rw [show M + (nxN N (b + 1) M - M) = nxN N (b + 1) M by omega] at this
              exact this
            have nx := next (b + 1) (by omega) l2 I2 x2 ft dgs (by rw [sk]; exact rel)
            rw [show ((b + 1 : Nat) : Int) - 1 = (b : Int) by omega] at nx
            exact nx
      have loop := loopN (N := 6) (P := fun j => ∀ I2, eqx lPM I I2 → fctP I I2 → (∀ i, i < j → I2 127 i = 0) → W2 n (d + 9) 184 29 [some (vr (some 104)), some (vi p), some (vi (j : Int)), none, none, none, none] [] I2 L c K) ?_ ?_ 0 (Nat.zero_le _)
      · exact loop I1 x1 ⟨fun p h => a1 p (by omega), fun p h q h2 => j1 p (by omega) q (by omega)⟩ (fun i hi => absurd hi (Nat.not_lt_zero _))
      · intro I2 x2 ft z2
        refine m_pairs_29 ?_
        rw [if_neg (by omega)]
        refine goal (7 ^ N) 0 (Nat.sub_le _ _) (Nat.pow_pos (by decide)) (-1) I2 x2 ft (fun i hi => ?_) rfl
        rw [z2 i (by omega)]
        unfold dgt
        rw [Nat.zero_div]
        rfl
      · intro j hj ih I2 x2 ft z2
        refine m_pairs_29 ?_
        rw [if_pos (by omega), Int.toNat_natCast, wr_nat (show j < 1000000 by omega)]
        refine ⟨by omega, ih _ (eqx_up x2 rfl) ⟨fun p hp => ?_, fun p hp q hq hne => ?_⟩ (fun i hi => ?_)⟩
        · rw [up2_ne (by decide)]; exact ft.1 p hp
        · rw [up2_ne (by decide)]; exact ft.2 p hp q hq hne
        · by_cases e : i = j
          · rw [e, up2_same]
          · rw [up2_at e]; exact z2 i (by omega)
    by_cases q : p = 0
    · rw [if_pos q]; exact main
    · rw [if_neg q, if_neg (by omega), wri (x := 9 + I 104 0) (by omega), if_neg (by omega)]
      exact main
  · have kk := k1 hcond
    rw [if_neg (by omega)]
    by_cases q : p < 10
    · rw [if_pos q]; exact kk
    · rw [if_neg q, wri (x := 9 + I 104 0) (by omega), if_pos (by omega)]; exact kk
theorem vrow_cg {N : Nat} {g g' : Nat → Bool} (hg : ∀ p, p < N → g p = g' p) : ∀ (ds : List Nat) (k : Nat) (f : Nat → Nat), k + ds.length ≤ N → vrow (okp N g) nxp (k, f) ds = vrow (okp N g') nxp (k, f) ds
  | [], k, f, h => rfl
  | o :: r, k, f, h => by
    rw [List.length_cons] at h
    have ih := vrow_cg hg r (k + 1) (nxp (k, f) o).2 (by omega)
    show (okp N g (k, f) o && vrow (okp N g) nxp (k + 1, (nxp (k, f) o).2) r) = (okp N g' (k, f) o && vrow (okp N g') nxp (k + 1, (nxp (k, f) o).2) r)
    rw [ih]
    congr 1
    unfold okp
    dsimp only
    rw [hg k (by omega)]
    by_cases w : k < o ∧ o < N ∧ ¬ chs f o k < 6
    · rw [hg o w.2.1]
    · rw [decide_eq_false w, Bool.false_and, Bool.false_and]
theorem crow_cg {N : Nat} {J J' : Nat → Nat → Int} {al al' : Nat → Int} (hJ : ∀ p, p < N → ∀ q, q < N → J p q = J' p q) (ha : ∀ p, p < N → al p = al' p) : ∀ (ds : List Nat) (k : Nat) (f : Nat → Nat), k + ds.length ≤ N → crow nxp (csp J al) (k, f) ds = crow nxp (csp J' al') (k, f) ds
  | [], k, f, h => rfl
  | o :: r, k, f, h => by
    rw [List.length_cons] at h
    have ih := crow_cg hJ ha r (k + 1) (nxp (k, f) o).2 (by omega)
    show csp J al (k, f) o + crow nxp (csp J al) (k + 1, (nxp (k, f) o).2) r = csp J' al' (k, f) o + crow nxp (csp J' al') (k + 1, (nxp (k, f) o).2) r
    rw [ih]
    congr 1
    show (if o = 6 then al k else if o < k then J k o else 0) = (if o = 6 then al' k else if o < k then J' k o else 0)
    rw [ha k (by omega)]
    by_cases w : o < k
    · rw [if_pos w, if_pos w, hJ k (by omega) o (by omega)]
    · rw [if_neg w, if_neg w]
theorem rwp_len (T : Nat → Int) (J : Nat → Nat → Int) : ∀ m s put, (rwp T J m s put).length = m
  | 0, _, _ => rfl
  | m + 1, s, put => by
    unfold rwp
    split <;> rw [List.length_cons, rwp_len T J m]
theorem getD_any {l : List Nat} {i a b : Nat} (h : i < l.length) : l.getD i a = l.getD i b := by
  rw [List.getD_eq_getElem?_getD, List.getD_eq_getElem?_getD, List.getElem?_eq_getElem h]
  rfl
theorem sc_PU : nol lPU lAll = true := by decide +kernel
theorem sc_PM : nol lPM lAll = true := by decide +kernel
theorem p_pairs {n d : Nat} {p : Int} {I : mI} {L : mL} {c : Nat} {Q : mI → mL → Nat → Prop} (r : RC I L c) (hp : rg p) (q : ∀ I' L', RC I' L' c → Q I' L' c) : PT n (d + 20) 82 [vr (some 16), vi p] 184 [vr (some 104), vi p] I L c Q := by
  obtain ⟨e1, e2, e3⟩ := rc_17 r
  have hn := rc_n r
  refine x_pairs' (d := d + 14) (rc_cO r) (rc_cP r) hp ?_ ?_
  · intro h
    rw [e1] at h
    rw [ri_vi]
    have any : ∀ v R, fo (cdM I) (7 ^ nM I) = some (v, R) → C2 n (d + 20) 184 [vr (some 104), vi p] I L c (fun rr I L c => ri rr (fun w => -1 = w ∧ Q I L c)) := fun v R hv => by
      refine c_pairs (d := d + 11) (rc_rI r) hp hv (fun _ => ?_) (fun a => absurd a h)
      rw [ri_vi]
      exact ⟨rfl, q _ _ r⟩
    have hw := hn.2.2
    have hpi := (rc_rI r).2.1
    refine m_pairs (d := d + 11) ?_
    rw [if_neg (by omega)]
    by_cases w : p < 10
    · rw [if_pos w, ri_vi]; exact ⟨rfl, q _ _ r⟩
    · rw [if_neg w, wri (x := 9 + I 104 0) (by omega), if_pos (by omega), ri_vi]; exact ⟨rfl, q _ _ r⟩
  · intro h I1 out x1 o64 ob tab
    have r1 : RC I1 L c := RC_s x1 sc_PU rfl r
    obtain ⟨k1, k2, k3, k4, k5, k6⟩ := keep x1 sc_PU
    rw [hn.1] at ob tab ⊢
    obtain ⟨mk0, vp0⟩ := MK_0 ob
    have okC := (rc_cP r).2.2.1
    rw [hn.1] at okC
    have pt := pair_tree (al := fun p => paysS (offC I (hH I)) (perN I p) (I 17 2)) hn.2.2 (jJ_sym (offC I (hH I)) (perN I) (I 17 2)) (fun p hp hg => by
      have g4 : perN I p 4 = 1 := of_decide_eq_true hg
      show paysS (offC I (hH I)) (perN I p) (I 17 2) = 0
      unfold paysS
      rw [if_pos g4]) (fun p hp hg => by
      have g4 : ¬ perN I p 4 = 1 := of_decide_eq_false hg
      have b := (okC p hp).1.2.2.2.2.1
      have b' : 0 ≤ perN I p 4 ∧ perN I p 4 ≤ 1 := b
      exact jJ_self (by omega)) tab (nM I) 0 (fun _ => 6) out (by omega) o64 mk0 vp0
    have p0 : pend (nM I) (jJ (offC I (hH I)) (perN I) (I 17 2)) 0 (fun _ => 6) = 0 := by
      unfold pend
      rw [sum_cg (g := fun _ => 0) (fun i _ => if_neg (fun a => absurd a.2 (by unfold chs; omega)))]
      have z : ∀ m, sumS (fun _ => 0) m = 0 := by
        intro m
        induction m with
        | zero => rfl
        | succ m ih => show sumS (fun _ => 0) m + 0 = 0; rw [ih]; rfl
      exact z _
    rw [p0, Int.zero_add] at pt
    have hv : fo (cdM I1) (7 ^ nM I1) = some (I1 84 out, rwp (I1 84) (jJ (offC I (hH I)) (perN I) (I 17 2)) (nM I) (0, fun _ => 6) out) := by
      rw [← pt, ← scan _ _ _ (by decide : 0 < 7), k6]
      refine fo_cg (fun i hi => ?_)
      have hl := dg_len 7 (nM I) i
      have gI : ∀ t, t < nM I → gonM I1 t = gC I t := fun t ht => by
        unfold gonM
        rw [x1 104 1 rfl]
        show gonM I t = decide (perN I t 4 = 1)
        rw [rc_per r ht]
        show gonM I t = decide ((if gonM I t = true then (1 : Int) else 0) = 1)
        cases gonM I t <;> rfl
      unfold cdM cand
      rw [k6, vrow_cg gI _ 0 _ (by omega), crow_cg (N := nM I) (J' := jJ (offC I (hH I)) (perN I) (I 17 2)) (al' := fun p => paysS (offC I (hH I)) (perN I p) (I 17 2)) ?_ ?_ _ 0 _ (by omega)]
      · intro a ha b hb
        unfold jM jJ
        rw [k1, k2, k4, (rc_o r).2, rc_per r ha, rc_per r hb, e2]
      · intro a ha
        unfold alM
        rw [k1, k2, k4, (rc_o r).2, rc_per r ha, e2]
    rw [ri_vi]
    have h1 : p = 0 ∨ (10 ≤ p ∧ p < 10 + I1 104 0) := by rw [k3, ← e1]; exact h
    refine c_pairs (d := d + 11) (rc_rI r1) hp hv (fun a => absurd h1 a) (fun _ I2 x2 => ?_)
    rw [ri_vi]
    refine ⟨?_, q _ _ (RC_s x2 sc_PM rfl r1)⟩
    by_cases w : p = 0
    · rw [if_pos w, if_pos w]
    · rw [if_neg w, if_neg w]
      obtain ⟨m, em⟩ : ∃ m : Nat, p - 10 = m := ⟨(p - 10).toNat, by omega⟩
      rw [em, Int.toNat_natCast]
      have hm : m < nM I := by omega
      have hlen := rwp_len (I1 84) (jJ (offC I (hH I)) (perN I) (I 17 2)) (nM I) (0, fun _ => 6) out
      rw [getD_any (a := 0) (b := 6) (by omega)]
      by_cases v : Nat.testBit out m = true
      · rw [if_pos v]
        have fx := rw_fix (J := jJ (offC I (hH I)) (perN I) (I 17 2)) (T := I1 84) hn.2.2 (nM I) 0 (fun _ => 6) out (by omega) o64 mk0 vp0 m (by omega) hm v
        rw [Nat.sub_zero, if_neg (by unfold chs; omega)] at fx
        rw [fx]
        rfl
      · rw [if_neg v]
