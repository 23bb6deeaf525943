/-! ===== the same call of both: tapes ===== -/
theorem up2L_same {f : mL} {a k : Nat} {v : Int64} : up2L f a k v a k = v := by simp [up2L]
theorem up2L_at {f : mL} {a k j : Nat} {v : Int64} (h : j ≠ k) : up2L f a k v a j = f a j := by simp [up2L, h]
abbrev lTp : List Nat := [92, 94, 96, 98, 100, 102, 151, 152]
theorem nn_tp : nol lTp (lTc ++ lTr ++ lKc ++ lKr ++ lOr ++ lXr ++ lAr ++ lSr) = true := by decide +kernel
theorem RC_tp {I J : mI} {L M : mL} {c : Nat} (r : RC I L c) (e : eqx lTp I J) (t : TP J M) : RC J M c := by
  obtain ⟨r1, r2, r3, r4, r5, r6, r7, r8, r9⟩ := r
  have m := nn_tp
  exact ⟨TW_agr (agr_e e (nol_sub m (by decide)) (nol_sub m (by decide))) r1, KP_e e (nol_sub m (by decide)) (nol_sub m (by decide)) r2, OF_e e rfl (nol_sub m (by decide)) r3, TX_e e (nol_sub m (by decide)) r4, AC_e e (nol_sub m (by decide)) r5, t, ST_e e (nol_sub m (by decide)) r7, SZ_e e rfl r8, by rw [e 104 26 rfl]; exact r9⟩
theorem mem_Tp {t : Nat} (h : t < 6) : 92 + 2 * t ∈ lTp := by
  rcases t with _ | _ | _ | _ | _ | _ | t
  all_goals first | decide | omega
theorem x_fillL {n d a : Nat} {v : Int64} {I : mI} {L : mL} {c : Nat} {K : mK2} (h1 : TY a = 101) (h3 : LN n a ≤ 1000) (k : ∀ L', (∀ h, h ≠ a → L' h = L h) → (∀ i, i < LN n a → L' a i = v) → K none I L' c) : C2 n d 226 [vr (some a), vl v] I L c K := by
  refine j_fill_226 ?_
  refine chk_i (by rw [h1]; rfl) ?_
  have loop := loopN (N := LN n a) (P := fun j => ∀ L1, (∀ h, h ≠ a → L1 h = L h) → (∀ i, i < j → L1 a i = v) → W2 n d 226 6 [some (vr (some a)), some (vl v), none, some (vi (j : Int)), some (vi ((LN n a : Nat) : Int))] [] I L1 c K) ?_ ?_ 0 (Nat.zero_le _)
  · exact loop L (fun _ _ => rfl) (fun i hi => absurd hi (Nat.not_lt_zero _))
  · intro L1 x1 z1
    refine j_fill_226_6 ?_
    rw [if_neg (by omega)]
    exact k L1 x1 z1
  · intro j hj ih L1 x1 z1
    refine j_fill_226_6 ?_
    rw [if_pos (by omega), chkE h1, Int.toNat_natCast, wr_nat (by omega)]
    refine ⟨by omega, ih _ (fun h hh => by rw [up2L_ne hh]; exact x1 h hh) ?_⟩
    intro i hi
    by_cases r : i = j
    · rw [r, up2L_same]
    · rw [up2L_at r]; exact z1 i (by omega)
theorem c_tape {n d : Nat} {p t x : Int} {I : mI} {L : mL} {c : Nat} {K : mK2} (hx : rg x)
    (k1 : ¬ (0 ≤ p ∧ p < 6) → K (some (vi (-1))) I L c)
    (k2 : 0 ≤ p ∧ p < 6 → ¬ ((-1 ≤ t ∧ t ≤ 4) ∧ (0 ≤ t → x ≤ 60)) → K (some (vi (-2))) I L c)
    (k4 : 0 ≤ p ∧ p < 6 → (-1 ≤ t ∧ t ≤ 4) ∧ (0 ≤ t → x ≤ 60) → ¬ (0 ≤ t → 0 ≤ x) → K (some (vi (-14))) I L c)
    (k3 : 0 ≤ p ∧ p < 6 → (-1 ≤ t ∧ t ≤ 4) ∧ (0 ≤ t → x ≤ 60) → (0 ≤ t → 0 ≤ x) → ∀ L', (∀ h, h ≠ 153 → L' h = L h) → (∀ i, i < 60 → L' 153 (60 * p.toNat + i) = 0) → (∀ j, j < 60 * p.toNat ∨ 60 * p.toNat + 60 ≤ j → L' 153 j = L 153 j) → K (some (vi 1)) (up2 (up2 I 151 p.toNat t) 152 p.toNat (if t < 0 then 0 else x)) L' c) : C2 n (d + 2) 215 [vr (some 104), vi p, vi t, vi x] I L c K := by
  unfold rg at hx
  refine m_tape ?_
  by_cases h : 0 ≤ p ∧ p < 6
  · by_cases h2 : (-1 ≤ t ∧ t ≤ 4) ∧ (0 ≤ t → x ≤ 60)
    · by_cases h3 : 0 ≤ t → 0 ≤ x
      · have kk := k3 h h2 h3
        clear k1 k2 k3 k4
        obtain ⟨p, rfl⟩ : ∃ m : Nat, p = m := ⟨p.toNat, by omega⟩
        rw [Int.toNat_natCast] at kk
        have main : W2 n (d + 2) 215 69 [some (vr (some 104)), some (vi (p : Int)), none, none, some (vi 0)] [] (up2 (up2 I 151 p t) 152 p (if t < 0 then 0 else x)) L c K := by
          generalize up2 (up2 I 151 p t) 152 p (if t < 0 then 0 else x) = J at *
          have loop := loopN (N := 60) (P := fun j => ∀ L1 : mL, (∀ h, h ≠ 153 → L1 h = L h) → (∀ i, i < j → L1 153 (60 * p + i) = 0) → (∀ j, j < 60 * p ∨ 60 * p + 60 ≤ j → L1 153 j = L 153 j) → W2 n (d + 2) 215 69 [some (vr (some 104)), some (vi (p : Int)), none, none, some (vi (j : Int))] [] J L1 c K) ?_ ?_ 0 (Nat.zero_le _)
          · exact loop L (fun _ _ => rfl) (fun i hi => absurd hi (Nat.not_lt_zero _)) (fun _ _ => rfl)
          · intro L1 x1 y1 z1
            refine m_tape_69 ?_
            rw [if_neg (by omega)]
            exact kk L1 x1 y1 z1
          · intro j hj ih L1 x1 y1 z1
            have e : wr (wr (60 * (p : Int)) + (j : Int)) = ((60 * p + j : Nat) : Int) := by rw [wri (x := 60 * (p : Int)) (by omega), wri (by omega)]; omega
            refine m_tape_69 ?_
            rw [if_pos (by omega), e, Int.toNat_natCast, wr_nat (by omega)]
            refine ⟨by omega, ih _ ?_ ?_ ?_⟩
            · intro h hh; rw [up2L_ne hh]; exact x1 h hh
            · intro i hi
              by_cases w : i = j
              · rw [w, up2L_same]; rfl
              · rw [up2L_at (by omega)]; exact y1 i (by omega)
            · intro i hi
              rw [up2L_at (by omega)]; exact z1 i hi
        simp only [Int.toNat_natCast]
        by_cases w : t < 0
        · rw [if_pos w] at main
          repeat' (first | exact main | (exfalso; omega) | refine ite_i (fun _ => ?_) (fun _ => ?_) | refine And.intro (by omega) ?_)
        · rw [if_neg w] at main
          repeat' (first | exact main | (exfalso; omega) | refine ite_i (fun _ => ?_) (fun _ => ?_) | refine And.intro (by omega) ?_)
      · have kk := k4 h h2 h3
        clear k1 k2 k3 k4
        repeat' (first | exact kk | (exfalso; omega) | refine ite_i (fun _ => ?_) (fun _ => ?_))
    · have kk := k2 h h2
      clear k1 k2 k3 k4
      repeat' (first | exact kk | (exfalso; omega) | refine ite_i (fun _ => ?_) (fun _ => ?_))
  · have kk := k1 h
    clear k1 k2 k3 k4
    repeat' (first | exact kk | (exfalso; omega) | refine ite_i (fun _ => ?_) (fun _ => ?_))
theorem x_become {n d p : Nat} {s x : Int} {I : mI} {L : mL} {c : Nat} {K : mK2} (hp : p < 6) (hx : 0 ≤ x ∧ x ≤ 60) (k : ∀ L', (∀ h, h ≠ 93 + 2 * p → L' h = L h) → (∀ i, i < 60 → L' (93 + 2 * p) i = 0) → K none (up2 (up2 I (92 + 2 * p) 0 s) (92 + 2 * p) 1 x) L' c) : C2 n (d + 1) 62 [vr (some (92 + 2 * p)), vi s, vi x] I L c K := by
  obtain ⟨r1, r2, r3, r4⟩ := Rs91 (c := c) hp
  refine Ta_become ?_
  simp only [chkE r3, r2]
  rw [show (if (0 : Int) < (if (60 : Int) < x then (60 : Int) else x) then (if (60 : Int) < x then (60 : Int) else x) else (0 : Int)) = x by rw [if_neg (show ¬ (60 : Int) < x by omega)]; split <;> omega]
  refine x_fillL r4 (by rw [LN93 hp]; decide) ?_
  intro L1 x1 z1
  rw [LN93 hp] at z1
  rw [rv_no]
  exact k L1 x1 z1
theorem p_tape {n d : Nat} {p t x : Int} {I : mI} {L : mL} {c : Nat} {Q : mI → mL → Nat → Prop} (r : RC I L c) (hx : rg x) (q : ∀ I' L', RC I' L' c → Q I' L' c) : PT n (d + 20) 101 [vr (some 16), vi p, vi t, vi x] 215 [vr (some 104), vi p, vi t, vi x] I L c Q := by
  obtain ⟨t1, t2, t3⟩ := rc_tC r
  have hx' := hx
  unfold rg at hx
  refine x_tape (d := d + 18) ?_
  by_cases h : 0 ≤ p ∧ p < 6
  · by_cases h2 : (-1 ≤ t ∧ t ≤ 4) ∧ (0 ≤ t → x ≤ 60)
    · by_cases h3 : 0 ≤ t → 0 ≤ x
      · obtain ⟨p, rfl⟩ : ∃ m : Nat, p = m := ⟨p.toNat, by omega⟩
        have hp : p < 6 := by omega
        obtain ⟨r1, r2, r3, r4⟩ := Rs91 (c := c) hp
        have main : ∀ x' : Int, x' = (if t < 0 then 0 else x) → C2 n (d + 19) 62 [vr (some (92 + 2 * p)), vi t, vi x'] I L c (fun r7 I8 L9 c10 => rv r7 (ri (some (vi 1)) (fun v => C2 n (d + 20) 215 [vr (some 104), vi (p : Int), vi t, vi x] I8 L9 c10 (fun r I L c => ri r (fun w => v = w ∧ Q I L c))))) := by
          intro x' hx2
          refine x_become (d := d + 18) hp (by rw [hx2]; split <;> omega) ?_
          intro L1 y1 z1
          rw [rv_no, ri_vi]
          refine c_tape (d := d + 18) hx' (fun a => absurd h a) (fun _ a => absurd h2 a) (fun _ _ a => absurd h3 a) (fun _ _ _ L2 y2 z2 w2 => ?_)
          rw [Int.toNat_natCast] at z2 w2
          rw [ri_vi, Int.toNat_natCast, ← hx2]
          generalize hJ : up2 (up2 (up2 (up2 I (92 + 2 * p) 0 t) (92 + 2 * p) 1 x') 151 p t) 152 p x' = J
          have xx : eqx lTp I J := by
            rw [← hJ]
            exact eqx_up (eqx_up (eqx_up (eqx_up (eqx_rf _ _) (jk_m (by omega) (mem_Tp hp))) (jk_m (by omega) (mem_Tp hp))) rfl) rfl
          have c1 : ∀ u, J 151 u = if u = p then t else I 151 u := fun u => by
            rw [← hJ, up2_ne (show (151 : Nat) ≠ 152 by decide)]
            by_cases w : u = p
            · rw [w, up2_same, if_pos rfl]
            · rw [up2_at w, if_neg w, up2_ne (by omega), up2_ne (by omega)]
          have c2 : ∀ u, J 152 u = if u = p then x' else I 152 u := fun u => by
            rw [← hJ]
            by_cases w : u = p
            · rw [w, up2_same, if_pos rfl]
            · rw [up2_at w, if_neg w, up2_ne (by decide), up2_ne (by omega), up2_ne (by omega)]
          have d0 : ∀ u, u < 6 → J (92 + 2 * u) 0 = if u = p then t else I (92 + 2 * u) 0 := fun u hu => by
            rw [← hJ, up2_ne (by omega), up2_ne (by omega)]
            by_cases w : u = p
            · rw [w, up2_at (by decide), up2_same, if_pos rfl]
            · rw [up2_ne (by omega), up2_ne (by omega), if_neg w]
          have d1 : ∀ u, u < 6 → J (92 + 2 * u) 1 = if u = p then x' else I (92 + 2 * u) 1 := fun u hu => by
            rw [← hJ, up2_ne (by omega), up2_ne (by omega)]
            by_cases w : u = p
            · rw [w, up2_same, if_pos rfl]
            · rw [up2_ne (by omega), up2_ne (by omega), if_neg w]
          refine ⟨rfl, q _ _ (RC_tp r xx ⟨?_, ?_⟩)⟩
          · intro u hu
            rw [c1, c2]
            by_cases w : u = p
            · rw [if_pos w, if_pos w, hx2]
              refine ⟨h2.1, ?_, ?_⟩
              · split <;> omega
              · intro e; rw [if_pos (by omega)]
            · rw [if_neg w, if_neg w]; exact t1 u hu
          · intro u hu
            rw [c1, c2, d0 u hu, d1 u hu]
            by_cases w : u = p
            · rw [if_pos w, if_pos w, if_pos w, if_pos w]
              refine ⟨rfl, rfl, ?_⟩
              intro k hk
              have : k < 60 := by rw [hx2] at hk; split at hk <;> omega
              rw [y2 _ (by omega), w, z1 k this, z2 k this]
            · rw [if_neg w, if_neg w, if_neg w, if_neg w]
              refine ⟨(t3 u hu).1, (t3 u hu).2.1, ?_⟩
              intro k hk
              have b := (t1 u hu).2.1
              rw [y2 _ (by omega), y1 _ (by omega), w2 _ (by omega), y1 _ (by omega)]
              exact (t3 u hu).2.2 k hk
        simp only [Int.toNat_natCast, r1, drf_s, chkE r3]
        by_cases w : t = -1
        · have m := main 0 (by rw [if_pos (by omega)])
          rw [w] at m
          rw [if_neg (by omega), if_pos (by omega), if_pos w]
          rw [w]
          exact ⟨by omega, m⟩
        · have m := main x (by rw [if_neg (by omega)])
          repeat' (first | exact ⟨by omega, m⟩ | (exfalso; omega) | refine ite_i (fun _ => ?_) (fun _ => ?_))
      · have kk : C2 n (d + 20) 215 [vr (some 104), vi p, vi t, vi x] I L c (fun rr I' L' c' => ri rr (fun w => (-14 : Int) = w ∧ Q I' L' c')) := by
          refine c_tape (d := d + 18) hx' (fun a => absurd h a) (fun _ a => absurd h2 a) (fun _ _ _ => ?_) (fun _ _ a => absurd a h3)
          rw [ri_vi]; exact ⟨rfl, q _ _ r⟩
        repeat' (first | (rw [ri_vi]; exact kk) | (exfalso; omega) | refine ite_i (fun _ => ?_) (fun _ => ?_))
    · have kk : C2 n (d + 20) 215 [vr (some 104), vi p, vi t, vi x] I L c (fun rr I' L' c' => ri rr (fun w => (-2 : Int) = w ∧ Q I' L' c')) := by
        refine c_tape (d := d + 18) hx' (fun a => absurd h a) (fun _ _ => ?_) (fun _ a => absurd a h2) (fun _ a => absurd a h2)
        rw [ri_vi]; exact ⟨rfl, q _ _ r⟩
      repeat' (first | (rw [ri_vi]; exact kk) | (exfalso; omega) | refine ite_i (fun _ => ?_) (fun _ => ?_))
  · have kk : C2 n (d + 20) 215 [vr (some 104), vi p, vi t, vi x] I L c (fun rr I' L' c' => ri rr (fun w => (-1 : Int) = w ∧ Q I' L' c')) := by
      refine c_tape (d := d + 18) hx' (fun _ => ?_) (fun a => absurd a h) (fun a => absurd a h) (fun a => absurd a h)
      rw [ri_vi]; exact ⟨rfl, q _ _ r⟩
    repeat' (first | (rw [ri_vi]; exact kk) | (exfalso; omega) | refine ite_i (fun _ => ?_) (fun _ => ?_))
def fitS (s : Int) (v : Int64) : Int64 := if s = 0 then Int64.ofInt (bi8 v.toInt32.toInt) else if s = 1 then Int64.ofInt (bi16 v.toInt32.toInt) else if s = 2 then Int64.ofInt v.toInt32.toInt else if s = 3 then v else if lcm3 v (Int64.ofInt 0) = 0 then Int64.ofInt 0 else Int64.ofInt 1
theorem x_fitted {n d h : Nat} {v : Int64} {I : mI} {L : mL} {c : Nat} {K : mK2} (h1 : TY h = 6) (k : K (some (vl (fitS (I h 0) v))) I L c) : C2 n d 63 [vr (some h), vl v] I L c K := by
  refine Ta_fitted ?_
  rw [chkE h1]
  unfold fitS at k
  repeat' (first | refine ite_i (fun _ => ?_) (fun _ => ?_))
  all_goals (simp (disch := assumption) only [if_pos, if_neg] at k; exact k)
theorem c_narrow {n d : Nat} {s : Int} {v : Int64} {I : mI} {L : mL} {c : Nat} {K : mK2} (hs : 0 ≤ s ∧ s ≤ 4) (k : K (some (vl (fitS s v))) I L c) : C2 n d 216 [vr (some 104), vi s, vl v] I L c K := by
  refine m_narrow ?_
  unfold fitS at k
  by_cases a0 : s = 0
  · rw [if_pos a0] at k ⊢; exact k
  rw [if_neg a0] at k ⊢
  by_cases a1 : s = 1
  · rw [if_pos a1] at k ⊢; exact k
  rw [if_neg a1] at k ⊢
  by_cases a2 : s = 2
  · rw [if_pos a2] at k ⊢; exact k
  rw [if_neg a2] at k ⊢
  by_cases a3 : s = 3
  · rw [if_pos a3] at k; rw [if_neg (by omega)]; exact k
  rw [if_neg a3] at k
  rw [if_pos (by omega)]
  by_cases w : lcm3 v (Int64.ofInt 0) = 0
  · rw [if_pos w] at k ⊢; exact k
  · rw [if_neg w] at k ⊢; exact k
theorem p_item {n d : Nat} {p t : Int} {v : Int64} {I : mI} {L : mL} {c : Nat} {Q : mI → mL → Nat → Prop} (r : RC I L c) (q : ∀ I' L', RC I' L' c → Q I' L' c) : PT n (d + 20) 102 [vr (some 16), vi p, vi t, vl v] 217 [vr (some 104), vi p, vi t, vl v] I L c Q := by
  obtain ⟨t1, t2, t3⟩ := rc_tC r
  refine x_item (d := d + 19) ?_
  by_cases h : 0 ≤ p ∧ p < 6
  · obtain ⟨p, rfl⟩ : ∃ m : Nat, p = m := ⟨p.toNat, by omega⟩
    have hp : p < 6 := by omega
    obtain ⟨r1, r2, r3, r4⟩ := Rs91 (c := c) hp
    obtain ⟨b1, b2, b3⟩ := t1 p hp
    obtain ⟨s0, s1, s2⟩ := t3 p hp
    rw [if_neg (by omega), if_pos (by omega), Int.toNat_natCast, r1]
    simp only [drf_s, chkE r3, r2, chkE r4, LN93 hp, s0, s1]
    refine ⟨by omega, ?_⟩
    have ref : ∀ (w : Int) (M : mL), C2 n (d + 20) 217 [vr (some 104), vi (p : Int), vi t, vl v] I M c (fun rr I' L' c' => ri rr (fun w' => w = w' ∧ Q I' L' c')) ↔ C2 n (d + 20) 217 [vr (some 104), vi (p : Int), vi t, vl v] I M c (fun rr I' L' c' => ri rr (fun w' => w = w' ∧ Q I' L' c')) := fun _ _ => Iff.rfl
    by_cases a1 : I 151 p = -1
    · rw [if_pos a1, ri_vi]
      refine m_item (d := d + 18) ?_
      rw [if_neg (by omega), if_neg (by omega), Int.toNat_natCast, if_pos (by omega), ri_vi]
      exact ⟨by omega, rfl, q _ _ r⟩
    rw [if_neg a1]
    by_cases a2 : 0 ≤ t ∧ t < I 152 p
    · rw [if_neg (by omega), if_pos (by omega)]
      refine x_fitted r3 ?_
      rw [rl_vl, ri_vi, s0]
      refine ⟨by omega, m_item (d := d + 18) ?_⟩
      rw [if_neg (by omega), if_neg (by omega), Int.toNat_natCast, if_neg (by omega), if_neg (by omega), wri (x := I 152 p - 1) (by omega), if_neg (by omega)]
      refine ⟨by omega, by omega, by omega, c_narrow (by omega) ?_⟩
      have e : wr (wr (60 * (p : Int)) + t) = ((60 * p + t.toNat : Nat) : Int) := by rw [wri (x := 60 * (p : Int)) (by omega), wri (by omega)]; omega
      rw [rl_vl, e, Int.toNat_natCast, ri_vi]
      refine ⟨by omega, rfl, q _ _ (RC_tp r (eqx_rf _ _) ⟨t1, ?_⟩)⟩
      intro u hu
      refine ⟨(t3 u hu).1, (t3 u hu).2.1, ?_⟩
      intro k hk
      have bu := (t1 u hu).2.1
      rw [up2L_ne (show 93 + 2 * u ≠ 153 by omega)]
      by_cases w : u = p ∧ k = t.toNat
      · rw [w.1, w.2, up2L_same, up2L_same]
      · have e1 : up2L (up2L L (93 + 2 * p) t.toNat (fitS (I 151 p) v)) 153 (60 * p + t.toNat) (fitS (I 151 p) v) 153 (60 * u + k) = L 153 (60 * u + k) := by
          rw [up2L_at (by omega), up2L_ne (by omega)]
        have e2 : up2L L (93 + 2 * p) t.toNat (fitS (I 151 p) v) (93 + 2 * u) k = L (93 + 2 * u) k := by
          by_cases w2 : u = p
          · rw [w2, up2L_at (by omega)]
          · rw [up2L_ne (by omega)]
        rw [e1, e2]
        exact (t3 u hu).2.2 k hk
    · have kk : C2 n (d + 20) 217 [vr (some 104), vi (p : Int), vi t, vl v] I L c (fun rr I' L' c' => ri rr (fun w' => (-13 : Int) = w' ∧ Q I' L' c')) := by
        refine m_item (d := d + 18) ?_
        rw [if_neg (by omega), if_neg (by omega), Int.toNat_natCast, if_neg (by omega), wri (x := I 152 p - 1) (by omega)]
        refine ⟨by omega, by omega, ?_⟩
        by_cases w : t < 0
        · rw [if_pos w, ri_vi]; exact ⟨rfl, q _ _ r⟩
        · rw [if_neg w, if_pos (by omega), ri_vi]; exact ⟨rfl, q _ _ r⟩
      by_cases w : t < 0
      · rw [if_pos w, ri_vi]; exact kk
      · rw [if_neg w, if_neg (by omega), ri_vi]; exact kk
  · have kk : C2 n (d + 20) 217 [vr (some 104), vi p, vi t, vl v] I L c (fun rr I' L' c' => ri rr (fun w' => (-1 : Int) = w' ∧ Q I' L' c')) := by
      refine m_item (d := d + 18) ?_
      have fin : ri (some (vi (-1))) (fun w' => (-1 : Int) = w' ∧ Q I L c) := ⟨rfl, q _ _ r⟩
      repeat' (first | exact fin | (exfalso; omega) | refine ite_i (fun _ => ?_) (fun _ => ?_))
    repeat' (first | (rw [ri_vi]; exact kk) | (exfalso; omega) | refine ite_i (fun _ => ?_) (fun _ => ?_))
theorem p_read {n d : Nat} {p t : Int} {I : mI} {L : mL} {c : Nat} {Q : mI → mL → Nat → Prop} (r : RC I L c) (q : ∀ I' L', RC I' L' c → Q I' L' c) : PTl n (d + 20) 103 [vr (some 16), vi p, vi t] 218 [vr (some 104), vi p, vi t] I L c Q := by
  obtain ⟨t1, t2, t3⟩ := rc_tC r
  refine x_read (d := d + 19) ?_
  by_cases h : 0 ≤ p ∧ p < 6
  · obtain ⟨p, rfl⟩ : ∃ m : Nat, p = m := ⟨p.toNat, by omega⟩
    have hp : p < 6 := by omega
    obtain ⟨r1, r2, r3, r4⟩ := Rs91 (c := c) hp
    obtain ⟨b1, b2, b3⟩ := t1 p hp
    obtain ⟨s0, s1, s2⟩ := t3 p hp
    rw [if_neg (by omega), if_pos (by omega), Int.toNat_natCast, r1]
    simp only [drf_s, chkE r3, r2, chkE r4, LN93 hp, s1]
    refine ⟨by omega, ?_⟩
    by_cases a2 : 0 ≤ t ∧ t < I 152 p
    · rw [if_neg (by omega), if_pos (by omega), rl_vl]
      have a1 : ¬ I 151 p < 0 := fun a => by have := b3 (by omega); omega
      refine ⟨by omega, m_read (d := d + 18) ?_⟩
      have e : wr (wr (60 * (p : Int)) + t) = ((60 * p + t.toNat : Nat) : Int) := by rw [wri (x := 60 * (p : Int)) (by omega), wri (by omega)]; omega
      rw [if_neg (by omega), if_neg (by omega), Int.toNat_natCast, if_neg a1, if_neg (by omega), wri (x := I 152 p - 1) (by omega), if_neg (by omega), e, Int.toNat_natCast, rl_vl]
      exact ⟨by omega, by omega, by omega, s2 _ (by omega), q _ _ r⟩
    · have kk : C2 n (d + 20) 218 [vr (some 104), vi (p : Int), vi t] I L c (fun rr I' L' c' => rl rr (fun w' => noL = w' ∧ Q I' L' c')) := by
        refine m_read (d := d + 18) ?_
        rw [if_neg (by omega), if_neg (by omega), Int.toNat_natCast, wri (x := I 152 p - 1) (by omega)]
        refine ⟨by omega, ?_⟩
        have fin : rl (some (vl noL)) (fun w' => noL = w' ∧ Q I L c) := ⟨rfl, q _ _ r⟩
        by_cases w1 : I 151 p < 0
        · rw [if_pos w1]; exact fin
        rw [if_neg w1]
        refine ⟨by omega, ?_⟩
        by_cases w2 : t < 0
        · rw [if_pos w2]; exact fin
        · rw [if_neg w2, if_pos (by omega)]; exact fin
      by_cases w : t < 0
      · rw [if_pos w, rl_vl]; exact kk
      · rw [if_neg w, if_neg (by omega), rl_vl]; exact kk
  · have kk : C2 n (d + 20) 218 [vr (some 104), vi p, vi t] I L c (fun rr I' L' c' => rl rr (fun w' => noL = w' ∧ Q I' L' c')) := by
      refine m_read (d := d + 18) ?_
      have fin : rl (some (vl noL)) (fun w' => noL = w' ∧ Q I L c) := ⟨rfl, q _ _ r⟩
      repeat' (first | exact fin | (exfalso; omega) | refine ite_i (fun _ => ?_) (fun _ => ?_))
    repeat' (first | (rw [rl_vl]; exact kk) | (exfalso; omega) | refine ite_i (fun _ => ?_) (fun _ => ?_))
theorem c_shift_go {n d p t x y m : Nat} {I : mI} {L : mL} {c : Nat} {K : mK2} (hp : p < 6) (hx : x < 6) (h1 : t + m ≤ 60) (h2 : y + m ≤ 60) (k : ∀ L', (∀ h, h ≠ 153 → h ≠ 154 → L' h = L h) → (∀ j, L' 153 j = if 60 * x + y ≤ j ∧ j < 60 * x + y + m then L 153 (60 * p + t + (j - (60 * x + y))) else L 153 j) → K (some (vi (m : Int))) I L' c) : W2 n (d + 2) 219 104 [some (vr (some 104)), some (vi (p : Int)), some (vi (t : Int)), some (vi (x : Int)), some (vi (y : Int)), some (vi (m : Int)), some (vi 0)] [] I L c K := by
  have loop := loopN (N := m) (P := fun j => ∀ L1 : mL, (∀ h, h ≠ 154 → L1 h = L h) → (∀ i, i < j → L1 154 i = L 153 (60 * p + t + i)) → W2 n (d + 2) 219 104 [some (vr (some 104)), some (vi (p : Int)), some (vi (t : Int)), some (vi (x : Int)), some (vi (y : Int)), some (vi (m : Int)), some (vi (j : Int))] [] I L1 c K) ?_ ?_ 0 (Nat.zero_le _)
  · exact loop L (fun _ _ => rfl) (fun i hi => absurd hi (Nat.not_lt_zero _))
  · intro L1 x1 z1
    refine m_shift_104 ?_
    rw [if_neg (by omega)]
    have loop2 := loopN (N := m) (P := fun j => ∀ L2 : mL, (∀ h, h ≠ 153 → L2 h = L1 h) → (∀ i, L2 153 i = if 60 * x + y ≤ i ∧ i < 60 * x + y + j then L 153 (60 * p + t + (i - (60 * x + y))) else L 153 i) → W2 n (d + 2) 219 141 [some (vr (some 104)), none, none, some (vi (x : Int)), some (vi (y : Int)), some (vi (m : Int)), some (vi (j : Int))] [] I L2 c K) ?_ ?_ 0 (Nat.zero_le _)
    · refine loop2 L1 (fun _ _ => rfl) (fun i => ?_)
      rw [if_neg (by omega), x1 153 (by decide)]
    · intro L2 x2 z2
      refine m_shift_141 ?_
      rw [if_neg (by omega)]
      exact k L2 (fun h a b => by rw [x2 h a, x1 h b]) z2
    · intro j hj ih L2 x2 z2
      have e : wr (wr (wr (60 * (x : Int)) + (y : Int)) + (j : Int)) = ((60 * x + y + j : Nat) : Int) := by rw [wri (x := 60 * (x : Int)) (by omega), wri (x := _ + (y : Int)) (by omega), wri (by omega)]; omega
      refine m_shift_141 ?_
      rw [if_pos (by omega), e, Int.toNat_natCast, Int.toNat_natCast, wr_nat (by omega), x2 154 (by decide), z1 j hj]
      refine ⟨by omega, by omega, ih _ (fun h a => by rw [up2L_ne a]; exact x2 h a) ?_⟩
      intro i
      by_cases w : i = 60 * x + y + j
      · rw [w, up2L_same, if_pos (by omega), show 60 * x + y + j - (60 * x + y) = j by omega]
      · rw [up2L_at w, z2 i]
        by_cases v : 60 * x + y ≤ i ∧ i < 60 * x + y + j
        · rw [if_pos v, if_pos (by omega)]
        · rw [if_neg v, if_neg (by omega)]
  · intro j hj ih L1 x1 z1
    have e : wr (wr (wr (60 * (p : Int)) + (t : Int)) + (j : Int)) = ((60 * p + t + j : Nat) : Int) := by rw [wri (x := 60 * (p : Int)) (by omega), wri (x := _ + (t : Int)) (by omega), wri (by omega)]; omega
    refine m_shift_104 ?_
    rw [if_pos (by omega), e, Int.toNat_natCast, Int.toNat_natCast, wr_nat (by omega), x1 153 (by decide)]
    refine ⟨by omega, by omega, ih _ (fun h a => by rw [up2L_ne a]; exact x1 h a) ?_⟩
    intro i hi
    by_cases w : i = j
    · rw [w, up2L_same]
    · rw [up2L_at w]; exact z1 i (by omega)
theorem p_shift {n d : Nat} {p t x y z : Int} {I : mI} {L : mL} {c : Nat} {Q : mI → mL → Nat → Prop} (r : RC I L c) (hz : rg z) (q : ∀ I' L', RC I' L' c → Q I' L' c) : PT n (d + 20) 104 [vr (some 16), vi p, vi t, vi x, vi y, vi z] 219 [vr (some 104), vi p, vi t, vi x, vi y, vi z] I L c Q := by
  obtain ⟨t1, t2, t3⟩ := rc_tC r
  unfold rg at hz
  refine x_shift (d := d + 19) ?_
  by_cases h : (0 ≤ p ∧ p < 6) ∧ 0 ≤ x ∧ x < 6
  · obtain ⟨p, rfl⟩ : ∃ m : Nat, p = m := ⟨p.toNat, by omega⟩
    obtain ⟨x, rfl⟩ : ∃ m : Nat, x = m := ⟨x.toNat, by omega⟩
    have hp : p < 6 := by omega
    have hx : x < 6 := by omega
    obtain ⟨r1, r2, r3, r4⟩ := Rs91 (c := c) hp
    obtain ⟨u1, u2, u3, u4⟩ := Rs91 (c := c) hx
    obtain ⟨b1, b2, b3⟩ := t1 p hp
    obtain ⟨d1, d2, d3⟩ := t1 x hx
    obtain ⟨s0, s1, s2⟩ := t3 p hp
    obtain ⟨v0, v1, v2⟩ := t3 x hx
    rw [if_neg (by omega), if_pos (by omega), if_neg (by omega), if_pos (by omega), Int.toNat_natCast, Int.toNat_natCast, r1, u1]
    simp only [drf_s, chkE r3, chkE u3, r2, u2, r4, u4, LN93 hp, LN93 hx, s0, s1, v0, v1]
    refine ⟨by omega, by omega, ?_⟩
    have fin : ∀ w : Int, ri (some (vi w)) (fun w' => w = w' ∧ Q I L c) := fun w => ⟨rfl, q _ _ r⟩
    have start : ∀ (K : mK2), (0 ≤ (p : Int) ∧ (p : Int) < 6) ∧ (if I 151 p < 0 then K (some (vi (-11))) I L c else (0 ≤ (x : Int) ∧ (x : Int) < 6) ∧ (if I 151 x < 0 then K (some (vi (-11))) I L c else (0 ≤ (p : Int) ∧ (p : Int) < 6) ∧ (0 ≤ (x : Int) ∧ (x : Int) < 6) ∧ (if I 151 p = I 151 x then (if z < 0 then K (some (vi (-13))) I L c else if t < 0 then K (some (vi (-13))) I L c else if y < 0 then K (some (vi (-13))) I L c else (0 ≤ (p : Int) ∧ (p : Int) < 6) ∧ (if wr (I 152 p - z) < t then K (some (vi (-13))) I L c else (0 ≤ (x : Int) ∧ (x : Int) < 6) ∧ (if wr (I 152 x - z) < y then K (some (vi (-13))) I L c else W2 n (d + 20) 219 104 [some (vr (some 104)), some (vi (p : Int)), some (vi t), some (vi (x : Int)), some (vi y), some (vi z), some (vi 0)] [] I L c K))) else K (some (vi (-12))) I L c))) → C2 n (d + 20) 219 [vr (some 104), vi (p : Int), vi t, vi (x : Int), vi y, vi z] I L c K := by
      intro K hK
      refine m_shift (d := d + 18) ?_
      rw [if_neg (by omega), if_neg (by omega), if_neg (by omega), if_neg (by omega)]
      exact hK
    by_cases a1 : I 151 p = -1
    · rw [if_pos a1, ri_vi]
      refine start _ ⟨by omega, ?_⟩
      rw [if_pos (by omega)]; exact fin _
    rw [if_neg a1]
    by_cases a2 : I 151 x = -1
    · rw [if_pos a2, ri_vi]
      refine start _ ⟨by omega, ?_⟩
      rw [if_neg (by omega)]
      refine ⟨by omega, ?_⟩
      rw [if_pos (by omega)]; exact fin _
    rw [if_neg a2]
    have start2 : ∀ (K : mK2), (if I 151 p = I 151 x then (if z < 0 then K (some (vi (-13))) I L c else if t < 0 then K (some (vi (-13))) I L c else if y < 0 then K (some (vi (-13))) I L c else (0 ≤ (p : Int) ∧ (p : Int) < 6) ∧ (if wr (I 152 p - z) < t then K (some (vi (-13))) I L c else (0 ≤ (x : Int) ∧ (x : Int) < 6) ∧ (if wr (I 152 x - z) < y then K (some (vi (-13))) I L c else W2 n (d + 20) 219 104 [some (vr (some 104)), some (vi (p : Int)), some (vi t), some (vi (x : Int)), some (vi y), some (vi z), some (vi 0)] [] I L c K))) else K (some (vi (-12))) I L c) → C2 n (d + 20) 219 [vr (some 104), vi (p : Int), vi t, vi (x : Int), vi y, vi z] I L c K := by
      intro K hK
      refine start K ⟨by omega, ?_⟩
      rw [if_neg (by omega)]
      refine ⟨by omega, ?_⟩
      rw [if_neg (by omega)]
      exact ⟨by omega, by omega, hK⟩
    by_cases a3 : I 151 p = I 151 x
    · rw [if_pos a3]
      by_cases a4 : 0 ≤ z ∧ 0 ≤ t ∧ 0 ≤ y
      · rw [if_neg (by omega), if_neg (by omega), if_neg (by omega), wri (x := I 152 p - z) (by omega), wri (x := I 152 x - z) (by omega)]
        have start3 : ∀ (K : mK2), (if I 152 p - z < t then K (some (vi (-13))) I L c else (if I 152 x - z < y then K (some (vi (-13))) I L c else W2 n (d + 20) 219 104 [some (vr (some 104)), some (vi (p : Int)), some (vi t), some (vi (x : Int)), some (vi y), some (vi z), some (vi 0)] [] I L c K)) → C2 n (d + 20) 219 [vr (some 104), vi (p : Int), vi t, vi (x : Int), vi y, vi z] I L c K := by
          intro K hK
          refine start2 K ?_
          rw [if_pos a3, if_neg (by omega), if_neg (by omega), if_neg (by omega), wri (x := I 152 p - z) (by omega), wri (x := I 152 x - z) (by omega)]
          refine ⟨by omega, ?_⟩
          by_cases w : I 152 p - z < t
          · rw [if_pos w] at hK ⊢; exact hK
          · rw [if_neg w] at hK ⊢; exact ⟨by omega, hK⟩
        by_cases a5 : I 152 p - z < t
        · rw [if_pos a5, ri_vi]
          refine start3 _ ?_
          rw [if_pos a5]; exact fin _
        rw [if_neg a5]
        by_cases a6 : I 152 x - z < y
        · rw [if_pos a6, ri_vi]
          refine start3 _ ?_
          rw [if_neg a5, if_pos a6]; exact fin _
        rw [if_neg a6]
        obtain ⟨t, rfl⟩ : ∃ m : Nat, t = m := ⟨t.toNat, by omega⟩
        obtain ⟨y, rfl⟩ : ∃ m : Nat, y = m := ⟨y.toNat, by omega⟩
        obtain ⟨z, rfl⟩ : ∃ m : Nat, z = m := ⟨z.toNat, by omega⟩
        refine ⟨by omega, ?_⟩
        show chk true (chk true (ri (some (vi (z : Int))) _))
        refine chk_i rfl (chk_i rfl ?_)
        simp only [Int.toNat_natCast]
        rw [ri_vi]
        have main : ∀ M : mL, M = cpy2 L (93 + 2 * p) t (93 + 2 * x) y z → C2 n (d + 20) 219 [vr (some 104), vi (p : Int), vi (t : Int), vi (x : Int), vi (y : Int), vi (z : Int)] I M c (fun rr I' L' c' => ri rr (fun w => (z : Int) = w ∧ Q I' L' c')) := by
          intro M hM
          have m153 : M 153 = L 153 := by
            rw [hM]; funext j; unfold cpy2; rw [if_neg (fun a => by omega)]
          refine m_shift (d := d + 18) ?_
          rw [if_neg (by omega), if_neg (by omega), if_neg (by omega), if_neg (by omega), Int.toNat_natCast, Int.toNat_natCast, if_neg (by omega), if_neg (by omega), if_pos a3, if_neg (by omega), if_neg (by omega), if_neg (by omega), wri (x := I 152 p - (z : Int)) (by omega), wri (x := I 152 x - (z : Int)) (by omega), if_neg a5, if_neg a6]
          refine ⟨by omega, by omega, by omega, by omega, by omega, by omega, ?_⟩
          refine c_shift_go (d := d + 18) hp hx (by omega) (by omega) ?_
          intro L2 x2 z2
          rw [ri_vi]
          refine ⟨rfl, q _ _ (RC_tp r (eqx_rf _ _) ⟨t1, ?_⟩)⟩
          intro w hw
          obtain ⟨w0, w1, w2⟩ := t3 w hw
          have bw := (t1 w hw).2.1
          refine ⟨w0, w1, fun k hk => ?_⟩
          rw [x2 _ (by omega) (by omega), z2, m153, hM]
          unfold cpy2
          by_cases v : w = x ∧ y ≤ k ∧ k < y + z
          · rw [if_pos (by omega), if_pos (by omega)]
            have := s2 (t + (k - y)) (by omega)
            rw [this]
            congr 1
            omega
          · rw [if_neg (by omega), if_neg (by omega)]
            exact w2 k hk
        exact main _ rfl
      · have kk : C2 n (d + 20) 219 [vr (some 104), vi (p : Int), vi t, vi (x : Int), vi y, vi z] I L c (fun rr I' L' c' => ri rr (fun w => (-13 : Int) = w ∧ Q I' L' c')) := by
          refine start2 _ ?_
          rw [if_pos a3]
          have f := fin (-13)
          by_cases w1 : z < 0
          · rw [if_pos w1]; exact f
          rw [if_neg w1]
          by_cases w2 : t < 0
          · rw [if_pos w2]; exact f
          rw [if_neg w2, if_pos (by omega)]; exact f
        by_cases w1 : z < 0
        · rw [if_pos w1, ri_vi]; exact kk
        rw [if_neg w1]
        by_cases w2 : t < 0
        · rw [if_pos w2, ri_vi]; exact kk
        rw [if_neg w2, if_pos (by omega), ri_vi]; exact kk
    · rw [if_neg a3, ri_vi]
      refine start2 _ ?_
      rw [if_neg a3]; exact fin _
  · have kk : C2 n (d + 20) 219 [vr (some 104), vi p, vi t, vi x, vi y, vi z] I L c (fun rr I' L' c' => ri rr (fun w => (-1 : Int) = w ∧ Q I' L' c')) := by
      refine m_shift (d := d + 18) ?_
      have fin : ri (some (vi (-1))) (fun w => (-1 : Int) = w ∧ Q I L c) := ⟨rfl, q _ _ r⟩
      by_cases w1 : p < 0
      · rw [if_pos w1]; exact fin
      rw [if_neg w1]
      by_cases w2 : 5 < p
      · rw [if_pos w2]; exact fin
      rw [if_neg w2]
      by_cases w3 : x < 0
      · rw [if_pos w3]; exact fin
      rw [if_neg w3, if_pos (by omega)]; exact fin
    by_cases w1 : p < 0
    · rw [if_pos w1, ri_vi]; exact kk
    rw [if_neg w1]
    by_cases w2 : p < 6
    · rw [if_pos w2]
      by_cases w3 : x < 0
      · rw [if_pos w3, ri_vi]; exact kk
      · rw [if_neg w3, if_neg (by omega), ri_vi]; exact kk
    · rw [if_neg w2, ri_vi]; exact kk
