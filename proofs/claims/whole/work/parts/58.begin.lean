/-! ===== the script's cell (and what else was there before) is as it was; a call of both in the law ===== -/
def loE (H H' : mH) : Prop := ∀ h, h < 16 → H'.1 h = H.1 h
theorem loE_rf (H : mH) : loE H H := fun _ _ => rfl
theorem ty_lo : ∀ h, h < 16 → 10 ≤ TY h ∧ TY h ≠ 100 ∧ TY h ≠ 102 := by decide +kernel
theorem lo_up {H0 H : mH} {a k : Nat} {v : Int} (ha : 16 ≤ a) (l : loE H0 H) : loE H0 (up2 H.1 a k v, H.2) := fun h hh => by
  show up2 H.1 a k v h = H0.1 h
  rw [up2_ne (by omega)]
  exact l h hh
theorem lo_100 {H0 H : mH} {a k : Nat} {v : Int} (ha : Nat.beq (TY a) 100 = true) (l : loE H0 H) : loE H0 (up2 H.1 a k v, H.2) := lo_up (by
  by_cases w : a < 16
  · exact absurd (Nat.eq_of_beq_eq_true ha) (ty_lo a w).2.1
  · omega) l
theorem lo_102 {H0 H : mH} {a k : Nat} {v : Int} (ha : Nat.beq (TY a) 102 = true) (l : loE H0 H) : loE H0 (up2 H.1 a k v, H.2) := lo_up (by
  by_cases w : a < 16
  · exact absurd (Nat.eq_of_beq_eq_true ha) (ty_lo a w).2.2
  · omega) l
theorem lo_fld {H0 H : mH} {a k ia : Nat} {v : Int} (hi : Nat.blt ia 10 = true) (ha : Nat.beq (TY a) ia = true) (l : loE H0 H) : loE H0 (up2 H.1 a k v, H.2) := lo_up (by
  have h1 := Nat.blt_eq.mp hi
  have h2 := Nat.eq_of_beq_eq_true ha
  by_cases w : a < 16
  · have := (ty_lo a w).1; omega
  · omega) l
theorem chk_mono2 {b : Bool} {A B : Prop} (h : b = true → A → B) : chk b A → chk b B := by
  unfold chk; split
  · exact h rfl
  · exact id
theorem copyW_lo {H0 H : mH} {st : List mV} {n : Nat} {f g : List mV → mH → Prop} (l : loE H0 H) (h : ∀ r H, loE H0 H → f r H → g r H) : copyW st H n f → copyW st H n g := by
  unfold copyW; split
  · refine drf_mono fun a => drf_mono fun b => and_mono (chk_mono2 fun hb => ?_)
    split
    · rename_i q
      refine h _ _ (fun x hx => ?_)
      rw [Bool.and_eq_true] at hb
      have e1 := Nat.eq_of_beq_eq_true hb.1
      have e2 := Nat.eq_of_beq_eq_true q
      rw [← l x hx]
      refine cpy2_lo ?_
      intro w
      rw [w] at hx
      exact (ty_lo _ hx).2.1 (by rw [← e1]; exact e2)
    · exact chk_mono (h _ _ l)
  · exact id
theorem retW_lo {H0 : mH} {ic : Nat} {st : List mV} {f g : List mV → mH → Prop} (h : ∀ st H, loE H0 H → f st H → g st H) (r : Option mV) (H : mH) (l : loE H0 H) : retW ic st f r H → retW ic st g r H := by
  unfold retW; split
  · exact rv_mono (h _ _ l)
  · exact ri_mono fun _ => h _ _ l
  · exact rl_mono fun _ => h _ _ l
  · exact rr_mono fun _ => h _ _ l
theorem callW_lo {H0 : mH} {C C' : mC} {d y kc ks ic ib : Nat} {args st : List mV} {H : mH} {f g : Nat → Nat → List mV → mH → Prop} (l : loE H0 H) (hC : ∀ d y args H (Q Q' : mK), loE H0 H → (∀ r H, loE H0 H → Q r H → Q' r H) → C d y args H Q → C' d y args H Q') (h : ∀ a b st H, loE H0 H → f a b st H → g a b st H) : callW C d y kc ks ic ib args st H f → callW C' d y kc ks ic ib args st H g := by
  unfold callW; split
  · exact id
  · exact chk_mono (hC _ _ _ _ _ _ l fun r H l' => retW_lo (fun _ _ => h _ _ _ _) r H l')
set_option maxHeartbeats 8000000 in
theorem step_lo {n : Nat} {P P' : mJ} {C C' : mC} {K K' : mK} (H0 : mH) (hK : ∀ r H, loE H0 H → K r H → K' r H) (hP : ∀ d y pc kc ks ls st H, loE H0 H → P d y pc kc ks ls st H K → P' d y pc kc ks ls st H K') (hC : ∀ d y args H (Q Q' : mK), loE H0 H → (∀ r H, loE H0 H → Q r H → Q' r H) → C d y args H Q → C' d y args H Q') (d : Nat) (w : mRow) (hw : okRow w = true) (kc ks : Nat) (ls : mLs) (st : List mV) (H : mH) (hl : loE H0 H) : stepW n P C d w kc ks ls st H K → stepW n P' C' d w kc ks ls st H K' := by
  obtain ⟨y, pc, ins, len, ⟨ia, ib, ic⟩, z, sw⟩ := w
  have hok := (okRow_sp hw).2.1
  have hp : ∀ {d y pc kc ks ls st H}, loE H0 H → P d y pc kc ks ls st H K → P' d y pc kc ks ls st H K' := fun {d y pc kc ks ls st H} => hP d y pc kc ks ls st H
  cases ins
  case putfield i =>
    have hia : Nat.blt ia 10 = true := by
      simp only [okIns, Bool.and_eq_true] at hok
      exact hok.1.1.1.1.1.2
    dsimp only [stepW]
    split
    · exact eRR_mono fun _ _ _ => drf_mono fun _ => chk_mono (hp hl)
    · exact eRI_mono fun _ _ _ => drf_mono fun _ => chk_mono2 fun hb => b01W_mono (hp (lo_fld hia hb hl))
    · exact eRI_mono fun _ _ _ => drf_mono fun _ => chk_mono2 fun hb => hp (lo_fld hia hb hl)
  case iastore => exact eRII_mono fun _ _ _ _ => drf_mono fun _ => chk_mono2 fun hb => and_mono (hp (lo_100 hb hl))
  case bastore => exact eRII_mono fun _ _ _ _ => drf_mono fun _ => chk_mono2 fun hb => and_mono (b01W_mono (hp (lo_102 hb hl)))
  all_goals dsimp only [stepW]
  all_goals first
    | exact False.elim
    | exact id
    | exact (hp hl)
    | exact gI_mono fun _ => hp hl
    | exact gL_mono fun _ => hp hl
    | exact gR_mono fun _ => hp hl
    | exact eI_mono fun _ _ => (hp hl)
    | exact eII_mono fun _ _ _ => (hp hl)
    | exact eL_mono fun _ _ => (hp hl)
    | exact eLL_mono fun _ _ _ => (hp hl)
    | exact eLI_mono fun _ _ _ => (hp hl)
    | exact eD_mono fun _ _ => (hp hl)
    | exact eDD_mono fun _ _ _ => (hp hl)
    | exact eI_mono fun _ _ => putL_mono fun _ => hp hl
    | exact eR_mono fun _ _ => drf_mono fun _ => putL_mono fun _ => hp hl
    | exact gI_mono fun _ => putL_mono fun _ => hp hl
    | exact eII_mono fun _ _ _ => and_mono (hp hl)
    | exact eII_mono fun _ _ _ => nzW_mono (hp hl)
    | exact eI_mono fun _ _ => cbr_mono (hp hl) (hp hl)
    | exact eII_mono fun _ _ _ => cbr_mono (hp hl) (hp hl)
    | exact eR_mono fun _ _ => nbr_mono (hp hl) (hp hl)
    | exact eI_mono fun _ _ => swW_mono (fun _ => (hp hl)) _
    | exact eR_mono fun _ _ => drf_mono fun _ => chk_mono (hp hl)
    | exact eRI_mono fun _ _ _ => drf_mono fun _ => chk_mono (and_mono (hp hl))
    | exact eRII_mono fun _ _ _ _ => drf_mono fun _ => chk_mono (and_mono (hp hl))
    | exact eRIL_mono fun _ _ _ _ => drf_mono fun _ => chk_mono (and_mono (hp hl))
    | exact eRIR_mono fun _ _ _ _ => drf_mono fun _ => drf_mono fun _ => chk_mono (and_mono (hp hl))
    | exact recvW_mono fun _ _ => chk_mono (callW_lo hl hC fun _ _ _ _ l => (hp l))
    | (refine eR_mono fun _ _ => drf_mono fun _ => chk_mono ?_; split <;> exact hp hl)
    | (split <;> (try dsimp only) <;> first
        | exact False.elim
        | exact id
        | exact (hp hl)
        | exact hK _ _ hl
        | exact chk_mono (hp hl)
        | exact and_mono (hK _ _ hl)
        | exact drf_mono fun _ => hK _ _ hl
        | exact eI_mono fun _ _ => chk_mono (and_mono (hp hl))
        | exact copyW_lo hl fun _ _ l => (hp l)
        | exact eII_mono fun _ _ _ => chk_mono (hp hl)
        | exact eI_mono fun _ _ => chk_mono (hp hl)
        | exact chkIdxW_mono fun _ => (hp hl)
        | exact callW_lo hl hC fun _ _ _ _ l => (hp l)
        | exact eR_mono fun _ _ => drf_mono fun _ => chk_mono (hp hl)
        | exact recvW_mono fun _ _ => chk_mono (callW_lo hl hC fun _ _ _ _ l => (hp l))
        | (split <;> first | exact hK _ _ hl | exact and_mono (hK _ _ hl) | exact b01W_mono (hK _ _ hl) | exact False.elim | exact id))
theorem Wm_lo {n d y pc kc ks : Nat} {ls : mLs} {st : List mV} {H : mH} {K : mK} (h : Wm n d y pc kc ks ls st H K) {H0 : mH} (l : loE H0 H) : Wm n d y pc kc ks ls st H (fun r H' => K r H' ∧ loE H0 H') := by
  have hP := h (fun d y pc kc ks ls st H K => ∀ H0, loE H0 H → Wm n d y pc kc ks ls st H (fun r H' => K r H' ∧ loE H0 H'))
    (fun d y pc kc ks ls st H K K' hk q H0 l => Wm_mono n _ _ _ _ _ _ _ _ _ _ (fun r H' g => ⟨hk r H' g.1, g.2⟩) (q H0 l))
    (fun d w kc ks ls st H K hw q H0 l => Wm_closed n d w kc ks ls st H _ hw (step_lo H0 (fun r H' l' g => ⟨g, l'⟩) (fun _ _ _ _ _ _ _ _ l' g => g H0 l') (fun d y args H' Q Q' l' hq g => Wm_mono n _ _ _ _ _ _ _ _ _ _ (fun r H'' g' => hq r H'' g'.2 g'.1) (g H0 l')) d w hw kc ks ls st H l q))
  exact hP H0 l
theorem Cm_lo {n d y : Nat} {args : List mV} {H : mH} {K : mK} (h : Cm n d y args H K) : Cm n d y args H (fun r H' => K r H' ∧ loE H H') := Wm_lo h (loE_rf H)
theorem ite_r {c A B : Prop} [Decidable c] (hc : c) (a : A) : (if c then A else B) := by rw [if_pos hc]; exact a
theorem lcm3_s (v : Int64) : lcm3 v v = 0 := by
  unfold lcm3 lg_cmp
  simp
/-- a call of both, as the law has it: they answer alike, the script is as it was -/
theorem law_call {n d y1 y2 c : Nat} {a1 a2 : List mV} {I : mI} {L : mL} {f : mH → List mV} {G B : mH → Prop} (p : PT n d y1 a1 y2 a2 I L c (fun I' L' c' => RC I' L' c')) (hf : ∀ H1 : mH, H1.1 0 = I 0 → f H1 = a2) (k : ∀ I' L' c', RC I' L' c' → I' 0 = I 0 → G (hs I' L' c')) : Cm n d y1 a1 (hs I L c) (fun r H1 => ri r fun v => Cm n d y2 (f H1) H1 (fun r H2 => ri r fun w => if v = w then G H2 else B H2)) := by
  refine Cm_mono ?_ (Cm_lo p)
  rintro r H1 ⟨⟨I1, L1, c1, rfl, q⟩, l1⟩
  refine ri_mono (fun v g => ?_) q
  rw [hf _ (l1 0 (by decide))]
  refine Cm_mono ?_ (Cm_lo g)
  rintro r2 H2 ⟨⟨I2, L2, c2, rfl, q2⟩, l2⟩
  refine ri_mono (fun w g2 => ?_) q2
  exact ite_r g2.1 (k _ _ _ g2.2 ((l2 0 (by decide)).trans (l1 0 (by decide))))
theorem law_callL {n d y1 y2 c : Nat} {a1 a2 : List mV} {I : mI} {L : mL} {f : mH → List mV} {G B : mH → Prop} (p : PTl n d y1 a1 y2 a2 I L c (fun I' L' c' => RC I' L' c')) (hf : ∀ H1 : mH, H1.1 0 = I 0 → f H1 = a2) (k : ∀ I' L' c', RC I' L' c' → I' 0 = I 0 → G (hs I' L' c')) : Cm n d y1 a1 (hs I L c) (fun r H1 => rl r fun v => Cm n d y2 (f H1) H1 (fun r H2 => rl r fun w => if lcm3 v w = 0 then G H2 else B H2)) := by
  refine Cm_mono ?_ (Cm_lo p)
  rintro r H1 ⟨⟨I1, L1, c1, rfl, q⟩, l1⟩
  refine rl_mono (fun v g => ?_) q
  rw [hf _ (l1 0 (by decide))]
  refine Cm_mono ?_ (Cm_lo g)
  rintro r2 H2 ⟨⟨I2, L2, c2, rfl, q2⟩, l2⟩
  refine rl_mono (fun w g2 => ?_) q2
  refine ite_r ?_ (k _ _ _ g2.2 ((l2 0 (by decide)).trans (l1 0 (by decide))))
  rw [g2.1]
  exact lcm3_s w
theorem law_office {n e c : Nat} {I : mI} {L : mL} {G B : mH → Prop} (r : RC I L c) (k : ∀ I' L' c', RC I' L' c' → I' 0 = I 0 → G (hs I' L' c')) : Cm n (e + 23) 74 [vr (some 16)] (hs I L c) (fun r H1 => ri r fun v => Cm n (e + 23) 144 [vr (some 104)] H1 (fun r H2 => ri r fun w => if v = w then G H2 else B H2)) := by
  refine Cm_mono ?_ (Cm_lo (p_office (Q := fun I' L' c' => RC I' L' c') r (fun _ _ q => q)))
  rintro r H1 ⟨q, l1⟩
  refine ri_mono (fun v g => ?_) q
  obtain ⟨I1, L1, c1, rfl, g⟩ := g
  refine Cm_mono ?_ (Cm_lo g)
  rintro r2 H2 ⟨⟨I2, L2, c2, rfl, q2⟩, l2⟩
  refine ri_mono (fun w g2 => ?_) q2
  exact ite_r g2.1 (k _ _ _ g2.2 ((l2 0 (by decide)).trans (l1 0 (by decide))))
