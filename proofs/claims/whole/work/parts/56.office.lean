/-! ===== office(): both answer alike ===== -/
theorem W2_to {n d y pc : Nat} {ls : mLs} {st : List mV} {I : mI} {L : mL} {c : Nat} {K : mK} (h : W2 n d y pc ls st I L c (fun r I L c => K r (hs I L c))) : Wm n d y pc 0 0 ls st (hs I L c) K := Wm_mono n _ _ _ _ _ _ _ _ _ _ (fun _ _ ⟨_, _, _, e, q⟩ => by rw [e]; exact q) h
theorem C2_to {n d y : Nat} {args : List mV} {I : mI} {L : mL} {c : Nat} {K : mK} (h : C2 n d y args I L c (fun r I L c => K r (hs I L c))) : Cm n d y args (hs I L c) K := Cm_mono (fun _ _ ⟨_, _, _, e, q⟩ => by rw [e]; exact q) h
theorem oH_lt (c : Nat) : oH c + 3 < 155 + 4 * c := by
  cases c with
  | zero => show 76 + 3 < 155 + 4 * 0; decide
  | succ c => show 155 + 4 * c + 3 < 155 + 4 * (c + 1); omega
theorem oH_s (c : Nat) : oH (c + 1) = 155 + 4 * c := rfl
theorem OfI_c {h : Nat} {s : oS} {I J : mI} (e0 : J h = I h) (e1 : J (h + 1) = I (h + 1)) (e2 : J (h + 2) = I (h + 2)) (e3 : J (h + 3) = I (h + 3)) (o : OfI I h s) : OfI J h s := by
  unfold OfI MdC wsC at o ⊢
  rw [e0, e1, e2, e3]
  exact o
theorem BdC_c {h : Nat} {I J : mI} (e3 : J (h + 3) = I (h + 3)) (o : BdC I h) : BdC J h := by
  unfold BdC at o ⊢
  rw [e3]
  exact o
/-- what the class's call changes -/
def ofr (c : Nat) (I J : mI) : Prop := ∀ x k, ¬ (oH c ≤ x ∧ x ≤ oH c + 3) → x ≠ 155 + 4 * c → x ≠ 74 → ¬ (x = 17 ∧ k = 4) → ¬ (x = 16 ∧ k = 5) → J x k = I x k
theorem x_office {n e tn c : Nat} {sg : Nat → Int} {I : mI} {L : mL} {K : mK} (ht : txt sg tn) (hc : c < 6) (h5 : I 16 5 = (c : Int)) (hT : RdT I sg tn) (hs' : strC I) (hB : BdC I (oH c))
    (kf : ∀ J, ofr c I J → J 17 4 = I 17 4 → J 16 5 = I 16 5 → J 74 1 = 0 → BdC J (oH c) → (txtP sg tn 10 0).1 = false → K (some (vi (wr (-10 - (((txtP sg tn 10 0).2.1 : Nat) : Int))))) (hs J L c))
    (kt : ∀ J, ofr c I J → J 17 4 = (c : Int) → J 16 5 = (c : Int) + 1 → J 74 1 = 0 → BdC J (oH c) → OfI J (oH c) ((txtP sg tn 10 0).2.2.foldl acc1 (8, 18, 10, [], [])) → (txtP sg tn 10 0).1 = true → K (some (vi (c : Int))) (hs J L (c + 1))) : Cm n (e + 23) 74 [vr (some 16)] (hs I L c) K := by
  have o76 := oH_76 c
  have olt := oH_lt c
  refine of_A (d := e + 22) ?_
  rw [if_pos (by rw [h5]; omega)]
  refine C2_to (K := fun r H => ri r (fun v => Wm n (e + 22 + 1) 74 19 4 128 [some (vr (some 16)), none] [vi v] H K)) ?_
  refine x_readsOffice (e := e) ht (by omega) hT hs' hB ?_
  intro I' z a b f
  rw [ri_vi]
  refine of_B ?_
  by_cases t : (txtP sg tn 10 0).1 = true
  · rw [t, if_neg (show ¬ b2i true = 0 by decide)]
    refine x_handOver (d := e + 21) hc ?_
    rw [rr_vr, up2_nj (show (16 : Nat) ≠ 74 by decide), z 16 5 (by omega) (by omega), h5]
    refine of_C (a := oH c) (oOk_j (n := n) (c := c) (j := c) (by omega) (Nat.le_refl _)).1 ⟨by omega, by omega⟩ ?_
    rw [Int.toNat_natCast, Rs_new]
    generalize hX : up2 (up2 (up2 (up2 (up2 (up2 I' 74 1 0) (155 + 4 * c) 0 8) (155 + 4 * c) 1 18) (155 + 4 * c) 2 10) (155 + 4 * c) 5 0) (155 + 4 * c) 7 0 = X
    have gX : ∀ x k, x ≠ 155 + 4 * c → ¬ (x = 74 ∧ k = 1) → X x k = I' x k := fun x k q1 q2 => by
      rw [← hX, up2_nj q1, up2_nj q1, up2_nj q1, up2_nj q1, up2_nj q1, up2_if, if_neg q2]
    have g74 : X 74 1 = 0 := by
      rw [← hX, up2_nj (by omega), up2_nj (by omega), up2_nj (by omega), up2_nj (by omega), up2_nj (by omega), up2_same]
    clear hX
    refine W2_to (of_D ?_)
    have e5 : X 16 5 = (c : Int) := by rw [gX _ _ (by omega) (by omega), z 16 5 (by omega) (by omega), h5]
    rw [e5, up2_nj (show (16 : Nat) ≠ 17 by decide), e5, wri (show -2147483648 ≤ (c : Int) + 1 ∧ (c : Int) + 1 < 2147483648 by omega), up2_nj (show (17 : Nat) ≠ 16 by decide), up2_same]
    generalize hJ : up2 (up2 X 17 4 (c : Int)) 16 5 ((c : Int) + 1) = J
    have gJ : ∀ x k, ¬ (x = 17 ∧ k = 4) → ¬ (x = 16 ∧ k = 5) → J x k = X x k := fun x k q1 q2 => by rw [← hJ, up2_if, if_neg q2, up2_if, if_neg q1]
    have gI : ∀ x k, x ≠ 155 + 4 * c → ¬ (x = 74 ∧ k = 1) → ¬ (x = 17 ∧ k = 4) → ¬ (x = 16 ∧ k = 5) → J x k = I' x k := fun x k q1 q2 q3 q4 => by rw [gJ _ _ q3 q4, gX _ _ q1 q2]
    have cI : ∀ i, i < 4 → J (oH c + i) = I' (oH c + i) := fun i hi => funext fun k => gI _ _ (by omega) (by omega) (by omega) (by omega)
    refine kt J ?_ ?_ ?_ ?_ (BdC_c (cI 3 (by decide)) b) (OfI_c (cI 0 (by decide)) (cI 1 (by decide)) (cI 2 (by decide)) (cI 3 (by decide)) (f t)) t
    · intro x k q1 q2 q3 q4 q5
      rw [gI _ _ q2 (by omega) q4 q5, z _ _ q1 (by omega)]
    · rw [← hJ, up2_nj (by decide), up2_same]
    · rw [← hJ, up2_same]
    · rw [gJ _ _ (by decide) (by decide), g74]
  · have tf : (txtP sg tn 10 0).1 = false := by simpa using t
    rw [tf, if_pos (show b2i false = 0 from rfl), up2_at (by decide), a]
    have gI : ∀ x k, ¬ (x = 74 ∧ k = 1) → up2 I' 74 1 0 x k = I' x k := fun x k q => by rw [up2_if, if_neg q]
    refine kf _ ?_ ?_ ?_ up2_same ?_ tf
    · intro x k q1 q2 q3 q4 q5
      rw [gI _ _ (by omega), z _ _ q1 (by omega)]
    · rw [gI _ _ (by decide), z _ _ (by omega) (by omega)]
    · rw [gI _ _ (by decide), z _ _ (by omega) (by omega)]
    · exact BdC_c (up2_ne (by omega)) b
theorem z_office {n d tn f : Nat} {sg : Nat → Int} {J : mI} {L : mL} {c : Nat} {K : mK2} (hf : f < 6) (ht : txt sg tn) (hR : RdM J sg tn) (hs : ∀ k, k < 22 → J 118 k = letT.getD k 0) (hbd : ∀ k, 10 * f ≤ k → k < 10 * f + 10 → J 115 k ≤ ((100 * f + 100 : Nat) : Int) ∧ 0 ≤ J 113 k ∧ J 113 k ≤ 99) (h9 : J 104 9 = (f : Int))
    (kf : ∀ M, lfr f 0 (100 * f) J M → (txtP sg tn 10 0).1 = false → K (some (vi (wr (-10 - (((txtP sg tn 10 0).2.1 : Nat) : Int))))) (up2 M 104 11 0) L c)
    (kt : ∀ M, lfr f 0 (100 * f) J M → (M 111 f = (((txtP sg tn 10 0).2.2.length : Nat) : Int) ∧ ∀ j, j < (txtP sg tn 10 0).2.2.length → ∃ b, entM M (10 * f + j) b ((txtP sg tn 10 0).2.2.getD j (0, 0, []))) → (txtP sg tn 10 0).1 = true → K (some (vi (f : Int))) (up2 (up2 (up2 M 104 11 0) 104 10 (f : Int)) 104 9 ((f : Int) + 1)) L c) : C2 n (d + 7) 144 [vr (some 104)] J L c K := by
  refine m_office ?_
  rw [if_neg (by rw [h9]; omega), h9]
  refine z_goesText hf ht hR hs hbd ?_
  intro M l a s
  rw [ri_vi]
  have g9 : M 104 9 = (f : Int) := by rw [l.1 104 9 (by decide) (by omega) (by omega) (by omega) (by omega), h9]
  by_cases t : (txtP sg tn 10 0).1 = true
  · rw [t, if_neg (show ¬ b2i true = 0 by decide)]
    have k := kt M l (s t) t
    have e1 : up2 M 104 11 0 104 9 = (f : Int) := by rw [up2_at (by decide), g9]
    rw [e1]
    have e2 : up2 (up2 M 104 11 0) 104 10 (f : Int) 104 9 = (f : Int) := by rw [up2_at (by decide), e1]
    rw [e2, wri (show -2147483648 ≤ (f : Int) + 1 ∧ (f : Int) + 1 < 2147483648 by omega)]
    have e3 : up2 (up2 (up2 M 104 11 0) 104 10 (f : Int)) 104 9 ((f : Int) + 1) 104 10 = (f : Int) := by rw [up2_at (by decide), up2_same]
    rw [e3]
    exact k
  · have tf : (txtP sg tn 10 0).1 = false := by simpa using t
    rw [tf, if_pos (show b2i false = 0 from rfl), up2_at (by decide), a]
    exact kf M l tf
/-! what an office of the reference stands on -/
theorem codesF_r {A B : mI} : ∀ m a, (∀ k, a ≤ k → k < a + m → B 116 k = A 116 k) → codesF B a m = codesF A a m
  | 0, _, _ => rfl
  | m + 1, a, h => by
    show B 116 a :: codesF B (a + 1) m = A 116 a :: codesF A (a + 1) m
    rw [h a (Nat.le_refl _) (by omega), codesF_r m (a + 1) (fun k h1 h2 => h k (by omega) (by omega))]
theorem offM_j {A B : mI} {j : Nat} (hj : j < 6) (a10 : A 104 10 = (j : Int)) (b10 : B 104 10 = (j : Int)) (e26 : B 104 26 = A 104 26) (e111 : B 111 j = A 111 j) (e : ∀ x k, 112 ≤ x → x ≤ 115 → 10 * j ≤ k → k < 10 * j + 10 → B x k = A x k) (e6 : ∀ k, k < 100 * j + 100 → B 116 k = A 116 k) (h5 : ∀ k, 10 * j ≤ k → k < 10 * j + 10 → A 115 k ≤ ((100 * j + 100 : Nat) : Int)) (h113 : ∀ i, i < 60 → 0 ≤ B 113 i ∧ B 113 i ≤ 99) (o : oI A) : oI B ∧ offM B = offM A := by
  have ba : bM A = 10 * j := by unfold bM; rw [a10, if_neg (by omega), Int.toNat_natCast]
  have bb : bM B = 10 * j := by unfold bM; rw [b10, if_neg (by omega), Int.toNat_natCast]
  have ka : kM A = (A 111 j).toNat := by unfold kM; rw [a10, if_neg (by omega), Int.toNat_natCast]
  have kb : kM B = kM A := by unfold kM; rw [a10, b10, if_neg (by omega), if_neg (by omega), Int.toNat_natCast, e111]
  obtain ⟨⟨q1, q2⟩, q3, q4, q5⟩ := o
  have k10 : kM A ≤ 10 := by
    have := q2 (by rw [a10]; omega)
    rw [a10, Int.toNat_natCast] at this
    rw [ka]
    omega
  have cd : ∀ i, i < kM A → codesM B (10 * j + i) = codesM A (10 * j + i) := by
    intro i hi
    have w := h5 (10 * j + i) (by omega) (by omega)
    unfold codesM
    rw [e 114 _ (by decide) (by decide) (by omega) (by omega), e 115 _ (by decide) (by decide) (by omega) (by omega)]
    exact codesF_r _ _ (fun k k1 k2 => e6 k (by omega))
  have ls : ∀ w x k, k ≤ kM A → lastM B w (10 * j) k x = lastM A w (10 * j) k x := by
    intro w x k
    induction k with
    | zero => exact fun _ => rfl
    | succ k ih =>
      intro h
      show (if B 112 (10 * j + k) = w then B 113 (10 * j + k) else lastM B w (10 * j) k x) = (if A 112 (10 * j + k) = w then A 113 (10 * j + k) else lastM A w (10 * j) k x)
      rw [e 112 _ (by decide) (by decide) (by omega) (by omega), e 113 _ (by decide) (by decide) (by omega) (by omega), ih (by omega)]
  have ws : ∀ k, k ≤ kM A → wishM B (10 * j) k = wishM A (10 * j) k := by
    intro k
    induction k with
    | zero => exact fun _ => rfl
    | succ k ih =>
      intro h
      show wishM B (10 * j) k ++ (if B 112 (10 * j + k) ≤ 1 then [((if B 112 (10 * j + k) = 0 then B 113 (10 * j + k) else -(B 113 (10 * j + k))), codesM B (10 * j + k))] else []) = wishM A (10 * j) k ++ (if A 112 (10 * j + k) ≤ 1 then [((if A 112 (10 * j + k) = 0 then A 113 (10 * j + k) else -(A 113 (10 * j + k))), codesM A (10 * j + k))] else [])
      rw [e 112 _ (by decide) (by decide) (by omega) (by omega), e 113 _ (by decide) (by decide) (by omega) (by omega), cd k (by omega), ih (by omega)]
  refine ⟨⟨⟨by rw [b10]; omega, fun _ => ?_⟩, h113, fun i hi => ?_, by rw [e26]; exact q5⟩, ?_⟩
  · have := q2 (by rw [a10]; omega)
    rw [a10, Int.toNat_natCast] at this
    rw [b10, Int.toNat_natCast, e111]
    exact this
  · rw [kb] at hi
    have w := q4 i hi
    rw [ba] at w
    rw [bb, e 112 _ (by decide) (by decide) (by omega) (by omega), e 114 _ (by decide) (by decide) (by omega) (by omega), e 115 _ (by decide) (by decide) (by omega) (by omega), cd i hi]
    exact w
  · unfold offM
    rw [ba, bb, kb, e26, ls _ _ _ (Nat.le_refl _), ls _ _ _ (Nat.le_refl _), ls _ _ _ (Nat.le_refl _), ws _ (Nat.le_refl _)]
