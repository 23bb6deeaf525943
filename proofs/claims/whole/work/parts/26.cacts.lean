/-! ===== the class: acts ===== -/
def runK (n d p : Nat) (t x y1 : Int) (K : mK2) (J : mI) (L : mL) (c : Nat) : Prop := (if t = 10 then (chk (Nat.beq (TY p) 3) (K (some (vi (wr (x + (J p 0))))) J L c)) else (if t = 11 then (chk (Nat.beq (TY p) 3) (C2 n d 3 [vr (some 89), vr (some p), vi (J p 1), vi 0, vi x, vi y1] J L c (fun r61 I62 L63 c64 => ri r61 (fun x65 => chk (Nat.beq (TY p) 3) (K (some (vi (wr (x65 - (I62 p 2))))) I62 L63 c64))))) else (if t = 12 then (chk (Nat.beq (TY p) 3) (C2 n d 3 [vr (some 89), vr (some p), vi (J p 1), vi 1, vi x, vi y1] J L c (fun r66 I67 L68 c69 => ri r66 (fun x70 => K (some (vi (wr (x70 * 2)))) I67 L68 c69)))) else (if t = 20 then (C2 n d 3 [vr (some 89), vr (some p), vi 0, vi 1, vi x, vi y1] J L c (fun r71 I72 L73 c74 => ri r71 (fun x75 => K (some (vi (bxor x75 6))) I72 L73 c74))) else (if t = 30 then (C2 n d 3 [vr (some 89), vr (some p), vi 0, vi 0, vi (wr (x * 3)), vi y1] J L c (fun r76 I77 L78 c79 => ri r76 (fun x80 => K (some (vi x80)) I77 L78 c79))) else (if t = 40 then (C2 n d 3 [vr (some 89), vr (some p), vi 0, vi 2, vi x, vi y1] J L c (fun r81 I82 L83 c84 => ri r81 (fun x85 => chk (Nat.beq (TY p) 3) (C2 n d 3 [vr (some 89), vr (some p), vi (I82 p 1), vi 1, vi 1, vi y1] I82 L83 c84 (fun r86 I87 L88 c89 => ri r86 (fun x90 => K (some (vi (wr (x85 + x90)))) I87 L88 c89)))))) else (if t = 50 then (C2 n d 3 [vr (some 89), vr (some p), vi 1, vi 0, vi x, vi y1] J L c (fun r91 I92 L93 c94 => ri r91 (fun x95 => K (some (vi (wr (-x95)))) I92 L93 c94))) else (if t = 51 then (C2 n d 3 [vr (some 89), vr (some p), vi 1, vi 1, vi (wr (x + 1)), vi y1] J L c (fun r96 I97 L98 c99 => ri r96 (fun x100 => K (some (vi x100)) I97 L98 c99))) else (if t = 60 then (chk (Nat.beq (TY p) 3) (C2 n d 3 [vr (some 89), vr (some p), vi 2, vi 2, vi (wr (x - (J p 0))), vi y1] J L c (fun r101 I102 L103 c104 => ri r101 (fun x105 => K (some (vi x105)) I102 L103 c104)))) else (if t = 70 then (C2 n d 3 [vr (some 89), vr (some p), vi 3, vi 1, vi x, vi y1] J L c (fun r106 I107 L108 c109 => ri r106 (fun x110 => C2 n d 3 [vr (some 89), vr (some p), vi 3, vi 0, vi 2, vi y1] I107 L108 c109 (fun r111 I112 L113 c114 => ri r111 (fun x115 => K (some (vi (wr (x110 + x115)))) I112 L113 c114))))) else (if t = 71 then (C2 n d 3 [vr (some 89), vr (some p), vi 3, vi 0, vi x, vi y1] J L c (fun r116 I117 L118 c119 => ri r116 (fun x120 => chk (Nat.beq (TY p) 3) (K (some (vi (bxor x120 (I117 p 2)))) I117 L118 c119)))) else (K (some (vi 0)) J L c))))))))))))
def rnC (I : mI) (l : List Int) : Prop := I 89 1 = (l.length : Int) ∧ ∀ k, k < 20 → k < l.length → I 90 k = l.getD k 0
abbrev lRC : List Nat := [89, 90]
theorem run_both {n d p : Nat} {b x y : Int} {l : List Int} {I : mI} {L : mL} {c : Nat} {K : mK2} (hr : rnC I l) (hl : l.length ≤ 100000) (k : ∀ I', eqx lRC I I' → rnC I' (l ++ [b]) → runK n d p b x y K I' L c) : C2 n (d + 1) 4 [vr (some 89), vr (some p), vi b, vi x, vi y] I L c K := by
  obtain ⟨h1, h2⟩ := hr
  refine Ac_run ?_
  show if I 89 1 < 20 then (0 ≤ I 89 1 ∧ I 89 1 < 20) ∧ runK n d p b x y K (up2 (up2 I 90 ((I 89 1).toNat) b) 89 1 (wr (((up2 I 90 ((I 89 1).toNat) b) 89 1) + 1))) L c else runK n d p b x y K (up2 I 89 1 (wr ((I 89 1) + 1))) L c
  by_cases q : I 89 1 < 20
  · rw [if_pos q]
    refine ⟨by omega, ?_⟩
    rw [up2_ne (show (89 : Nat) ≠ 90 by decide), h1, Int.toNat_natCast, wr_nat (by omega)]
    refine k _ (eqx_up (eqx_up (eqx_rf _ _) rfl) rfl) ⟨?_, ?_⟩
    · rw [up2_same, List.length_append]; rfl
    · intro i hi h3
      rw [List.length_append, List.length_singleton] at h3
      rw [up2_ne (show (90 : Nat) ≠ 89 by decide)]
      by_cases r : i = l.length
      · rw [r, up2_same, getD_end]
      · rw [up2_at r, getD_app (by omega)]
        exact h2 i hi (by omega)
  · rw [if_neg q, h1, wr_nat (by omega)]
    refine k _ (eqx_up (eqx_rf _ _) rfl) ⟨?_, ?_⟩
    · rw [up2_same, List.length_append]; rfl
    · intro i hi h3
      rw [up2_ne (show (90 : Nat) ≠ 89 by decide), getD_app (by omega)]
      exact h2 i hi (by omega)
def bodT : List Int := [10, 11, 12, 0, 20, 0, 30, 0, 0, 0, 0, 40, 50, 51, 0, 0, 0, 60, 71, 70, 0]
def aboT : List Int := [-1, 0, 0, 0, 1, 2, 3]
def stat (I : mI) : Prop := (∀ k, k < 21 → I 2 k = bodT.getD k 0) ∧ (∀ k, k < 7 → I 1 k = aboT.getD k 0)
theorem stat_n {l : List Nat} {I I' : mI} (e : eqx l I I') (h : nol l [1, 2] = true) (s : stat I) : stat I' := by
  unfold stat
  rw [cell_n e (a := 1) (by decide) (by intro hm; have := nol_e h (k := 1) (by decide); rw [(elm_iff _ _).mpr hm] at this; cases this), cell_n e (a := 2) (by decide) (by intro hm; have := nol_e h (k := 2) (by decide); rw [(elm_iff _ _).mpr hm] at this; cases this)]
  exact s
/-- the body of a kind, or of the next above that has one -/
def fnd : Nat → Int → Nat → Int
  | 0, _, _ => 0
  | f + 1, k, a => if k < 0 then 0 else if bodT.getD (3 * k.toNat + a) 0 = 0 then fnd f (aboT.getD k.toNat 0) a else bodT.getD (3 * k.toNat + a) 0
theorem abo_bd : ∀ k : Fin 7, -1 ≤ aboT.getD k.val 0 ∧ aboT.getD k.val 0 < 7 := by decide +kernel
theorem x_perf {n d p a : Nat} {kd b x : Int} {y : Nat} {I : mI} {L : mL} {c : Nat} {K : mK2} (s : stat I) (hk : 0 ≤ kd ∧ kd < 7) (ha : a < 3) (hb : fnd 7 kd a = b) (h0 : b ≠ 0) (hy : y < 40) (k : C2 n d 4 [vr (some 89), vr (some p), vi b, vi x, vi ((y + 1 : Nat) : Int)] I L c (fun r I' L' c' => ri r (fun v => K (some (vi v)) I' L' c'))) : C2 n (d + 1) 3 [vr (some 89), vr (some p), vi kd, vi (a : Int), vi x, vi (y : Int)] I L c K := by
  refine Ac_perform ?_
  have go : ∀ f st : Nat, st + f = 7 → ∀ kd : Int, -1 ≤ kd ∧ kd < 7 → fnd f kd a = b → W2 n (d + 1) 3 6 [some (vr (some 89)), some (vr (some p)), none, some (vi (a : Int)), some (vi x), some (vi (y : Int)), some (vi kd), some (vi (st : Int)), none] [] I L c K := by
    intro f
    induction f with
    | zero => intro st _ kd _ e; exact absurd e.symm h0
    | succ f ih =>
      intro st hst kd hkd e
      unfold fnd at e
      by_cases q : kd < 0
      · rw [if_pos q] at e; exact absurd e.symm h0
      rw [if_neg q] at e
      have e1 : wr (wr (kd * 3) + (a : Int)) = ((3 * kd.toNat + a : Nat) : Int) := by rw [wri (x := kd * 3) (by omega), wri (by omega)]; omega
      refine Ac_perform_6 ?_
      rw [if_pos (by omega), if_neg q, if_pos (by omega), e1, Int.toNat_natCast, s.1 _ (by omega), s.2 _ (by omega)]
      refine ⟨by omega, ?_⟩
      by_cases r : bodT.getD (3 * kd.toNat + a) 0 = 0
      · rw [if_pos r] at e ⊢
        refine ⟨by omega, ?_⟩
        rw [wr_nat (by omega)]
        exact ih (st + 1) (by omega) _ (abo_bd ⟨kd.toNat, by omega⟩) e
      · rw [if_neg r] at e ⊢
        rw [if_pos (by omega), e, wr_nat (by omega)]
        exact k
  exact go 7 0 rfl kd (by omega) hb
theorem perC_R {I I' : mI} (e : eqx lRC I I') {p : Nat} (hp : p < 80) : perC I' p = perC I p := perC_n e (by omega) (by simp; omega) (by simp; omega) (by simp; omega)
/-- what a body of the class answers, and which bodies run -/
def conB (n d p : Nat) (b : Int) (f : mP → Int → Int × List Int) (ymax : Nat) : Prop := ∀ (x : Int) (y : Nat) (l : List Int) (I : mI) (L : mL) (c : Nat) (K : mK2), stat I → y ≤ ymax → rnC I l → l.length ≤ 10 * y → pOk n c p → (0 ≤ I p 1 ∧ I p 1 ≤ 6) → (∀ I', eqx lRC I I' → rnC I' (l ++ (f (perC I p) x).2) → K (some (vi (f (perC I p) x).1)) I' L c) → C2 n d 4 [vr (some 89), vr (some p), vi b, vi x, vi (y : Int)] I L c K
def conP (n d p : Nat) (kd : Int) (a : Nat) (f : mP → Int → Int × List Int) (ymax : Nat) : Prop := ∀ (x : Int) (y : Nat) (l : List Int) (I : mI) (L : mL) (c : Nat) (K : mK2), stat I → y ≤ ymax → rnC I l → l.length ≤ 10 * y + 10 → pOk n c p → (0 ≤ I p 1 ∧ I p 1 ≤ 6) → (∀ I', eqx lRC I I' → rnC I' (l ++ (f (perC I p) x).2) → K (some (vi (f (perC I p) x).1)) I' L c) → C2 n d 3 [vr (some 89), vr (some p), vi kd, vi (a : Int), vi x, vi (y : Int)] I L c K
theorem perf_of {n d p a : Nat} {kd b : Int} {f : mP → Int → Int × List Int} {ym : Nat} (h : conB n d p b f (ym + 1)) (hk : 0 ≤ kd ∧ kd < 7) (ha : a < 3) (hb : fnd 7 kd a = b) (h0 : b ≠ 0) (hy : ym < 40) : conP n (d + 1) p kd a f ym := by
  intro x y l I L c K s hyy hr hl hp hk1 k
  refine x_perf s hk ha hb h0 (by omega) ?_
  refine h x (y + 1) l I L c _ s (by omega) hr (by omega) hp hk1 ?_
  intro I' e r
  rw [ri_vi]
  exact k I' e r
def f10 (P : mP) (x : Int) : Int × List Int := (wr (x + P 0), [10])
theorem r10 {n d p : Nat} (hp : p < 80) (ym : Nat) (hm : ym ≤ 100 := by decide) : conB n (d + 1) p 10 f10 ym := by
  intro x y l I L c K s hy hr hl ho hk1 k
  refine run_both hr (by omega) ?_
  intro I1 e1 r1
  unfold runK
  simp only [↓reduceIte, chkE ho.1]
  rw [show I1 p 0 = perC I p 0 by rw [← perC_R e1 hp]; rfl]
  exact k I1 e1 r1
theorem stat_R {I I' : mI} (e : eqx lRC I I') (s : stat I) : stat I' := stat_n e rfl s
theorem kd_R {I I' : mI} (e : eqx lRC I I') {p : Nat} (hp : p < 80) (h : 0 ≤ I p 1 ∧ I p 1 ≤ 6) : 0 ≤ I' p 1 ∧ I' p 1 ≤ 6 := by rw [cell_n e (a := p) (by omega) (by simp; omega)]; exact h
theorem app1 (l : List Int) (b : Int) : (l ++ [b]).length = l.length + 1 := by rw [List.length_append]; rfl
theorem r30 {n d p : Nat} (hp : p < 80) : conB n (d + 3) p 30 (fun P x => (wr (wr (x * 3) + P 0), [30, 10])) 39 := by
  intro x y l I L c K s hy hr hl ho hk1 k
  refine run_both hr (by omega) ?_
  intro I1 e1 r1
  unfold runK
  simp only [↓reduceIte, Int.reduceEq]
  refine perf_of (r10 (d := d) hp 40) (kd := 0) (a := 0) (by decide) (by decide) rfl (by decide) (by decide) (wr (x * 3)) y (l ++ [30]) I1 L c _ (stat_R e1 s) hy r1 (by rw [app1]; omega) ho (kd_R e1 hp hk1) ?_
  intro I2 e2 r2
  rw [ri_vi]
  rw [List.append_assoc] at r2
  rw [perC_R e1 hp]
  exact k I2 (eqx_tr e1 e2) r2
theorem r50 {n d p : Nat} (hp : p < 80) : conB n (d + 3) p 50 (fun P x => (wr (-(wr (x + P 0))), [50, 10])) 39 := by
  intro x y l I L c K s hy hr hl ho hk1 k
  refine run_both hr (by omega) ?_
  intro I1 e1 r1
  unfold runK
  simp only [↓reduceIte, Int.reduceEq]
  refine perf_of (r10 (d := d) hp 40) (kd := 1) (a := 0) (by decide) (by decide) rfl (by decide) (by decide) x y (l ++ [50]) I1 L c _ (stat_R e1 s) hy r1 (by rw [app1]; omega) ho (kd_R e1 hp hk1) ?_
  intro I2 e2 r2
  rw [ri_vi]
  rw [List.append_assoc] at r2
  rw [perC_R e1 hp]
  exact k I2 (eqx_tr e1 e2) r2
theorem r71 {n d p : Nat} (hp : p < 80) : conB n (d + 3) p 71 (fun P x => (bxor (wr (x + P 0)) (P 2), [71, 10])) 39 := by
  intro x y l I L c K s hy hr hl ho hk1 k
  refine run_both hr (by omega) ?_
  intro I1 e1 r1
  unfold runK
  simp only [↓reduceIte, Int.reduceEq, chkE ho.1]
  refine perf_of (r10 (d := d) hp 40) (kd := 3) (a := 0) (by decide) (by decide) rfl (by decide) (by decide) x y (l ++ [71]) I1 L c _ (stat_R e1 s) hy r1 (by rw [app1]; omega) ho (kd_R e1 hp hk1) ?_
  intro I2 e2 r2
  rw [ri_vi]
  rw [List.append_assoc] at r2
  rw [show I2 p 2 = perC I p 2 by rw [← perC_R e1 hp, ← perC_R e2 hp]; rfl, perC_R e1 hp]
  exact k I2 (eqx_tr e1 e2) r2
theorem conP_cg {n d p a : Nat} {kd : Int} {f g : mP → Int → Int × List Int} {ym yn : Nat} (h : conP n d p kd a f ym) (hy : yn ≤ ym) (hfg : ∀ P : mP, P 1 = kd → ∀ x, f P x = g P x) : ∀ (x : Int) (y : Nat) (l : List Int) (I : mI) (L : mL) (c : Nat) (K : mK2), stat I → y ≤ yn → rnC I l → l.length ≤ 10 * y + 10 → pOk n c p → I p 1 = kd → (0 ≤ I p 1 ∧ I p 1 ≤ 6) → (∀ I', eqx lRC I I' → rnC I' (l ++ (g (perC I p) x).2) → K (some (vi (g (perC I p) x).1)) I' L c) → C2 n d 3 [vr (some 89), vr (some p), vi (I p 1), vi (a : Int), vi x, vi (y : Int)] I L c K := by
  intro x y l I L c K s hyy hr hl ho he hk1 k
  rw [← hfg (perC I p) he x] at k
  rw [he]
  exact h x y l I L c K s (by omega) hr hl ho hk1 k
/-- the act of one's own kind -/
def conK (n d p a : Nat) (f : mP → Int → Int × List Int) (ymax : Nat) : Prop := ∀ (x : Int) (y : Nat) (l : List Int) (I : mI) (L : mL) (c : Nat) (K : mK2), stat I → y ≤ ymax → rnC I l → l.length ≤ 10 * y + 10 → pOk n c p → (0 ≤ I p 1 ∧ I p 1 ≤ 6) → (∀ I', eqx lRC I I' → rnC I' (l ++ (f (perC I p) x).2) → K (some (vi (f (perC I p) x).1)) I' L c) → C2 n d 3 [vr (some 89), vr (some p), vi (I p 1), vi (a : Int), vi x, vi (y : Int)] I L c K
theorem sh_0 {P : mP} (h : P 1 = 0) (x : Int) : f10 P x = aShow P x := by unfold aShow; simp only [h, Int.reduceEq, ↓reduceIte]; rfl
theorem k_shows {n d p : Nat} (hp : p < 80) : conK n (d + 4) p 0 aShow 38 := by
  intro x y l I L c K s hy hr hl ho hk1 k
  have fin : ∀ kd : Int, I p 1 = kd → ∀ (f : mP → Int → Int × List Int) (b : Int), conB n (d + 3) p b f 39 → 0 ≤ kd ∧ kd < 7 → fnd 7 kd 0 = b → b ≠ 0 → (∀ P : mP, P 1 = kd → ∀ x, f P x = aShow P x) → C2 n (d + 4) 3 [vr (some 89), vr (some p), vi (I p 1), vi ((0 : Nat) : Int), vi x, vi (y : Int)] I L c K := by
    intro kd he f b hb hkd hf h0 hfg
    exact conP_cg (perf_of hb hkd (by decide) hf h0 (by decide)) (Nat.le_refl 38) hfg x y l I L c K s hy hr hl ho he hk1 k
  by_cases q0 : I p 1 = 0
  · exact fin 0 q0 f10 10 (r10 (d := d + 2) hp 39) (by decide) rfl (by decide) (fun P h x => by unfold aShow; simp only [h, Int.reduceEq, ↓reduceIte]; rfl)
  by_cases q1 : I p 1 = 1
  · exact fin 1 q1 f10 10 (r10 (d := d + 2) hp 39) (by decide) rfl (by decide) (fun P h x => by unfold aShow; simp only [h, Int.reduceEq, ↓reduceIte]; rfl)
  by_cases q2 : I p 1 = 2
  · exact fin 2 q2 _ 30 (r30 (d := d) hp) (by decide) rfl (by decide) (fun P h x => by unfold aShow; simp only [h, Int.reduceEq, ↓reduceIte])
  by_cases q3 : I p 1 = 3
  · exact fin 3 q3 f10 10 (r10 (d := d + 2) hp 39) (by decide) rfl (by decide) (fun P h x => by unfold aShow; simp only [h, Int.reduceEq, ↓reduceIte]; rfl)
  by_cases q4 : I p 1 = 4
  · exact fin 4 q4 _ 50 (r50 (d := d) hp) (by decide) rfl (by decide) (fun P h x => by unfold aShow; simp only [h, Int.reduceEq, ↓reduceIte])
  by_cases q5 : I p 1 = 5
  · exact fin 5 q5 _ 30 (r30 (d := d) hp) (by decide) rfl (by decide) (fun P h x => by unfold aShow; simp only [h, Int.reduceEq, ↓reduceIte])
  · exact fin 6 (by omega) _ 71 (r71 (d := d) hp) (by decide) rfl (by decide) (fun P h x => by unfold aShow; simp only [h, Int.reduceEq, ↓reduceIte])
theorem r11 {n d p : Nat} (hp : p < 80) : conB n (d + 5) p 11 aPP 38 := by
  intro x y l I L c K s hy hr hl ho hk1 k
  refine run_both hr (by omega) ?_
  intro I1 e1 r1
  unfold runK
  simp only [↓reduceIte, Int.reduceEq, chkE ho.1]
  refine k_shows (d := d) hp x y (l ++ [11]) I1 L c _ (stat_R e1 s) (by omega) r1 (by rw [app1]; omega) ho (kd_R e1 hp hk1) ?_
  intro I2 e2 r2
  rw [ri_vi]
  rw [List.append_assoc, perC_R e1 hp] at r2
  rw [show I2 p 2 = perC I p 2 by rw [← perC_R e1 hp, ← perC_R e2 hp]; rfl, perC_R e1 hp]
  exact k I2 (eqx_tr e1 e2) r2
theorem r20 {n d p : Nat} (hp : p < 80) : conB n (d + 7) p 20 aFP 37 := by
  intro x y l I L c K s hy hr hl ho hk1 k
  refine run_both hr (by omega) ?_
  intro I1 e1 r1
  unfold runK
  simp only [↓reduceIte, Int.reduceEq]
  refine perf_of (r11 (d := d) hp) (kd := 0) (a := 1) (ym := 37) (by decide) (by decide) rfl (by decide) (by decide) x y (l ++ [20]) I1 L c _ (stat_R e1 s) hy r1 (by rw [app1]; omega) ho (kd_R e1 hp hk1) ?_
  intro I2 e2 r2
  rw [ri_vi]
  rw [List.append_assoc, perC_R e1 hp] at r2
  rw [perC_R e1 hp]
  exact k I2 (eqx_tr e1 e2) r2
theorem r51 {n d p : Nat} (hp : p < 80) : conB n (d + 9) p 51 (fun P x => ((aFP P (wr (x + 1))).1, 51 :: (aFP P (wr (x + 1))).2)) 36 := by
  intro x y l I L c K s hy hr hl ho hk1 k
  refine run_both hr (by omega) ?_
  intro I1 e1 r1
  unfold runK
  simp only [↓reduceIte, Int.reduceEq]
  refine perf_of (r20 (d := d) hp) (kd := 1) (a := 1) (ym := 36) (by decide) (by decide) rfl (by decide) (by decide) (wr (x + 1)) y (l ++ [51]) I1 L c _ (stat_R e1 s) hy r1 (by rw [app1]; omega) ho (kd_R e1 hp hk1) ?_
  intro I2 e2 r2
  rw [ri_vi]
  rw [List.append_assoc, perC_R e1 hp] at r2
  rw [perC_R e1 hp]
  exact k I2 (eqx_tr e1 e2) r2
theorem conB_le {n d p : Nat} {b : Int} {f : mP → Int → Int × List Int} {ym yn : Nat} (h : conB n d p b f ym) (hy : yn ≤ ym) : conB n d p b f yn := fun x y l I L c K s hyy => h x y l I L c K s (by omega)
theorem r70 {n d p : Nat} (hp : p < 80) : conB n (d + 7) p 70 (fun P x => (wr ((aPP P x).1 + wr (2 + P 0)), 70 :: ((aPP P x).2 ++ [10]))) 37 := by
  intro x y l I L c K s hy hr hl ho hk1 k
  refine run_both hr (by omega) ?_
  intro I1 e1 r1
  unfold runK
  simp only [↓reduceIte, Int.reduceEq]
  refine perf_of (r11 (d := d) hp) (kd := 3) (a := 1) (ym := 37) (by decide) (by decide) rfl (by decide) (by decide) x y (l ++ [70]) I1 L c _ (stat_R e1 s) hy r1 (by rw [app1]; omega) ho (kd_R e1 hp hk1) ?_
  intro I2 e2 r2
  rw [ri_vi]
  rw [List.append_assoc, perC_R e1 hp] at r2
  have hs := aShow_len (perC I p) x
  refine perf_of (r10 (d := d + 4) hp 38) (kd := 3) (a := 0) (ym := 37) (by decide) (by decide) rfl (by decide) (by decide) 2 y _ I2 L c _ (stat_R e2 (stat_R e1 s)) hy r2 (by simp only [aPP, List.length_append, List.length_cons, List.length_nil]; omega) ho (kd_R e2 hp (kd_R e1 hp hk1)) ?_
  intro I3 e3 r3
  rw [ri_vi]
  rw [List.append_assoc] at r3
  rw [perC_R e2 hp, perC_R e1 hp]
  refine k I3 (eqx_tr (eqx_tr e1 e2) e3) ?_
  exact r3
theorem k_pays {n d p : Nat} (hp : p < 80) : conK n (d + 10) p 1 aPay 35 := by
  intro x y l I L c K s hy hr hl ho hk1 k
  have fin : ∀ kd : Int, I p 1 = kd → ∀ (f : mP → Int → Int × List Int) (b : Int), conB n (d + 9) p b f 36 → 0 ≤ kd ∧ kd < 7 → fnd 7 kd 1 = b → b ≠ 0 → (∀ P : mP, P 1 = kd → ∀ x, f P x = aPay P x) → C2 n (d + 10) 3 [vr (some 89), vr (some p), vi (I p 1), vi ((1 : Nat) : Int), vi x, vi (y : Int)] I L c K := by
    intro kd he f b hb hkd hf h0 hfg
    exact conP_cg (perf_of hb hkd (by decide) hf h0 (by decide)) (Nat.le_refl 35) hfg x y l I L c K s hy hr hl ho he hk1 k
  by_cases q0 : I p 1 = 0
  · exact fin 0 q0 aPP 11 (conB_le (r11 (d := d + 4) hp) (by decide)) (by decide) rfl (by decide) (fun P h x => by unfold aPay; simp only [h, Int.reduceEq, ↓reduceIte])
  by_cases q1 : I p 1 = 1
  · exact fin 1 q1 aFP 20 (conB_le (r20 (d := d + 2) hp) (by decide)) (by decide) rfl (by decide) (fun P h x => by unfold aPay; simp only [h, ↓reduceIte])
  by_cases q2 : I p 1 = 2
  · exact fin 2 q2 aPP 11 (conB_le (r11 (d := d + 4) hp) (by decide)) (by decide) rfl (by decide) (fun P h x => by unfold aPay; simp only [h, Int.reduceEq, ↓reduceIte])
  by_cases q3 : I p 1 = 3
  · exact fin 3 q3 aPP 11 (conB_le (r11 (d := d + 4) hp) (by decide)) (by decide) rfl (by decide) (fun P h x => by unfold aPay; simp only [h, Int.reduceEq, ↓reduceIte])
  by_cases q4 : I p 1 = 4
  · exact fin 4 q4 _ 51 (r51 (d := d) hp) (by decide) rfl (by decide) (fun P h x => by unfold aPay; simp only [h, Int.reduceEq, ↓reduceIte])
  by_cases q5 : I p 1 = 5
  · exact fin 5 q5 aPP 11 (conB_le (r11 (d := d + 4) hp) (by decide)) (by decide) rfl (by decide) (fun P h x => by unfold aPay; simp only [h, Int.reduceEq, ↓reduceIte])
  · exact fin 6 (by omega) _ 70 (conB_le (r70 (d := d + 2) hp) (by decide)) (by decide) rfl (by decide) (fun P h x => by unfold aPay; simp only [h, Int.reduceEq, ↓reduceIte])
theorem r12 {n d p : Nat} (hp : p < 80) : conB n (d + 11) p 12 aPT 35 := by
  intro x y l I L c K s hy hr hl ho hk1 k
  refine run_both hr (by omega) ?_
  intro I1 e1 r1
  unfold runK
  simp only [↓reduceIte, Int.reduceEq, chkE ho.1]
  refine k_pays (d := d) hp x y (l ++ [12]) I1 L c _ (stat_R e1 s) (by omega) r1 (by rw [app1]; omega) ho (kd_R e1 hp hk1) ?_
  intro I2 e2 r2
  rw [ri_vi]
  rw [List.append_assoc, perC_R e1 hp] at r2
  rw [perC_R e1 hp]
  exact k I2 (eqx_tr e1 e2) r2
theorem r40 {n d p : Nat} (hp : p < 80) : conB n (d + 13) p 40 (fun P x => (wr ((aPT P x).1 + (aPay P 1).1), 40 :: ((aPT P x).2 ++ (aPay P 1).2))) 34 := by
  intro x y l I L c K s hy hr hl ho hk1 k
  refine run_both hr (by omega) ?_
  intro I1 e1 r1
  unfold runK
  simp only [↓reduceIte, Int.reduceEq, chkE ho.1]
  refine perf_of (r12 (d := d) hp) (kd := 0) (a := 2) (ym := 34) (by decide) (by decide) rfl (by decide) (by decide) x y (l ++ [40]) I1 L c _ (stat_R e1 s) hy r1 (by rw [app1]; omega) ho (kd_R e1 hp hk1) ?_
  intro I2 e2 r2
  rw [ri_vi]
  rw [List.append_assoc, perC_R e1 hp] at r2
  have hs := aPay_len (perC I p) x
  refine k_pays (d := d + 2) hp 1 y _ I2 L c _ (stat_R e2 (stat_R e1 s)) (by omega) r2 (by simp only [aPT, List.length_append, List.length_cons, List.length_nil]; omega) ho (kd_R e2 hp (kd_R e1 hp hk1)) ?_
  intro I3 e3 r3
  rw [ri_vi]
  rw [List.append_assoc, perC_R e2 hp, perC_R e1 hp] at r3
  rw [perC_R e2 hp, perC_R e1 hp]
  exact k I3 (eqx_tr (eqx_tr e1 e2) e3) r3
theorem r60 {n d p : Nat} (hp : p < 80) : conB n (d + 13) p 60 (fun P x => ((aPT P (wr (x - P 0))).1, 60 :: (aPT P (wr (x - P 0))).2)) 34 := by
  intro x y l I L c K s hy hr hl ho hk1 k
  refine run_both hr (by omega) ?_
  intro I1 e1 r1
  unfold runK
  simp only [↓reduceIte, Int.reduceEq, chkE ho.1]
  rw [show I1 p 0 = perC I p 0 by rw [← perC_R e1 hp]; rfl]
  refine perf_of (r12 (d := d) hp) (kd := 2) (a := 2) (ym := 34) (by decide) (by decide) rfl (by decide) (by decide) (wr (x - perC I p 0)) y (l ++ [60]) I1 L c _ (stat_R e1 s) hy r1 (by rw [app1]; omega) ho (kd_R e1 hp hk1) ?_
  intro I2 e2 r2
  rw [ri_vi]
  rw [List.append_assoc, perC_R e1 hp] at r2
  rw [perC_R e1 hp]
  exact k I2 (eqx_tr e1 e2) r2
theorem k_tells {n d p : Nat} (hp : p < 80) : conK n (d + 14) p 2 aTell 33 := by
  intro x y l I L c K s hy hr hl ho hk1 k
  have fin : ∀ kd : Int, I p 1 = kd → ∀ (f : mP → Int → Int × List Int) (b : Int), conB n (d + 13) p b f 34 → 0 ≤ kd ∧ kd < 7 → fnd 7 kd 2 = b → b ≠ 0 → (∀ P : mP, P 1 = kd → ∀ x, f P x = aTell P x) → C2 n (d + 14) 3 [vr (some 89), vr (some p), vi (I p 1), vi ((2 : Nat) : Int), vi x, vi (y : Int)] I L c K := by
    intro kd he f b hb hkd hf h0 hfg
    exact conP_cg (perf_of hb hkd (by decide) hf h0 (by decide)) (Nat.le_refl 33) hfg x y l I L c K s hy hr hl ho he hk1 k
  by_cases q0 : I p 1 = 0
  · exact fin 0 q0 aPT 12 (conB_le (r12 (d := d + 2) hp) (by decide)) (by decide) rfl (by decide) (fun P h x => by unfold aTell; simp only [h, Int.reduceEq, ↓reduceIte])
  by_cases q1 : I p 1 = 1
  · exact fin 1 q1 aPT 12 (conB_le (r12 (d := d + 2) hp) (by decide)) (by decide) rfl (by decide) (fun P h x => by unfold aTell; simp only [h, Int.reduceEq, ↓reduceIte])
  by_cases q2 : I p 1 = 2
  · exact fin 2 q2 aPT 12 (conB_le (r12 (d := d + 2) hp) (by decide)) (by decide) rfl (by decide) (fun P h x => by unfold aTell; simp only [h, Int.reduceEq, ↓reduceIte])
  by_cases q3 : I p 1 = 3
  · exact fin 3 q3 _ 40 (r40 (d := d) hp) (by decide) rfl (by decide) (fun P h x => by unfold aTell; simp only [h, ↓reduceIte])
  by_cases q4 : I p 1 = 4
  · exact fin 4 q4 aPT 12 (conB_le (r12 (d := d + 2) hp) (by decide)) (by decide) rfl (by decide) (fun P h x => by unfold aTell; simp only [h, Int.reduceEq, ↓reduceIte])
  by_cases q5 : I p 1 = 5
  · exact fin 5 q5 _ 60 (r60 (d := d) hp) (by decide) rfl (by decide) (fun P h x => by unfold aTell; simp only [h, Int.reduceEq, ↓reduceIte])
  · exact fin 6 (by omega) _ 40 (r40 (d := d) hp) (by decide) rfl (by decide) (fun P h x => by unfold aTell; simp only [h, Int.reduceEq, ↓reduceIte])
