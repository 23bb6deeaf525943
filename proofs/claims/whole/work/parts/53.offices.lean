/-! ===== both offices out of the same clauses ===== -/
theorem take_s {α : Type} (d : α) : ∀ (l : List α) (k : Nat), k < l.length → l.take (k + 1) = l.take k ++ [l.getD k d]
  | [], k, h => absurd h (Nat.not_lt_zero _)
  | _ :: _, 0, _ => rfl
  | x :: l, k + 1, h => by
    show x :: l.take (k + 1) = x :: (l.take k ++ [l.getD k d])
    rw [take_s d l k (Nat.lt_of_succ_lt_succ h)]
/-! a part's codes are such that each takes what is there, and leaves one -/
def gwP (N : Nat) (m : List Int) : Prop := ∀ h rest, h + N < 12 → wfz h (m.map trC ++ rest) = wfz (h + 1) rest
theorem wf_t {h : Nat} {z : Int} {rest : List Int} (hz : 0 ≤ z ∧ z < 6000) (hh : h < 12) : wfz h (z :: rest) = wfz (h + 1) rest := by
  show (if z = -33 then (Nat.blt 0 h && wfz h rest) else if z = -38 ∨ z = -124 then (Nat.blt 1 h && wfz (h - 1) rest) else (decide (0 ≤ z ∧ z < 6000) && (Nat.blt h 12 && wfz (h + 1) rest))) = _
  rw [if_neg (by omega), if_neg (by omega), decide_eq_true hz, show Nat.blt h 12 = true from Nat.blt_eq.mpr hh]
  rfl
theorem tst_w {sg : Nat → Int} {a : Nat} (t : (tstP sg a).1 = true) : gwP 0 (tstP sg a).2.2 := by
  unfold tstP at t ⊢
  cases e1 : letP (sg a) with
  | none => rw [e1] at t; cases t
  | some l =>
    rw [e1] at t
    dsimp only at t ⊢
    have l1 := let_ok e1
    by_cases d : 60 ≤ sg (a + 1) ∧ sg (a + 1) ≤ 62
    · rw [if_pos d] at t ⊢
      cases e2 : numP sg (a + 2) with
      | none => rw [e2] at t; cases t
      | some q =>
        obtain ⟨v, b⟩ := q
        have nv : 0 ≤ v ∧ v ≤ 99 := by
          unfold numP at e2
          by_cases d1 : digit (sg (a + 2))
          · rw [if_pos d1] at e2
            have d1 : 48 ≤ sg (a + 2) ∧ sg (a + 2) ≤ 57 := d1
            by_cases d2 : digit (sg (a + 2 + 1))
            · rw [if_pos d2] at e2
              have d2 : 48 ≤ sg (a + 2 + 1) ∧ sg (a + 2 + 1) ≤ 57 := d2
              cases e2; omega
            · rw [if_neg d2] at e2
              cases e2; omega
          · rw [if_neg d1] at e2; cases e2
        intro h rest hh
        show wfz h (trC ((l * 3 + (sg (a + 1) - 60)) * 100 + v) :: rest) = _
        refine wf_t ?_ hh
        rw [tr_bd (by omega)]
        omega
    · rw [if_neg d] at t; cases t
theorem lop_w {sg : Nat → Int} {tn N : Nat} {P : Nat → pR} {o cd : Int} (ht : txt sg tn) (ho : 0 ≤ o) (hok : ∀ a, a ≤ tn → okR tn a (P a)) (hcd : trC cd = -38 ∨ trC cd = -124) (hP : ∀ a, a ≤ tn → (P a).1 = true → gwP N (P a).2.2) : ∀ k b m, b ≤ tn → gwP (N + 1) m → (lopP sg P o cd k b m).1 = true → gwP (N + 1) (lopP sg P o cd k b m).2.2
  | 0, b, m, _, g, _ => g
  | k + 1, b, m, hb, g, t => by
    unfold lopP at t ⊢
    by_cases e : sg b = o
    · rw [if_pos e] at t ⊢
      have lb := txt_lt ht (show 0 ≤ sg b by omega)
      by_cases w : (P (b + 1)).1 = true
      · rw [if_pos w] at t ⊢
        refine lop_w ht ho hok hcd hP k _ _ (hok (b + 1) lb).2.2.1 ?_ t
        intro h rest hh
        rw [List.map_append, List.map_append, List.append_assoc, List.append_assoc, g h _ hh, hP (b + 1) lb w (h + 1) _ (by omega)]
        show wfz (h + 2) (trC cd :: rest) = _
        show (if trC cd = -33 then (Nat.blt 0 (h + 2) && wfz (h + 2) rest) else if trC cd = -38 ∨ trC cd = -124 then (Nat.blt 1 (h + 2) && wfz (h + 2 - 1) rest) else _) = _
        rw [if_neg (by omega), if_pos hcd, show Nat.blt 1 (h + 2) = true from Nat.blt_eq.mpr (by omega)]
        rfl
      · rw [if_neg w] at t; cases t
    · rw [if_neg e]; exact g
theorem gw_le {N M : Nat} {m : List Int} (h : N ≤ M) (g : gwP N m) : gwP M m := fun k rest hk => g k rest (by omega)
theorem seq_w {sg : Nat → Int} {tn N : Nat} {P : Nat → pR} {o cd : Int} (ht : txt sg tn) (ho : 0 ≤ o) (hok : ∀ a, a ≤ tn → okR tn a (P a)) (hcd : trC cd = -38 ∨ trC cd = -124) (hP : ∀ a, a ≤ tn → (P a).1 = true → gwP N (P a).2.2) (a : Nat) (ha : a ≤ tn) (t : (seqP sg P o cd a).1 = true) : gwP (N + 1) (seqP sg P o cd a).2.2 := by
  unfold seqP at t ⊢
  by_cases w : (P a).1 = true
  · rw [if_pos w] at t ⊢
    exact lop_w ht ho hok hcd hP 100 _ _ (hok a ha).2.2.1 (gw_le (Nat.le_succ _) (hP a ha w)) t
  · rw [if_neg w] at t; exact absurd t w
theorem eit_w {sg : Nat → Int} {tn D : Nat} (ht : txt sg tn) (hw : ∀ a, a ≤ tn → (prt sg D a).1 = true → gwP (2 * D) (prt sg D a).2.2) (a : Nat) (ha : a ≤ tn) (t : (eitP sg (prt sg D) a).1 = true) : gwP (2 * (D + 1)) (eitP sg (prt sg D) a).2.2 :=
  seq_w (N := 2 * D + 1) ht (by decide) (fun a ha => seq_ok ht (by decide) (by decide) (prt_ok ht D) a ha) (Or.inr (by decide)) (fun a ha => seq_w ht (by decide) (prt_ok ht D) (Or.inl (by decide)) hw a ha) a ha t
theorem prt_w {sg : Nat → Int} {tn : Nat} (ht : txt sg tn) : ∀ D a, a ≤ tn → (prt sg D a).1 = true → gwP (2 * D) (prt sg D a).2.2
  | 0, a, _, t => by
    unfold prt at t ⊢
    split at t
    · cases t
    · rename_i e
      rw [if_neg e]
      exact tst_w t
  | D + 1, a, ha, t => by
    unfold prt at t ⊢
    by_cases e1 : sg a = 40
    · rw [if_pos e1] at t ⊢
      have la := txt_lt ht (show 0 ≤ sg a by omega)
      by_cases w : (eitP sg (prt sg D) (a + 1)).1 = true
      · rw [if_pos w] at t ⊢
        by_cases e2 : sg (eitP sg (prt sg D) (a + 1)).2.1 = 41
        · rw [if_pos e2]
          exact eit_w ht (prt_w ht D) (a + 1) la w
        · rw [if_neg e2] at t; cases t
      · rw [if_neg w] at t; exact absurd t w
    · rw [if_neg e1] at t ⊢
      by_cases e2 : sg a = 33
      · rw [if_pos e2] at t ⊢
        have la := txt_lt ht (show 0 ≤ sg a by omega)
        by_cases w : (prt sg D (a + 1)).1 = true
        · rw [if_pos w]
          intro h rest hh
          rw [List.map_append, List.append_assoc, prt_w ht D (a + 1) la w h _ (by omega)]
          show (if (-33 : Int) = -33 then (Nat.blt 0 (h + 1) && wfz (h + 1) rest) else _) = _
          rw [if_pos rfl, show Nat.blt 0 (h + 1) = true from Nat.blt_eq.mpr (by omega)]
          rfl
        · rw [if_neg w] at t; exact absurd t w
      · rw [if_neg e2] at t ⊢
        exact gw_le (Nat.zero_le _) (tst_w t)
/-- what a clause that went is like -/
def gdQ (q : cl1) : Prop := (0 ≤ q.1 ∧ q.1 ≤ 4) ∧ (0 ≤ q.2.1 ∧ q.2.1 ≤ 99) ∧ (2 ≤ q.1 → q.2.2 = []) ∧ (q.1 < 2 → wfz 0 (q.2.2.map trC) = true)
theorem cls_gd {sg : Nat → Int} {tn a : Nat} (ht : txt sg tn) (ha : a ≤ tn) (t : (clsP sg a).1 = true) : gdQ (clsP sg a).2.2 := by
  have ck := cls_ok ht ha
  refine ⟨ck.2.2.2.2.1, ck.2.2.2.2.2.1, ?_, ?_⟩
  · clear ck
    unfold clsP at t ⊢
    by_cases w : (wordP sg a).1 = true
    · rw [if_pos w] at t ⊢
      cases e : numP sg (wordP sg a).2 with
      | none => rw [e] at t; cases t
      | some q =>
        obtain ⟨v, b⟩ := q
        rw [e] at t
        dsimp only at t ⊢
        by_cases k2 : 2 ≤ (wkP sg a).1
        · rw [if_pos k2]; exact fun _ => rfl
        · rw [if_neg k2] at t ⊢
          by_cases q : sg b = 32
          · rw [if_pos q]; exact fun z => absurd z k2
          · rw [if_neg q] at t; cases t
    · rw [if_neg w] at t; cases t
  · clear ck
    have hk := wk_k sg a
    have l1 := str_le ht (wkP sg a).2 a ha hk.2.2
    have l1 : a ≤ (wordP sg a).2 ∧ (wordP sg a).2 ≤ tn := l1
    unfold clsP at t ⊢
    by_cases w : (wordP sg a).1 = true
    · rw [if_pos w] at t ⊢
      cases e : numP sg (wordP sg a).2 with
      | none => rw [e] at t; cases t
      | some q =>
        obtain ⟨v, b⟩ := q
        rw [e] at t
        dsimp only at t ⊢
        by_cases k2 : 2 ≤ (wkP sg a).1
        · rw [if_pos k2]; exact fun z => absurd z (by show ¬ (wkP sg a).1 < 2; omega)
        · rw [if_neg k2] at t ⊢
          by_cases q : sg b = 32
          · rw [if_pos q] at t ⊢
            have lb := txt_lt ht (show 0 ≤ sg b by omega)
            intro _
            have g := eit_w ht (prt_w ht 4) (b + 1) lb t 0 [] (by decide)
            rw [List.append_nil] at g
            exact g
          · rw [if_neg q] at t; cases t
    · rw [if_neg w] at t; cases t
def snQ : List cl1 → Nat
  | [] => 0
  | q :: cs => q.2.2.length + snQ cs
theorem txt_gd {sg : Nat → Int} {tn : Nat} (ht : txt sg tn) : ∀ k a, a ≤ tn → (∀ q, q ∈ (txtP sg tn k a).2.2 → gdQ q) ∧ (txtP sg tn k a).2.2.length ≤ k ∧ a + snQ (txtP sg tn k a).2.2 ≤ (txtP sg tn k a).2.1 ∧ (txtP sg tn k a).2.1 ≤ tn
  | 0, a, ha => ⟨fun q h => (by cases h), Nat.le_refl _, Nat.le_refl _, ha⟩
  | k + 1, a, ha => by
    have ck := cls_ok ht ha
    unfold txtP
    by_cases t : (clsP sg a).1 = true
    · rw [if_pos t]
      have g := cls_gd ht ha t
      have one : ∀ q, q ∈ [(clsP sg a).2.2] → gdQ q := fun q h => by rw [List.mem_singleton] at h; rw [h]; exact g
      by_cases w : tn ≤ (clsP sg a).2.1
      · rw [if_pos w]
        refine ⟨one, (by show 1 ≤ k + 1; omega), ?_, ck.2.1⟩
        show a + ((clsP sg a).2.2.2.2.length + 0) ≤ (clsP sg a).2.1
        omega
      · rw [if_neg w]
        by_cases q : k = 0 ∨ sg (clsP sg a).2.1 ≠ 59
        · rw [if_pos q]
          refine ⟨one, (by show 1 ≤ k + 1; omega), ?_, ck.2.1⟩
          show a + ((clsP sg a).2.2.2.2.length + 0) ≤ (clsP sg a).2.1
          omega
        · rw [if_neg q]
          obtain ⟨h1, h2, h3, h4⟩ := txt_gd ht k ((clsP sg a).2.1 + 1) (by omega)
          refine ⟨fun q h => ?_, Nat.succ_le_succ h2, ?_, h4⟩
          · rcases List.mem_cons.mp h with h | h
            · rw [h]; exact g
            · exact h1 q h
          · show a + ((clsP sg a).2.2.2.2.length + snQ (txtP sg tn k ((clsP sg a).2.1 + 1)).2.2) ≤ (txtP sg tn k ((clsP sg a).2.1 + 1)).2.1
            omega
    · rw [if_neg t]
      exact ⟨fun q h => (by cases h), Nat.zero_le _, ck.1, ck.2.1⟩
/-! the office of a row of clauses -/
def wshQ : List cl1 → List (Int × List Int)
  | [] => []
  | q :: cs => (if q.1 < 2 then [(if q.1 = 0 then q.2.1 else -q.2.1, q.2.2.map trC)] else []) ++ wshQ cs
def lstQ (w : Int) : List cl1 → Int → Int
  | [], x => x
  | q :: cs, x => lstQ w cs (if q.1 = w then q.2.1 else x)
def m23 (x : Int) : Int := if x < 23 then x else 23
def offQ (cs : List cl1) : mO := (lstQ 2 cs 8, m23 (lstQ 3 cs 18), lstQ 4 cs 10, wshQ cs)
theorem lst_s (w : Int) (q : cl1) : ∀ (l : List cl1) (x : Int), lstQ w (l ++ [q]) x = if q.1 = w then q.2.1 else lstQ w l x
  | [], x => rfl
  | p :: l, x => lst_s w q l (if p.1 = w then p.2.1 else x)
theorem wsh_s (q : cl1) : ∀ l : List cl1, wshQ (l ++ [q]) = wshQ l ++ (if q.1 < 2 then [(if q.1 = 0 then q.2.1 else -q.2.1, q.2.2.map trC)] else [])
  | [] => by show _ ++ [] = [] ++ _; rw [List.append_nil]; rfl
  | p :: l => by
    show _ ++ wshQ (l ++ [q]) = (_ ++ wshQ l) ++ _
    rw [wsh_s q l, List.append_assoc]
theorem lst_bd (w : Int) : ∀ (cs : List cl1) (x : Int), (∀ q, q ∈ cs → gdQ q) → 0 ≤ x ∧ x ≤ 99 → 0 ≤ lstQ w cs x ∧ lstQ w cs x ≤ 99
  | [], x, _, h => h
  | q :: cs, x, g, h => by
    refine lst_bd w cs _ (fun r hr => g r (List.mem_cons_of_mem _ hr)) ?_
    by_cases e : q.1 = w
    · rw [if_pos e]; exact (g q List.mem_cons_self).2.1
    · rw [if_neg e]; exact h
theorem wsh_bd : ∀ cs : List cl1, (∀ q, q ∈ cs → gdQ q) → (wshQ cs).length ≤ cs.length ∧ ∀ w, w ∈ wshQ cs → (-99 ≤ w.1 ∧ w.1 ≤ 99) ∧ wfz 0 w.2 = true
  | [], _ => ⟨Nat.le_refl _, fun w h => (by cases h)⟩
  | q :: cs, g => by
    obtain ⟨h1, h2⟩ := wsh_bd cs (fun r hr => g r (List.mem_cons_of_mem _ hr))
    obtain ⟨g1, g2, g3, g4⟩ := g q List.mem_cons_self
    by_cases e : q.1 < 2
    · have ew : wshQ (q :: cs) = (if q.1 = 0 then q.2.1 else -q.2.1, q.2.2.map trC) :: wshQ cs := by
        show (if q.1 < 2 then _ else _) ++ wshQ cs = _
        rw [if_pos e]; rfl
      rw [ew]
      refine ⟨Nat.succ_le_succ h1, fun w hw => ?_⟩
      rcases List.mem_cons.mp hw with hw | hw
      · rw [hw]
        refine ⟨?_, g4 e⟩
        dsimp only
        split <;> omega
      · exact h2 w hw
    · have ew : wshQ (q :: cs) = wshQ cs := by
        show (if q.1 < 2 then _ else _) ++ wshQ cs = _
        rw [if_neg e]; rfl
      rw [ew]
      exact ⟨Nat.le_succ_of_le h1, h2⟩
theorem off_ok {cs : List cl1} (g : ∀ q, q ∈ cs → gdQ q) (hl : cs.length ≤ 10) : okO (offQ cs) := by
  have w := wsh_bd cs g
  have l3 := lst_bd 3 cs 18 g (by decide)
  refine ⟨lst_bd 2 cs 8 g (by decide), ?_, lst_bd 4 cs 10 g (by decide), Nat.le_trans w.1 hl, w.2⟩
  show 0 ≤ m23 (lstQ 3 cs 18) ∧ m23 (lstQ 3 cs 18) < 24
  unfold m23
  split <;> omega
/-! the reference's -/
theorem codesF_l {J : mI} : ∀ (l : List Int) (b : Nat), (∀ i, i < l.length → J 116 (b + i) = l.getD i 0) → codesF J b l.length = l
  | [], _, _ => rfl
  | x :: l, b, h => by
    show J 116 b :: codesF J (b + 1) l.length = x :: l
    rw [show J 116 b = x from h 0 (Nat.succ_pos _), codesF_l l (b + 1) (fun i hi => by
      have := h (i + 1) (Nat.succ_lt_succ hi)
      rw [show b + 1 + i = b + (i + 1) by omega]
      exact this)]
theorem off_ref {J : mI} {f : Nat} {cs : List cl1} (hf : f < 6) (g : ∀ q, q ∈ cs → gdQ q) (hl : cs.length ≤ 10) (h111 : J 111 f = ((cs.length : Nat) : Int)) (hen : ∀ j, j < cs.length → ∃ b, entM J (10 * f + j) b (cs.getD j (0, 0, []))) (h115 : ∀ k, 10 * f ≤ k → k < 10 * f + 10 → J 115 k ≤ ((100 * f + 100 : Nat) : Int)) (h113 : ∀ i, i < 60 → 0 ≤ J 113 i ∧ J 113 i ≤ 99) (h26 : J 104 26 = -1) : oI (up2 J 104 10 (f : Int)) ∧ offM (up2 J 104 10 (f : Int)) = offQ cs := by
  generalize hI : up2 J 104 10 (f : Int) = I
  have n : ∀ x k, x ≠ 104 → I x k = J x k := fun x k q => by rw [← hI]; exact up2_nj q
  have f10 : I 104 10 = (f : Int) := by rw [← hI, up2_same]
  have f26 : I 104 26 = -1 := by rw [← hI, up2_at (by decide)]; exact h26
  clear hI
  have hb : bM I = 10 * f := by unfold bM; rw [f10, if_neg (by omega), Int.toNat_natCast]
  have hk : kM I = cs.length := by unfold kM; rw [f10, if_neg (by omega), Int.toNat_natCast, n _ _ (by decide), h111, Int.toNat_natCast]
  have ent : ∀ j, j < cs.length → gdQ (cs.getD j (0, 0, [])) ∧ I 112 (10 * f + j) = (cs.getD j (0, 0, [])).1 ∧ I 113 (10 * f + j) = (cs.getD j (0, 0, [])).2.1 ∧ ((cs.getD j (0, 0, [])).1 < 2 → (0 ≤ I 114 (10 * f + j) ∧ I 114 (10 * f + j) ≤ I 115 (10 * f + j) ∧ I 115 (10 * f + j) ≤ 600) ∧ codesM I (10 * f + j) = (cs.getD j (0, 0, [])).2.2.map trC) := by
    intro j hj
    obtain ⟨b, e1, e2, e3, e4⟩ := hen j hj
    have gq : gdQ (cs.getD j (0, 0, [])) := by
      refine g _ ?_
      rw [List.getD_eq_getElem?_getD, List.getElem?_eq_getElem hj]
      exact List.getElem_mem hj
    refine ⟨gq, by rw [n _ _ (by decide)]; exact e1, by rw [n _ _ (by decide)]; exact e2, fun k2 => ?_⟩
    obtain ⟨a1, a2⟩ := e3 k2
    have b5 := h115 (10 * f + j) (by omega) (by omega)
    unfold codesM
    rw [n 114 _ (by decide), n 115 _ (by decide), a1, a2]
    rw [a2] at b5
    refine ⟨by omega, ?_⟩
    rw [Int.toNat_natCast, Int.toNat_natCast, Nat.add_sub_cancel_left]
    exact codesF_l _ b (fun i hi => by rw [n _ _ (by decide)]; exact e4 i hi)
  refine ⟨⟨⟨by omega, fun _ => ?_⟩, fun i hi => by rw [n _ _ (by decide)]; exact h113 i hi, fun i hi => ?_, by omega⟩, ?_⟩
  · rw [f10, Int.toNat_natCast, n _ _ (by decide), h111]; omega
  · rw [hk] at hi
    obtain ⟨⟨q1, q2, q3, q4⟩, e1, e2, e3⟩ := ent i hi
    rw [hb, e1]
    refine ⟨q1.1, fun k1 => ?_⟩
    obtain ⟨c1, c2⟩ := e3 (by omega)
    exact ⟨c1.1, c1.2.1, c1.2.2, by rw [c2]; exact q4 (by omega)⟩
  · have last : ∀ w x k, k ≤ cs.length → lastM I w (10 * f) k x = lstQ w (cs.take k) x := by
      intro w x k
      induction k with
      | zero => exact fun _ => rfl
      | succ k ih =>
        intro h
        rw [take_s (0, 0, []) cs k (by omega), lst_s]
        obtain ⟨_, e1, e2, _⟩ := ent k (by omega)
        show (if I 112 (10 * f + k) = w then I 113 (10 * f + k) else lastM I w (10 * f) k x) = _
        rw [e1, e2, ih (by omega)]
    have wish : ∀ k, k ≤ cs.length → wishM I (10 * f) k = wshQ (cs.take k) := by
      intro k
      induction k with
      | zero => exact fun _ => rfl
      | succ k ih =>
        intro h
        rw [take_s (0, 0, []) cs k (by omega), wsh_s]
        obtain ⟨_, e1, e2, e3⟩ := ent k (by omega)
        show wishM I (10 * f) k ++ (if I 112 (10 * f + k) ≤ 1 then [((if I 112 (10 * f + k) = 0 then I 113 (10 * f + k) else -(I 113 (10 * f + k))), codesM I (10 * f + k))] else []) = _
        rw [e1, e2, ih (by omega)]
        by_cases q : (cs.getD k (0, 0, [])).1 < 2
        · rw [if_pos (by omega), if_pos q, (e3 q).2]
        · rw [if_neg (by omega), if_neg q]
    unfold offM
    rw [hb, hk, f26, if_neg (by decide), last _ _ _ (Nat.le_refl _), last _ _ _ (Nat.le_refl _), last _ _ _ (Nat.le_refl _), wish _ (Nat.le_refl _), List.take_length]
    rfl
/-! the class's -/
def pcs : Nat → List (Int × Nat) → List Int → List (Int × List Int)
  | _, [], _ => []
  | f, p :: ws, l => (p.1, ((l.drop f).take (p.2 - f)).map trC) :: pcs p.2 ws l
def lsE : Nat → List (Int × Nat) → Nat
  | f, [] => f
  | _, p :: ws => lsE p.2 ws
def srt : Nat → List (Int × Nat) → Nat → Prop
  | f, [], n => f ≤ n
  | f, p :: ws, n => f ≤ p.2 ∧ srt p.2 ws n
theorem srt_n : ∀ (ws : List (Int × Nat)) (f n : Nat), srt f ws n → f ≤ n
  | [], _, _, h => h
  | p :: ws, f, n, h => Nat.le_trans h.1 (srt_n ws p.2 n h.2)
theorem pcs_a (c : List Int) : ∀ (ws : List (Int × Nat)) (f : Nat) (l : List Int), srt f ws l.length → pcs f ws (l ++ c) = pcs f ws l
  | [], _, _, _ => rfl
  | p :: ws, f, l, h => by
    have h1 := srt_n ws _ _ h.2
    show (p.1, (((l ++ c).drop f).take (p.2 - f)).map trC) :: pcs p.2 ws (l ++ c) = (p.1, ((l.drop f).take (p.2 - f)).map trC) :: pcs p.2 ws l
    rw [pcs_a c ws p.2 l h.2, List.drop_append_of_le_length (Nat.le_trans h.1 h1), List.take_append_of_le_length (by rw [List.length_drop]; have := h.1; omega)]
theorem pcs_s (p : Int × Nat) (l : List Int) : ∀ (ws : List (Int × Nat)) (f : Nat), pcs f (ws ++ [p]) l = pcs f ws l ++ [(p.1, ((l.drop (lsE f ws)).take (p.2 - lsE f ws)).map trC)]
  | [], _ => rfl
  | q :: ws, f => by
    show _ :: pcs q.2 (ws ++ [p]) l = _ :: (pcs q.2 ws l ++ _)
    rw [pcs_s p l ws q.2]
    rfl
theorem lsE_s (p : Int × Nat) : ∀ (ws : List (Int × Nat)) (f : Nat), lsE f (ws ++ [p]) = p.2
  | [], _ => rfl
  | q :: ws, _ => lsE_s p ws q.2
theorem srt_s {n m : Nat} (w : Int) (h : n ≤ m) : ∀ (ws : List (Int × Nat)) (f : Nat), srt f ws n → srt f (ws ++ [(w, m)]) m
  | [], _, k => ⟨Nat.le_trans k h, Nat.le_refl _⟩
  | q :: ws, _, k => ⟨k.1, srt_s w h ws q.2 k.2⟩
theorem srt_g : ∀ (ws : List (Int × Nat)) (f n k : Nat), srt f ws n → k < ws.length → lsE f (ws.take k) ≤ (ws.getD k (0, 0)).2 ∧ (ws.getD k (0, 0)).2 ≤ n
  | [], _, _, _, _, h => absurd h (Nat.not_lt_zero _)
  | q :: ws, _, n, 0, h, _ => ⟨h.1, srt_n ws _ _ h.2⟩
  | q :: ws, _, n, k + 1, h, hk => srt_g ws q.2 n k h.2 (Nat.lt_of_succ_lt_succ hk)
theorem acc_fold : ∀ (cs : List cl1) (s : oS) (x : Int), (∀ q, q ∈ cs → gdQ q) → s.2.1 = m23 x → srt 0 s.2.2.2.1 s.2.2.2.2.length → lsE 0 s.2.2.2.1 = s.2.2.2.2.length →
    (cs.foldl acc1 s).1 = lstQ 2 cs s.1 ∧ (cs.foldl acc1 s).2.1 = m23 (lstQ 3 cs x) ∧ (cs.foldl acc1 s).2.2.1 = lstQ 4 cs s.2.2.1 ∧ pcs 0 (cs.foldl acc1 s).2.2.2.1 (cs.foldl acc1 s).2.2.2.2 = pcs 0 s.2.2.2.1 s.2.2.2.2 ++ wshQ cs ∧ srt 0 (cs.foldl acc1 s).2.2.2.1 (cs.foldl acc1 s).2.2.2.2.length ∧ (cs.foldl acc1 s).2.2.2.2.length = s.2.2.2.2.length + snQ cs ∧ (cs.foldl acc1 s).2.2.2.1.length ≤ s.2.2.2.1.length + cs.length
  | [], s, x, _, h1, h2, _ => ⟨rfl, h1, rfl, (List.append_nil _).symm, h2, rfl, Nat.le_refl _⟩
  | q :: cs, s, x, g, h1, h2, h3 => by
    obtain ⟨g1, g2, g3, g4⟩ := g q List.mem_cons_self
    have e1 : (acc1 s q).2.1 = m23 (if q.1 = 3 then q.2.1 else x) := by
      show (if q.1 = 3 then (if 23 < q.2.1 then 23 else q.2.1) else s.2.1) = _
      by_cases e : q.1 = 3
      · rw [if_pos e, if_pos e]; unfold m23; split <;> split <;> omega
      · rw [if_neg e, if_neg e]; exact h1
    have e2 : srt 0 (acc1 s q).2.2.2.1 (acc1 s q).2.2.2.2.length ∧ lsE 0 (acc1 s q).2.2.2.1 = (acc1 s q).2.2.2.2.length ∧ pcs 0 (acc1 s q).2.2.2.1 (acc1 s q).2.2.2.2 = pcs 0 s.2.2.2.1 s.2.2.2.2 ++ (if q.1 < 2 then [(if q.1 = 0 then q.2.1 else -q.2.1, q.2.2.map trC)] else []) := by
      have el := acc_l s q
      have e4 : (acc1 s q).2.2.2.2 = s.2.2.2.2 ++ q.2.2 := rfl
      by_cases e : q.1 < 2
      · have e3 : (acc1 s q).2.2.2.1 = s.2.2.2.1 ++ [(if q.1 = 0 then q.2.1 else -q.2.1, (s.2.2.2.2 ++ q.2.2).length)] := if_pos e
        rw [e3, e4, if_pos e, lsE_s, pcs_s, pcs_a _ _ _ _ h2, h3]
        refine ⟨srt_s _ (by rw [List.length_append]; omega) _ _ h2, rfl, ?_⟩
        dsimp only
        rw [List.length_append, Nat.add_sub_cancel_left, List.drop_append_of_le_length (Nat.le_refl _), List.drop_length, List.nil_append, List.take_length]
      · have e3 : (acc1 s q).2.2.2.1 = s.2.2.2.1 := if_neg e
        have e5 : q.2.2 = [] := g3 (by omega)
        rw [e3, e4, e5, List.append_nil, if_neg e, List.append_nil]
        exact ⟨h2, h3, rfl⟩
    obtain ⟨r1, r2, r3, r4, r5, r6, r7⟩ := acc_fold cs (acc1 s q) _ (fun r hr => g r (List.mem_cons_of_mem _ hr)) e1 e2.1 e2.2.1
    have al := acc_l s q
    have aw := acc_ws s q
    refine ⟨r1, r2, r3, ?_, r5, ?_, ?_⟩
    · show pcs 0 (cs.foldl acc1 (acc1 s q)).2.2.2.1 (cs.foldl acc1 (acc1 s q)).2.2.2.2 = _ ++ (_ ++ wshQ cs)
      rw [r4, e2.2.2, List.append_assoc]
    · show (cs.foldl acc1 (acc1 s q)).2.2.2.2.length = _ + (q.2.2.length + snQ cs)
      rw [r6, al]; omega
    · show (cs.foldl acc1 (acc1 s q)).2.2.2.1.length ≤ _ + (cs.length + 1)
      omega
theorem codesG_l {I : mI} {a : Nat} {l : List Int} (h : ∀ i, i < l.length → I a i = l.getD i 0) : ∀ (m f : Nat), f + m ≤ l.length → codesG I a f m = ((l.drop f).take m).map trC
  | 0, f, _ => by rw [List.take_zero]; rfl
  | m + 1, f, hf => by
    show trC (I a f) :: codesG I a (f + 1) m = _
    rw [codesG_l h m (f + 1) (by omega), drop_getD (show f < l.length by omega), h f (by omega)]
    rfl
theorem off_cls {I : mI} {h : Nat} {cs : List cl1} (hI : OfI I h (cs.foldl acc1 (8, 18, 10, [], []))) (g : ∀ q, q ∈ cs → gdQ q) (hl : cs.length ≤ 10) (hn : snQ cs ≤ 100) (hB : BdC I h) : oC I h ∧ offC I h = offQ cs := by
  obtain ⟨r1, r2, r3, r4, r5, r6, r7⟩ := acc_fold cs (8, 18, 10, [], []) 18 g rfl (Nat.le_refl _) rfl
  generalize cs.foldl acc1 (8, 18, 10, [], []) = s at *
  obtain ⟨h0, h1, h2, ⟨m1, m2⟩, ⟨w1, w2⟩⟩ := hI
  have hw : s.2.2.2.1.length ≤ 10 := by
    have : s.2.2.2.1.length ≤ 0 + cs.length := r7
    omega
  have hll : s.2.2.2.2.length ≤ 100 := by
    have : s.2.2.2.2.length = 0 + snQ cs := r6
    omega
  have fr : ∀ k, k ≤ s.2.2.2.1.length → fromC I h k = lsE 0 (s.2.2.2.1.take k) := by
    intro k hk
    cases k with
    | zero => rfl
    | succ k =>
      rw [take_s (0, 0) _ k (by omega), lsE_s]
      show (I (h + 2) k).toNat = _
      rw [(w2 k (by omega)).2, Int.toNat_natCast]
  have pc : ∀ k, k ≤ s.2.2.2.1.length → wishC I h k = pcs 0 (s.2.2.2.1.take k) s.2.2.2.2 := by
    intro k
    induction k with
    | zero => exact fun _ => rfl
    | succ k ih =>
      intro hk
      have sg := srt_g _ _ _ k r5 (by omega)
      have f1 := fr k (by omega)
      have f2 : fromC I h (k + 1) = (s.2.2.2.1.getD k (0, 0)).2 := by
        show (I (h + 2) k).toNat = _
        rw [(w2 k (by omega)).2, Int.toNat_natCast]
      rw [take_s (0, 0) _ k (by omega), pcs_s]
      show wishC I h k ++ [(I (h + 1) k, codesG I (h + 3) (fromC I h k) (fromC I h (k + 1) - fromC I h k))] = _
      rw [ih (by omega), (w2 k (by omega)).1, codesG_l m2 _ _ (by omega), f1, f2]
  have eo : offC I h = offQ cs := by
    unfold offC
    rw [h0, h1, h2, w1, Int.toNat_natCast, pc _ (Nat.le_refl _), List.take_length, r1, r2, r3, r4]
    rfl
  refine ⟨⟨by rw [eo]; exact off_ok g hl, by rw [w1]; omega, fun k hk => ?_, hB⟩, eo⟩
  rw [w1, Int.toNat_natCast] at hk
  have sg := srt_g _ _ _ k r5 hk
  have f1 := fr k (by omega)
  have f2 : fromC I h (k + 1) = (s.2.2.2.1.getD k (0, 0)).2 := by
    show (I (h + 2) k).toNat = _
    rw [(w2 k hk).2, Int.toNat_natCast]
  rw [(w2 k hk).2, f1, f2]
  omega
