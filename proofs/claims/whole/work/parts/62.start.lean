/-! THE CLAIM OUT OF ONE WALK OF THE LAW'S BODY. Your part is whole_start (and what it stands on); all else here is the same for every law, but numbers. -/
def R_law : String := "ExemptBeautyLaw"
def lw_P (b : Addr) (xs : List Int32) (args : Array Value) (s : State) : Prop := args = #[.ref b] ∧ s.IntsAt b xs ∧ xs.length ≤ 3072 ∧ (Jvm.Cond.and given_1 narrow_1).before args s = true
def lw_Q (_ : Array Value) (s : State) (o : Outcome) (t : State) : Prop := o = .returned (some (.int 1)) ∧ Framed s o t [] 600000 7302250
def lw_Z (below : List Frame) (a : Array Value) (s : State) : State → Prop := fun t => ∃ o, t.status = .running ∧ Ended t below o ∧ lw_Q a s o t
/-- the law's own end, with 1 on the stack, nothing written that was there before, its room as the claim has it -/
theorem lw_ret {p : Program} {l : Launch} {e : Env} {s : State} {m : MethodId} {below : List Frame} {meth : Method} {c : Code} {b : Nat} (hx : p.tables.exec = Jvm.exec) (hb : c.code = code) (hr : meth.sig.returnType = ret) (hlocks : meth.locks = false) {pc : Nat} {H : Heap} {ls : Array Slot} (hdg : decode code pc = .ok (.ireturn, 1)) : W p l e room_1 s m #[Value.ref b] below meth c H [] 600000 7302250 (lw_Z below #[Value.ref b] s) (F0 m pc ls [.int 1]) := by
  intro T hT X
  obtain ⟨fs, hret, hrun, hended, hW, hframe⟩ := X.leave (v := some (.int 1)) (hlocks := hlocks) (fun h => by rw [hr] at h; cases h)
  have hmeth' : T.vm.method? m = some meth := X.method'
  refine ⟨T.setFrames fs, ?_, .returned (some (.int 1)), hrun, hended, rfl, ⟨_, rfl⟩, hW, hframe⟩
  jvm_step X.here [X.here.top, hx, hb, hdg, hmeth', hr, ret, narrow_b1]
  (try refine ⟨rfl, ?_⟩); (try refine ⟨rfl, ?_⟩)
  first | (intro acts; rw [hret _ acts rfl rfl rfl]) | rw [hret _ _ rfl rfl rfl]
  exact Steps.refl _
/-- what holds at the law's entry: the machine, the code, the tables' words (any of lw_tbl by 'hts w (by decide +kernel)'), the script of L ints xs at the cell b, what the Statement gives of the start (any of its parts by flat_of_before) -/
def lw_At (p : Program) (s : State) (m : MethodId) (meth : Method) (c : Code) (b L : Nat) (xs : Nat → Int32) : Prop :=
  p.tables.exec = Jvm.exec ∧ c.code = code ∧ meth.sig.returnType = ret ∧ c.maxLocals = 4 ∧ s.vm.findClass R_law = some m.cls ∧ (∀ w ∈ lw_tbl, w.before #[Value.ref b] s = true) ∧ va_X b L xs s s.heap ∧ b < s.heap.size ∧ meth.locks = false ∧ (Jvm.Cond.and given_1 narrow_1).before #[Value.ref b] s = true
/-! ===== the start: what the Statement gives of it, as cells ===== -/
def sTm (i : Nat) : Term := .string "ExemptBeauty$Reader" ([84, 90, 92, 94, 96, 98].getD i 84)
def sLen : List Nat := [4, 5, 4, 2, 2, 4]
def sByt : List (List Int32) := [[105, 110, 100, 32], [97, 115, 116, 101, 32], [97, 116, 101, 32], [108, 105], [101, 32], [103, 104, 116, 32]]
def sFl : List Cond := flatC (Jvm.Cond.and given_1 narrow_1)
def sNt (i j : Nat) : Cond := .not (.eq (sTm i) (sTm j))
def sStr (i : Nat) : Term := .field (sTm i) "java/lang/String" "value" "[B"
theorem sf_1 : ∀ i, i < 6 → Cond.exactly (sTm i) "java/lang/String" ∈ sFl := by decide +kernel
theorem sf_2 : ∀ i, i < 6 → Cond.eq (.field (sTm i) "java/lang/String" "coder" "B") (.int 0) ∈ sFl := by decide +kernel
theorem sf_3 : ∀ i, i < 6 → Cond.arrayOf (.field (sTm i) "java/lang/String" "value" "[B") .byte ∈ sFl := by decide +kernel
theorem sf_4 : ∀ i, i < 6 → Cond.eq (.length (.field (sTm i) "java/lang/String" "value" "[B")) (.int (Int32.ofNat (sLen.getD i 0))) ∈ sFl := by decide +kernel
theorem sf_5 : ∀ i, i < 6 → ∀ j, j < sLen.getD i 0 → Cond.eq (.elem (.field (sTm i) "java/lang/String" "value" "[B") (.int (Int32.ofNat j))) (.int ((sByt.getD i []).getD j 0)) ∈ sFl := by decide +kernel
theorem sf_6 : ∀ i, i < 6 → ∀ j, j < 6 → i ≠ j → Cond.not (Cond.eq (sTm i) (sTm j)) ∈ sFl ∨ Cond.not (Cond.eq (sTm j) (sTm i)) ∈ sFl := by decide +kernel
theorem sf_7 : ∀ i, i < 6 → sLen.getD i 0 < 2 ^ 31 := by decide +kernel
theorem sf_8 : Cond.arrayOf (.static "ExemptBeauty" "ABOVE" "[I") .int ∈ sFl ∧ Cond.eq (.length (.static "ExemptBeauty" "ABOVE" "[I")) (.int (Int32.ofNat 7)) ∈ sFl ∧ ∀ j, j < 7 → Cond.eq (.elem (.static "ExemptBeauty" "ABOVE" "[I") (.int (Int32.ofNat j))) (.int (Int32.ofInt (aboT.getD j 0))) ∈ sFl := by decide +kernel
theorem sf_9 : Cond.arrayOf (.static "ExemptBeauty" "BODIES" "[I") .int ∈ sFl ∧ Cond.eq (.length (.static "ExemptBeauty" "BODIES" "[I")) (.int (Int32.ofNat 21)) ∈ sFl ∧ ∀ j, j < 21 → Cond.eq (.elem (.static "ExemptBeauty" "BODIES" "[I") (.int (Int32.ofNat j))) (.int (Int32.ofInt (bodT.getD j 0))) ∈ sFl := by decide +kernel
theorem sf_A : Cond.eq (.static "java/lang/String" "COMPACT_STRINGS" "Z") (.int 1) ∈ sFl ∧ Cond.isRef (.static "jdk/internal/util/Preconditions" "SIOOBE_FORMATTER" "Ljava/util/function/BiFunction;") ∈ sFl := by decide +kernel
theorem sw_1 : Cond.laysStatic "java/lang/String" "COMPACT_STRINGS" "Z" ∈ lw_tbl ∧ Cond.initialized "java/lang/String" ∈ lw_tbl ∧ Cond.laysStatic "ExemptBeauty" "ABOVE" "[I" ∈ lw_tbl ∧ Cond.laysStatic "ExemptBeauty" "BODIES" "[I" ∈ lw_tbl ∧ Cond.initialized "ExemptBeauty" ∈ lw_tbl ∧ Cond.laysStatic "jdk/internal/util/Preconditions" "SIOOBE_FORMATTER" "Ljava/util/function/BiFunction;" ∈ lw_tbl ∧ Cond.initialized "jdk/internal/util/Preconditions" ∈ lw_tbl := by decide +kernel
theorem sw_2 : ∀ w ∈ mNestL, w.onTables = true ∧ w ∈ lw_tbl := by decide +kernel
theorem sw_3 : (Cond.fieldLinkNest RX0 28 "ExemptBeauty" "BODIES" "[I" "ExemptBeauty" ∈ lw_tbl ∧ Cond.fieldLinkNest RX0 35 "ExemptBeauty" "ABOVE" "[I" "ExemptBeauty" ∈ lw_tbl) ∧ Cond.arrayOver (.object RX2) ∈ lw_tbl ∧ Cond.arrayOver (.object RX3) ∈ lw_tbl ∧ Cond.arrayOver (.object RX6) ∈ lw_tbl := by decide +kernel
theorem sw_4 : ∀ q ∈ mStr, Cond.stringRef RX4 q.1 q.2.2 ∈ lw_tbl ∧ 3 ≤ q.2.1 ∧ q.2.1 < 9 ∧ sTm (q.2.1 - 3) = .string RX4 q.1 := by decide +kernel
theorem sb_1 : ∀ i, i < 6 → ∀ j, j < sLen.getD i 0 → (sByt.getD i []).getD j 0 = Int32.ofInt ((byT.getD i []).getD j 0) := by decide +kernel
theorem sb_2 : ∀ i, i < 6 → ∀ n, LN n (9 + i) = sLen.getD i 0 := by
  intro i hi n
  rcases i with _ | _ | _ | _ | _ | _ | i
  all_goals first | rfl | omega
theorem va_Tcg {ty : FieldType} {t N : Nat} {f g : Nat → Value} {A : Nat → Prop} {U : State} {H : Heap} (e : ∀ j, j < N → f j = g j) (h : va_T ty t N f A U H) : va_T ty t N g A U H := by
  obtain ⟨cell, h1, h2, h3, h4, h5, h6, h7⟩ := h
  exact ⟨cell, h1, h2, h3, h4, h5, fun j hj => by rw [← e j hj]; exact h6 j hj, h7⟩
/-- the cells at the start -/
def sI (xs : Nat → Int32) : mI := fun h j => if h = 0 then (xs j).toInt else if h = 1 then aboT.getD j 0 else if h = 2 then bodT.getD j 0 else if 9 ≤ h ∧ h < 15 then (byT.getD (h - 9) []).getD j 0 else 0
def sAd (b a1 a2 : Nat) (k v : Nat → Nat) : Nat → Nat := fun h => if h = 0 then b else if h = 1 then a1 else if h = 2 then a2 else if h < 9 then k (h - 3) else v (h - 9)
theorem getD_bd {l : List Int} (h : ∀ x, x ∈ l → -2147483648 ≤ x ∧ x < 2147483648) (j : Nat) : -2147483648 ≤ l.getD j 0 ∧ l.getD j 0 < 2147483648 := by
  by_cases w : j < l.length
  · rw [List.getD_eq_getElem?_getD, List.getElem?_eq_getElem w]
    exact h _ (List.getElem_mem w)
  · rw [List.getD_eq_getElem?_getD, List.getElem?_eq_none (by omega)]
    decide
theorem sI_bd (xs : Nat → Int32) (h j : Nat) : -2147483648 ≤ sI xs h j ∧ sI xs h j < 2147483648 := by
  unfold sI
  by_cases h0 : h = 0
  · rw [if_pos h0]; exact toInt_rng _
  · rw [if_neg h0]
    by_cases h1 : h = 1
    · rw [if_pos h1]; exact getD_bd (by decide +kernel) j
    · rw [if_neg h1]
      by_cases h2 : h = 2
      · rw [if_pos h2]; exact getD_bd (by decide +kernel) j
      · rw [if_neg h2]
        by_cases h9 : 9 ≤ h ∧ h < 15
        · rw [if_pos h9]
          have t : ∀ i, i < 6 → ∀ x, x ∈ byT.getD i [] → -2147483648 ≤ x ∧ x < 2147483648 := by decide +kernel
          exact getD_bd (t (h - 9) (by omega)) j
        · rw [if_neg h9]; decide
theorem sI_0 (xs : Nat → Int32) (j : Nat) : sI xs 0 j = (xs j).toInt := if_pos rfl
theorem sI_z (xs : Nat → Int32) : st0 (sI xs) := by
  refine ⟨fun h k hh => ?_, ⟨fun k _ => ?_, fun k _ => ?_⟩, fun j hj => ⟨?_, fun k _ => ?_⟩⟩
  · unfold sI
    rw [if_neg (by omega), if_neg (by omega), if_neg (by omega), if_neg (by omega)]
  · rfl
  · rfl
  · unfold sI
    rw [if_neg (by omega), if_neg (by omega), if_neg (by omega), if_neg (by omega)]
  · unfold sI
    rw [if_neg (by omega), if_neg (by omega), if_neg (by omega), if_pos (by omega), show 9 + j - 9 = j by omega]
theorem sR_ok : ∀ h k b, rf0 h k = some b → b < 16 := by
  intro h k b e
  by_cases w : 9 ≤ h ∨ k ≠ 1
  · rw [rf0_no w] at e; cases e
  · unfold rf0 at e
    cases q : (Nat.ble 3 h && Nat.blt h 9 && Nat.beq k 1)
    · rw [q] at e; cases e
    · rw [q] at e
      cases e
      omega
theorem sOk (xs : Nat → Int32) : okH (sI xs, fun _ _ => 0, rf0, 16) := ⟨Nat.le_refl _, sI_bd xs, sR_ok, fun h hh k => ⟨(sI_z xs).1 h k hh, rfl, rf0_no (Or.inl (by have : 16 ≤ h := hh; omega))⟩⟩
/-- what stays: tables, texts, the script -/
theorem st_all {p : Program} {s : State} {m : MethodId} {meth : Method} {c : Code} {b L : Nat} {xs : Nat → Int32} (hL : L ≤ 3072) (C0 : lw_At p s m meth c b L xs) : ∃ ad : Nat → Nat, ad 0 = b ∧ mNest ad s ∧ mRO L ad (sI xs, fun _ _ => 0, rf0, 16) (fun q => s.heap.size ≤ q) s s.heap := by
  obtain ⟨hx, hb, hr, hml, hown, hts, hX, hbl, hlocks, hgv⟩ := id C0
  have hf : ∀ w ∈ sFl, w.before #[Value.ref b] s = true := flat_of_before _ hgv
  have hA : ∀ a : Nat, a < s.heap.size → ¬ (fun q : Nat => s.heap.size ≤ q) a := fun a h => Nat.not_le.mpr h
  obtain ⟨adK, adV, ⟨hS, _⟩, hE⟩ := vk_Sof (args := #[Value.ref b]) (s := s) (N := 6) (tm := sTm) (len := sLen) (byt := sByt) (A := fun q => s.heap.size ≤ q) sf_7 (fun i hi => hf _ (sf_1 i hi)) (fun i hi => hf _ (sf_2 i hi)) (fun i hi => hf _ (sf_3 i hi)) (fun i hi => hf _ (sf_4 i hi)) (fun i hi j hj => hf _ (sf_5 i hi j hj)) (fun i j hi hj e => (sf_6 i hi j hj e).imp (fun h => hf _ h) (fun h => hf _ h)) hA
  obtain ⟨a1, e1, t1⟩ := va_Tof (args := #[Value.ref b]) (s := s) (tm := .static "ExemptBeauty" "ABOVE" "[I") (ty := .int) (N := 7) (f := fun j => .int (Int32.ofInt (aboT.getD j 0))) (A := fun q => s.heap.size ≤ q) (by decide) (hf _ sf_8.1) (va_eqt (hf _ sf_8.2.1)) (fun j hj => va_eqt (hf _ (sf_8.2.2 j hj))) hA
  obtain ⟨a2, e2, t2⟩ := va_Tof (args := #[Value.ref b]) (s := s) (tm := .static "ExemptBeauty" "BODIES" "[I") (ty := .int) (N := 21) (f := fun j => .int (Int32.ofInt (bodT.getD j 0))) (A := fun q => s.heap.size ≤ q) (by decide) (hf _ sf_9.1) (va_eqt (hf _ sf_9.2.1)) (fun j hj => va_eqt (hf _ (sf_9.2.2 j hj))) hA
  have adk : ∀ i, i < 6 → sAd b a1 a2 adK adV (3 + i) = adK i := fun i hi => by
    unfold sAd
    rw [if_neg (by omega), if_neg (by omega), if_neg (by omega), if_pos (by omega), show 3 + i - 3 = i by omega]
  have adv : ∀ i, sAd b a1 a2 adK adV (9 + i) = adV i := fun i => by
    unfold sAd
    rw [if_neg (by omega), if_neg (by omega), if_neg (by omega), if_neg (by omega), show 9 + i - 9 = i by omega]
  refine ⟨sAd b a1 a2 adK adV, rfl, ⟨fun q hq => ?_, fun w hw => va_Nw.of (sw_2 w hw).1 (hts w (sw_2 w hw).2), va_Nw.of rfl (hts _ sw_3.1.1), va_Nw.of rfl (hts _ sw_3.1.2), va_AO.of (hts _ sw_3.2.1), va_AO.of (hts _ sw_3.2.2.1), va_AO.of (hts _ sw_3.2.2.2)⟩, ?_, t1, t2, fun i hi => ?_, va_Zof (hts _ sw_1.1) (hts _ sw_1.2.1) (va_eqt (hf _ sf_A.1)) hA, va_Zref (hts _ sw_1.2.2.1) (hts _ sw_1.2.2.2.2.1) e1 hA, va_Zref (hts _ sw_1.2.2.2.1) (hts _ sw_1.2.2.2.2.1) e2 hA, va_Zqof (hts _ sw_1.2.2.2.2.2.1) (hts _ sw_1.2.2.2.2.2.2) (hf _ sf_A.2) hA, by omega⟩
  · obtain ⟨w1, w2, w3, w4⟩ := sw_4 q hq
    have := adk (q.2.1 - 3) (by omega)
    rw [show 3 + (q.2.1 - 3) = q.2.1 by omega] at this
    rw [this]
    refine vk_R.of (hts _ w1) ?_
    have h := hE (q.2.1 - 3) (by omega)
    rw [w4] at h
    exact h
  · obtain ⟨scr, x1, x2, x3, x4, x5⟩ := hX
    refine ⟨scr, x1, x2, x3, (by rw [x4]; exact Nat.le_refl _), (by rw [x4]), fun j hj => ?_, Nat.not_le.mpr hbl⟩
    rw [x5 j hj]
    show some (Value.int (xs j)) = some (Value.int (Int32.ofInt (sI xs 0 j)))
    rw [sI_0, ofInt_toInt32]
  · obtain ⟨g1, g2, g3, g4⟩ := hS i hi
    have z0 : sI xs (3 + i) 0 = 0 := by
      unfold sI
      rw [if_neg (by omega), if_neg (by omega), if_neg (by omega), if_neg (by omega)]
    have r1 : rf0 (3 + i) 1 = some (9 + i) := by
      rcases i with _ | _ | _ | _ | _ | _ | i
      all_goals first | rfl | omega
    refine ⟨by rw [adk i hi]; exact g1, ?_, ?_, ?_⟩
    · show va_OF "java/lang/String" "coder" "B" (.int (Int32.ofInt (sI xs (3 + i) 0))) (sAd b a1 a2 adK adV (3 + i)) (fun q => s.heap.size ≤ q) s s.heap
      rw [adk i hi, z0]
      exact g2
    · show va_OF "java/lang/String" "value" "[B" (va_rf ((rf0 (3 + i) 1).map (sAd b a1 a2 adK adV))) (sAd b a1 a2 adK adV (3 + i)) (fun q => s.heap.size ≤ q) s s.heap
      rw [adk i hi, r1]
      show va_OF "java/lang/String" "value" "[B" (.ref (sAd b a1 a2 adK adV (9 + i))) (adK i) (fun q => s.heap.size ≤ q) s s.heap
      rw [adv i]
      exact g3
    · rw [adv i, sb_2 i hi L]
      refine va_Tcg (fun j hj => ?_) g4
      show Value.int ((sByt.getD i []).getD j 0) = Value.int (Int32.ofInt (sI xs (9 + i) j))
      unfold sI
      rw [if_neg (by omega), if_neg (by omega), if_neg (by omega), if_pos (by omega), show 9 + i - 9 = i by omega, sb_1 i hi j hj]
/-- the law, on the small machine -/
theorem law_go {n : Nat} (hn : n ≤ 3072) (xs : Nat → Int32) : Wm n 34 228 0 600000 7302250 [some (vr (some 0)), none, none, none] [] (sI xs, fun _ _ => 0, rf0, 16) (fun r _ => r = some (vi 1)) := by
  refine lw_made (d := 27) ?_
  rw [Rs_first (fun _ _ => rfl)]
  exact law_loop (e := 10) hn (scr := sI xs 0) (fun k => sI_bd xs 0 k) (K := fun r _ => r = some (vi 1)) (fun _ => rfl) 512 0 599861 7298685 0 _ _ (by omega) (Nat.zero_le _) (Nat.le_of_ble_eq_true rfl) (Nat.le_of_ble_eq_true rfl) (RC_first (sI_z xs)) (fs_lo (by decide))
set_option maxHeartbeats 4000000 in
theorem whole_start {p : Program} {e : Env} {s : State} {m : MethodId} {below : List Frame} {meth : Method} {c : Code} (l : Launch) (hflags : l.flags = flags0) {b L : Nat} {xs : Nat → Int32} (hL : L ≤ 3072) (C0 : lw_At p s m meth c b L xs) : W p l e room_1 s m #[Value.ref b] below meth c s.heap [] 0 0 (lw_Z below #[Value.ref b] s) (entryFrame m ([Value.ref b] : List Value).toArray 4) := by
  obtain ⟨ad, ad0, hN, hRO⟩ := st_all hL C0
  obtain ⟨hx, hb, hr, hml, hown, hts, hX, hbl, hlocks, hgv⟩ := id C0
  have htg : ∀ w ∈ gTbl, w.before #[Value.ref b] s = true := fun w hw => hts w (List.mem_filter.mp hw).1
  have hA : ∀ q : Nat, s.heap.size ≤ q → (fun q : Nat => s.heap.size ≤ q) q := fun _ h => h
  have h0 : ∀ k : Nat, ∃ q : ClassId × (Nat → Nat), k < 10 → u_Kn s (clAt k).1 (clAt k).2.1 (clAt k).2.2 q.1 q.2 := by
    intro k
    by_cases hk : k < 10
    · obtain ⟨c0, i0, h⟩ := u_known htg (clWs k hk) (htg _ (clInst k hk).1)
      exact ⟨(c0, i0), fun _ => h⟩
    · exact ⟨(m.cls, fun _ => 0), fun h => absurd h hk⟩
  obtain ⟨dq, hdq⟩ := Classical.axiomOfChoice h0
  have hK : va_K (fun k => (dq k).1, fun k => (dq k).2) vwCl [] s := by
    refine ⟨fun k q hq => ?_, fun k q h => by simp at h⟩
    have hk : k < 10 := (List.getElem?_eq_some_iff.mp hq).1
    have e : q = clAt k := by
      have := clAt_in hk
      rw [hq] at this
      exact Option.some.inj this
    rw [e]
    exact hdq k hk
  have hS : va_S (fun q : Nat => s.heap.size ≤ q) s.heap s.heap [] := va_S.rf
  have hl := lv_entry ([.ref b]) (n := 4) (Nat.le_of_ble_eq_true rfl)
  rw [lg_entry_eq]
  generalize (lg_sl ([.ref b]) ++ List.replicate (4 - (lg_sl ([.ref b])).length) Slot.unset).toArray = lsR at hl ⊢
  have hP := Wm_sound okMs l (law_go hL xs)
  refine hP p e room_1 s m #[Value.ref b] below meth c (fun q => s.heap.size ≤ q) (fun k => (dq k).1, fun k => (dq k).2) ad (fun _ => m.cls) s.heap [] 0 0 lsR _ (ad, sI xs, rf0) 16 ⟨hx, hb, hr, hml, hown, htg, hlocks, fun h => absurd h (by decide +kernel), hA⟩ ⟨Nat.le_of_ble_eq_true rfl, Nat.le_of_ble_eq_true rfl, Nat.le_of_ble_eq_true rfl, Nat.le_of_ble_eq_true rfl⟩ hN hRO ?_ (fun v hv => by cases hv) (fun i v hv => ?_) ?_ ?_ hS ⟨fun _ _ => rfl, fun _ _ => ⟨rfl, rfl⟩⟩ (Nat.le_refl _) (Nat.le_of_ble_eq_true rfl) (Nat.le_of_ble_eq_true rfl)
  · intro ad' cA' H' HH locs cells slots ls pc ins r hdec hr1 hv hK1 hag hnx hW2 hS2 hc hs
    refine va_forget (fun q hq => hS2.2.2 q hq) (W.widen hc hs ?_)
    have hK2 : r = some (vi 1) := hK1
    rw [hK2] at hr1 ⊢
    rcases hr1 with ⟨rfl, _⟩ | ⟨_, x, h1, _⟩ | ⟨_, a, ty, h1, _⟩ | ⟨_, h1, _⟩
    · exact lw_ret hx hb hr hlocks hdec
    · cases h1
    · cases h1
    · cases h1
  · rcases i with _ | _ | _ | _ | i
    · cases hv; exact (by decide : 0 < 16)
    all_goals cases hv
  · refine lv_of_sub hl fun q hq => ?_
    obtain ⟨v, hv, e⟩ := lvOf_mem.mp hq
    obtain ⟨i, w⟩ := q
    rcases i with _ | _ | _ | _ | i
    · cases hv
      have e' : w = .ref (ad 0) := e
      rw [e', ad0]
      exact List.mem_cons_self
    all_goals cases hv
  · exact ⟨fun k q h => (by cases h), ⟨fun i j p q h => (by cases h), fun k q h => (by cases h)⟩, hK, fun h h1 h2 => absurd h2 (Nat.not_lt.mpr h1), sOk xs⟩
