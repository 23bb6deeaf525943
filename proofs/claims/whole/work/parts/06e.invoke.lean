/-! ===== the small machine's calls, instruction by instruction ===== -/
theorem goodIn_g {ws : List Cond} (h : ∀ w ∈ ws, w ∈ gTbl) : GoodIn gTbl ws := fun w hw => ⟨h w hw, good_of_word ((List.mem_filter.mp (h w hw)).2)⟩
theorem mWs_in {y : Nat} (h : okM y) : ∀ w ∈ mWs y, w ∈ gTbl := fun w hw => by
  rcases List.mem_cons.mp hw with rfl | h2
  · exact (okMeth_sp h).2.2.2.2.1
  · exact h2
theorem okMeth_S {y : Nat} (h : okMeth y = true) (hk : mKind y = 0) : Cond.static (mNm y) ∈ gTbl := by
  unfold okMeth at h
  simp only [Bool.and_eq_true] at h
  obtain ⟨-, h4⟩ := h
  split at h4
  · simp only [Bool.and_eq_true, atT, decide_eq_true_eq] at h4
    exact gT h4.1.1.2 rfl
  · simp only [Bool.and_eq_true, beq_iff_eq] at h4
    have := h4.1.2
    omega
  · simp only [Bool.and_eq_true, beq_iff_eq] at h4
    have := h4.1.1.1.2
    omega
  · cases h4
theorem okMeth_V {y : Nat} (h : okMeth y = true) (hk : mKind y = 1) : Cond.instanceMethod (mNm y) ∈ gTbl ∧ Cond.selects (mNm y).cls (mNm y) (mNm y) ∈ gTbl ∧ (mClsOf y = 60 ∧ (mNm y).cls = "java/lang/String" ∨ mClsOf y < 10 ∧ (mNm y).cls = (clAt (mClsOf y)).1) := by
  unfold okMeth at h
  simp only [Bool.and_eq_true] at h
  obtain ⟨-, h4⟩ := h
  split at h4
  · simp only [Bool.and_eq_true, beq_iff_eq] at h4
    have := h4.2
    omega
  · simp only [Bool.and_eq_true, Bool.or_eq_true, atT, decide_eq_true_eq, beq_iff_eq] at h4
    refine ⟨gT h4.1.1.1.2 rfl, gT h4.1.1.2 rfl, ?_⟩
    rcases h4.2 with q | q
    · exact Or.inl q
    · exact Or.inr ⟨Nat.lt_of_succ_le (Nat.le_of_ble_eq_true q.1), q.2⟩
  · simp only [Bool.and_eq_true, beq_iff_eq] at h4
    have := h4.1.1.1.2
    omega
  · cases h4
theorem okMeth_I {y : Nat} (h : okMeth y = true) (hk : mKind y = 2) : Cond.instanceMethod (mNm y) ∈ gTbl ∧ (mNm y).name = "<init>" ∧ mRet y = none := by
  unfold okMeth at h
  simp only [Bool.and_eq_true] at h
  obtain ⟨-, h4⟩ := h
  split at h4
  · simp only [Bool.and_eq_true, beq_iff_eq] at h4
    have := h4.2
    omega
  · simp only [Bool.and_eq_true, beq_iff_eq] at h4
    have := h4.1.2
    omega
  · simp only [Bool.and_eq_true, atT, decide_eq_true_eq] at h4
    exact ⟨gT h4.1.1.1.1.2 rfl, h4.1.1.2, h4.1.2⟩
  · cases h4
theorem take_split {st tl : List mV} {ib : Nat} {v : mV} (h : (st.take ib).reverse = v :: tl) : st = tl.reverse ++ v :: st.drop ib := by
  have h1 : st.take ib = tl.reverse ++ [v] := by
    have := congrArg List.reverse h
    rw [List.reverse_reverse, List.reverse_cons] at this
    exact this
  conv => lhs; rw [← List.take_append_drop ib st, h1]
  simp
theorem take_split0 (st : List mV) (ib : Nat) : st = (st.take ib).reverse.reverse ++ st.drop ib := by rw [List.reverse_reverse, List.take_append_drop]
theorem okS_sub {nx : Nat} {st st' : List mV} (h : okS nx st) (hs : ∀ v ∈ st', v ∈ st) : okS nx st' := fun v hv => h v (hs v hv)
set_option maxRecDepth 100000 in
theorem objIn : Cond.instanceMethod Lib.objectInit ∈ gTbl ∧ Cond.code Lib.objectInit ⟨#[0xb1]⟩ 1 none ∈ gTbl := by decide +kernel
set_option maxRecDepth 100000 in
theorem acpIn : Cond.native arraycopyName ∈ gTbl ∧ Cond.static arraycopyName ∈ gTbl ∧ Cond.initialized "java/lang/System" ∈ gTbl := by decide +kernel
set_option maxRecDepth 100000 in
theorem mathIn : Cond.initialized "java/lang/Math" ∈ gTbl ∧ Cond.static Lib.Math.max.name ∈ gTbl ∧ Cond.code Lib.Math.max.name Lib.Math.max.code 2 (some .int) ∈ gTbl ∧ Cond.static Lib.Math.min.name ∈ gTbl ∧ Cond.code Lib.Math.min.name Lib.Math.min.code 2 (some .int) ∈ gTbl ∧ Cond.static Lib.Math.abs.name ∈ gTbl ∧ Cond.code Lib.Math.abs.name Lib.Math.abs.code 1 (some .int) ∈ gTbl := by decide +kernel
theorem cpy2_lo {α : Type} {f : Nat → Nat → α} {a i b j n h : Nat} (hh : h ≠ b) : cpy2 f a i b j n h = f h := by funext q; simp [cpy2, hh]
theorem cpy2_b {α β : Type} (g : α → β) (f : Nat → Nat → α) (a i b j n : Nat) : (fun q => g (cpy2 f a i b j n b q)) = va_cpy (fun q => g (f a q)) (fun q => g (f b q)) i j n := by
  funext q
  unfold cpy2 va_cpy
  by_cases h : j ≤ q ∧ q < j + n <;> simp [h]
/-! the check of an index -/
def yCI : MethodName := ⟨"java/lang/String", "checkIndex", "(II)V"⟩
def yPC : MethodName := ⟨"jdk/internal/util/Preconditions", "checkIndex", "(IILjava/util/function/BiFunction;)I"⟩
set_option maxRecDepth 100000 in
theorem ciIn : Cond.code yCI prog_14_method_155_code 2 none ∈ gTbl ∧ Cond.static yCI ∈ gTbl ∧ Cond.initialized yCI.cls ∈ gTbl ∧ Cond.fieldLink "java/lang/String" 1053 "jdk/internal/util/Preconditions" "SIOOBE_FORMATTER" "Ljava/util/function/BiFunction;" ∈ gTbl ∧ Cond.methodLink "java/lang/String" 1059 yPC ∈ gTbl ∧ Cond.static yPC ∈ gTbl ∧ Cond.initialized yPC.cls ∈ gTbl ∧ Cond.code yPC prog_19_method_11_code 3 (some .int) ∈ gTbl := by decide +kernel
theorem dPC0 : decode prog_19_method_11_code 0 = .ok (.iload_n 0, 1) := by decide +kernel
theorem dPC1 : decode prog_19_method_11_code 1 = .ok (.ifCond .lt 8, 3) := by decide +kernel
theorem dPC4 : decode prog_19_method_11_code 4 = .ok (.iload_n 0, 1) := by decide +kernel
theorem dPC5 : decode prog_19_method_11_code 5 = .ok (.iload_n 1, 1) := by decide +kernel
theorem dPC6 : decode prog_19_method_11_code 6 = .ok (.if_icmp .lt 10, 3) := by decide +kernel
theorem dPC16 : decode prog_19_method_11_code 16 = .ok (.iload_n 0, 1) := by decide +kernel
theorem dPC17 : decode prog_19_method_11_code 17 = .ok (.ireturn, 1) := by decide +kernel
theorem dCI0 : decode prog_14_method_155_code 0 = .ok (.iload_n 0, 1) := by decide +kernel
theorem dCI1 : decode prog_14_method_155_code 1 = .ok (.iload_n 1, 1) := by decide +kernel
theorem dCI2 : decode prog_14_method_155_code 2 = .ok (.getstatic 1053, 3) := by decide +kernel
theorem dCI5 : decode prog_14_method_155_code 5 = .ok (.invokestatic 1059, 3) := by decide +kernel
theorem dCI8 : decode prog_14_method_155_code 8 = .ok (.pop, 1) := by decide +kernel
theorem dCI9 : decode prog_14_method_155_code 9 = .ok (.return_, 1) := by decide +kernel
def fAl : Nat → Prop := fun _ => False
set_option maxHeartbeats 4000000 in
theorem c_PC (l : Launch) (i k : Int32) (o : Option Nat) (h0 : ¬ i < 0) (h1 : i < k) : Met l yPC (Cond.code yPC prog_19_method_11_code 3 (some .int) :: gTbl) (k2_rm 0 0) (va_Pc [.int i, .int k, va_rf o] (fun _ => True)) (va_Qi (S := Unit) (fun r _ => r = i) (fun _ _ => True) fAl) 0 0 fAl := by
  refine Met.ofW (cc := prog_19_method_11_code) (maxL := 3) (ret := some .int) (by decide) rfl ?_
  intro p e s m args below meth c s₁ B hml hv
  obtain ⟨rfl, -⟩ := hv
  have hx := B.exec
  have hb := B.bytes
  have hr := B.returns
  have hlk := B.notSynchronized
  have hS : va_S fAl s.heap s.heap [] := va_S.rf
  have hl : lv_has ((lg_sl [.int i, .int k, va_rf o] ++ List.replicate (3 - (lg_sl [.int i, .int k, va_rf o]).length) Slot.unset).toArray) 3 [(0, .int i), (1, .int k), (2, va_rf o)] := by
    cases o <;> exact lv_entry _ (n := 3) (Nat.le_of_ble_eq_true rfl)
  rw [lg_entry_eq]
  generalize (lg_sl [.int i, .int k, va_rf o] ++ List.replicate (3 - (lg_sl [.int i, .int k, va_rf o]).length) Slot.unset).toArray = ls at hl ⊢
  refine lv_iload_n hx hb dPC0 rfl (lv_at hl 0 rfl) ?_
  refine lv_if_lt (tgt := 9) hx hb dPC1 (by decide) (fun q => absurd q h0) (fun _ => ?_)
  refine lv_iload_n hx hb dPC4 rfl (lv_at hl 0 rfl) ?_
  refine lv_iload_n hx hb dPC5 rfl (lv_at hl 1 rfl) ?_
  refine lv_icmp_lt (tgt := 16) hx hb dPC6 (by decide) (fun _ => ?_) (fun q => absurd h1 q)
  refine lv_iload_n hx hb dPC16 rfl (lv_at hl 0 rfl) ?_
  exact W.iret (v := i) hx hb hr (fun t ht hW => ⟨⟨i, (), rfl, rfl, trivial⟩, hS.F ht⟩) hS.2.2 dPC17 hlk
set_option maxHeartbeats 4000000 in
theorem c_CI (l : Launch) (i k : Int32) (h0 : ¬ i < 0) (h1 : i < k) : Met l yCI (Cond.code yCI prog_14_method_155_code 2 none :: gTbl) (k2_rm 1 40) (va_Pc [.int i, .int k] (fun U => va_Zq "jdk/internal/util/Preconditions" "SIOOBE_FORMATTER" "Ljava/util/function/BiFunction;" fAl U U.heap)) (va_Qv (S := Unit) (fun _ => True) (fun _ _ => True) fAl) 0 0 fAl := by
  refine Met.ofW (cc := prog_14_method_155_code) (maxL := 2) (ret := none) (by decide) rfl ?_
  intro p e s m args below meth c s₁ B hml hv
  obtain ⟨rfl, hZ⟩ := hv
  have hx := B.exec
  have hb := B.bytes
  have hr := B.returns
  have hlk := B.notSynchronized
  have hown : s.vm.findClass "java/lang/String" = some m.cls := findClass_of_methodNamed B.named
  have hts : ∀ w ∈ gTbl, w.before ([Value.int i, .int k] : List Value).toArray s = true := fun w hw => atoms_spec (ws := Cond.code yCI prog_14_method_155_code 2 none :: gTbl) B.pre w (List.mem_cons_of_mem _ hw)
  have hS : va_S fAl s.heap s.heap [] := va_S.rf
  have hl := lv_entry ([.int i, .int k]) (n := 2) (Nat.le_of_ble_eq_true rfl)
  rw [lg_entry_eq]
  generalize (lg_sl [.int i, .int k] ++ List.replicate (2 - (lg_sl [.int i, .int k]).length) Slot.unset).toArray = ls at hl ⊢
  have hl : lv_has ls 2 [(0, .int i), (1, .int k)] := hl
  obtain ⟨o, hZ⟩ : ∃ o : Option Nat, va_Z "jdk/internal/util/Preconditions" "SIOOBE_FORMATTER" "Ljava/util/function/BiFunction;" (va_rf o) fAl s s.heap := by
    rcases hZ with h | ⟨t, h⟩
    · exact ⟨none, h⟩
    · exact ⟨some t, h⟩
  refine lv_iload_n hx hb dCI0 rfl (lv_at hl 0 rfl) ?_
  refine lv_iload_n hx hb dCI1 rfl (lv_at hl 1 rfl) ?_
  refine va_gets hx hb hZ hS hown (hts _ ciIn.2.2.2.1) (fun _ h => h) dCI2 ?_
  refine va_calli (a := ([.int i, .int k, va_rf o] : List Value).toArray) (va_runS (As := [.int i, .int k, va_rf o]) (rest := []) ⟨hx, hb, hml, hown, hts⟩ (c_PC l i k o h0 h1) (va_cwS 3 hts (goodIn_g (fun w hw => by
      simp only [va_wsS, List.mem_append, List.mem_cons, List.not_mem_nil, or_false] at hw
      rcases hw with (rfl | rfl | rfl) | rfl | h
      · exact ciIn.2.2.2.2.1
      · exact ciIn.2.2.2.2.2.1
      · exact ciIn.2.2.2.2.2.2.1
      · exact ciIn.2.2.2.2.2.2.2
      · exact h)) rfl rfl rfl (by decide +kernel) ⟨Nat.le_of_ble_eq_true rfl, Nat.le_of_ble_eq_true rfl⟩) ⟨fun a U g mk q => q, fun U hU hW => ⟨rfl, trivial⟩⟩ rfl rfl hl.1 rfl (lv_room (Nat.zero_le _)) dCI5 ⟨Nat.zero_le _, Nat.zero_le _⟩) hS (fun q _ h => h) (fun q h => h) (fun r u t H1 locs1 ht hvm hw hB hz1 hk1 hS1 => ?_)
  refine lv_pop hx hb dCI8 rfl ?_
  exact W.vret hx hb hr (fun t ht hW => ⟨⟨(), rfl, trivial, trivial⟩, hS1.F ht⟩) hS1.2.2 dCI9 hlk
set_option maxRecDepth 20000 in
set_option maxHeartbeats 2000000 in
theorem cl_invokevirtual {l : Launch} {n d y pc : Nat} {i : Nat} {len ia ib ic : Nat} {z : Int} {sw : List (Int × Nat)} {kc ks : Nat} {ls : mLs} {st : List mV} {H : mH} {K : mK} (hM : ∀ t, t < 228 → okM t) (hw : okRow (y, pc, .invokevirtual i, len, (ia, ib, ic), z, sw) = true) (hstep : stepW n (Pr l n) (ent (Pr l n)) d (y, pc, .invokevirtual i, len, (ia, ib, ic), z, sw) kc ks ls st H K) : Pr l n d y pc kc ks ls st H K := by
  obtain ⟨hdec, hins, hyl⟩ := okRow_sp hw
  simp only [okIns, Bool.and_eq_true, Bool.or_eq_true, decide_eq_true_eq, beq_iff_eq] at hins
  intro p e R s m args below meth c A D ad cA HH locs cells slots lsR QF ad0 nx0 hctx hroom hnest hro hend hst hls hlv hW hS hag hnx hkc hks
  obtain ⟨hx, hb, hr, hml, hown, hts, hlk, hini, hA⟩ := id hctx
  have nxt : ∀ {pc' : Nat} {st' : List mV}, Pr l n d y pc' kc ks ls st' H K → okS H.2.2.2 st' → W p l e R s m args below meth c HH locs cells slots QF (F0 m pc' lsR (st'.map (mval ad))) := fun h ok => h p e R s m args below meth c A D ad cA HH locs cells slots lsR QF ad0 nx0 hctx hroom hnest hro hend ok hls hlv hW hS hag hnx hkc hks
  have nxtL : ∀ {pc' : Nat} {st' : List mV} {ls' : mLs} {lsR' : Array Slot}, Pr l n d y pc' kc ks ls' st' H K → okS H.2.2.2 st' → okLs H.2.2.2 ls' → lv_has lsR' (mMax y) (lvOf ad ls') → W p l e R s m args below meth c HH locs cells slots QF (F0 m pc' lsR' (st'.map (mval ad))) := fun h ok okl hl => h p e R s m args below meth c A D ad cA HH locs cells slots _ QF ad0 nx0 hctx hroom hnest hro hend ok okl hl hW hS hag hnx hkc hks
  dsimp only [stepW] at hstep
  obtain ⟨⟨⟨⟨⟨rfl, h228⟩, hkd⟩, hl⟩, hnp⟩, hic⟩ := hins
  have hok := hM ia (Nat.lt_of_succ_le (Nat.le_of_ble_eq_true h228))
  obtain ⟨v1, v2, v3⟩ := okMeth_V hok.1 hkd
  obtain ⟨s1, s2, s3, s4, s5, s6⟩ := okMeth_sp hok
  obtain ⟨a, tl, hargs, hs⟩ := recvW_inv hstep
  obtain ⟨hta, hs2⟩ := chk_inv hs
  have hta : TY a = mClsOf ia := Nat.eq_of_beq_eq_true hta
  obtain ⟨d', rfl, hcat, hmc, hms, hll, hlen, hE⟩ := callW_inv hs2
  subst hic
  have hargsok : okS H.2.2.2 ((st.take ib).reverse) := okS_sub hst fun v hv => List.mem_of_mem_take (List.mem_reverse.mp hv)
  have hrest : okS H.2.2.2 (st.drop ib) := okS_sub hst fun v hv => List.mem_of_mem_drop hv
  obtain ⟨r1, r2, r3, r4⟩ := id hroom
  have hmx := mMax_le ia
  rw [hargs] at hargsok
  have hlt : a < H.2.2.2 := okS_h hargsok
  have M := met_of hE hok hargsok hll D ad cA HH.size
  have recv : ∃ cellB : Cell, HH[ad a]? = some cellB ∧ cellB.vm.isStatics = false ∧ s.vm.findClass (mNm ia).cls = some cellB.cls := by
    rcases v3 with ⟨q1, q2⟩ | ⟨q1, q2⟩
    · rw [q2]
      obtain ⟨g1, g2⟩ := TY60 (hta.trans q1)
      have hq := (hro.2.2.2.1 (a - 3) (by omega)).1
      rw [show 3 + (a - 3) = a by omega] at hq
      exact va_Orecv hq hS
    · rw [q2, ← hta]
      exact va_recv hW.2.2.1 hW.1 (clAt_in (by omega)) (by rw [mws_at (hi_of (by omega)) hlt, mcell_obj (by omega)])
  refine call_fin (a := (Value.ref (ad a) :: tl.map (mval ad)).toArray) hctx hroom hnest hro hend hls hlv hW hS hag hnx hkc hks hrest hmc hms (va_runV (As := tl.map (mval ad)) (C := (mNm ia).cls) ⟨hx, hb, hml, hown, hts⟩ M (cwV (nPar (mNm ia)) hts (goodIn_g (fun w hw => ?_)) rfl rfl rfl ⟨rfl, s2, s3, s4⟩ ⟨?_, ?_⟩) ⟨mPc_blind _, recv, fun U hU hWm => ⟨rfl, mPc_at hW hro hnest hS hA hU hWm⟩⟩ rfl ?_ hlv.1 ?_ (lv_room ?_) hdec ⟨?_, ?_⟩)
  · simp only [wsV, List.mem_append, List.mem_cons, List.not_mem_nil, or_false] at hw
    rcases hw with (rfl | rfl | rfl | rfl) | h
    · exact wAt_sp hl rfl
    · exact v1
    · exact v2
    · exact s6
    · exact mWs_in hok w h
  · show d' + 2 + 1 ≤ R.frames
    omega
  · show 8 + (mMax ia + 11) + (40 * d' + 200) ≤ R.locals
    omega
  · simp only [List.length_map, List.length_cons] at hlen ⊢
    omega
  · show st.map (mval ad) = _
    rw [take_split hargs]
    simp only [List.map_append, List.map_reverse, List.map_cons]
    rw [← take_split hargs]
    rfl
  · rw [catS_eq]; exact hcat
  · omega
  · omega
set_option maxRecDepth 20000 in
set_option maxHeartbeats 2000000 in
theorem cl_invokestatic {l : Launch} {n d y pc : Nat} {i : Nat} {len ia ib ic : Nat} {z : Int} {sw : List (Int × Nat)} {kc ks : Nat} {ls : mLs} {st : List mV} {H : mH} {K : mK} (hM : ∀ t, t < 228 → okM t) (hw : okRow (y, pc, .invokestatic i, len, (ia, ib, ic), z, sw) = true) (hstep : stepW n (Pr l n) (ent (Pr l n)) d (y, pc, .invokestatic i, len, (ia, ib, ic), z, sw) kc ks ls st H K) : Pr l n d y pc kc ks ls st H K := by
  obtain ⟨hdec, hins, hyl⟩ := okRow_sp hw
  simp only [okIns, Bool.and_eq_true, Bool.or_eq_true, decide_eq_true_eq, beq_iff_eq] at hins
  intro p e R s m args below meth c A D ad cA HH locs cells slots lsR QF ad0 nx0 hctx hroom hnest hro hend hst hls hlv hW hS hag hnx hkc hks
  obtain ⟨hx, hb, hr, hml, hown, hts, hlk, hini, hA⟩ := id hctx
  have nxt : ∀ {pc' : Nat} {st' : List mV}, Pr l n d y pc' kc ks ls st' H K → okS H.2.2.2 st' → W p l e R s m args below meth c HH locs cells slots QF (F0 m pc' lsR (st'.map (mval ad))) := fun h ok => h p e R s m args below meth c A D ad cA HH locs cells slots lsR QF ad0 nx0 hctx hroom hnest hro hend ok hls hlv hW hS hag hnx hkc hks
  have nxtL : ∀ {pc' : Nat} {st' : List mV} {ls' : mLs} {lsR' : Array Slot}, Pr l n d y pc' kc ks ls' st' H K → okS H.2.2.2 st' → okLs H.2.2.2 ls' → lv_has lsR' (mMax y) (lvOf ad ls') → W p l e R s m args below meth c HH locs cells slots QF (F0 m pc' lsR' (st'.map (mval ad))) := fun h ok okl hl => h p e R s m args below meth c A D ad cA HH locs cells slots _ QF ad0 nx0 hctx hroom hnest hro hend ok okl hl hW hS hag hnx hkc hks
  dsimp only [stepW] at hstep
  obtain ⟨rfl, hins⟩ := hins
  obtain ⟨r1, r2, r3, r4⟩ := id hroom
  split at hins
  · replace hstep : copyW st H n (fun r H => Pr l n d y (pc + 3) kc ks ls r H K) := hstep
    unfold copyW at hstep
    split at hstep
    · rename_i k j b i0 a0 r
      obtain ⟨a, rfl, h1⟩ := drf_inv hstep
      obtain ⟨b, rfl, h2⟩ := drf_inv h1
      obtain ⟨⟨g1, g2, g3, g4, g5⟩, h3⟩ := h2
      obtain ⟨hc, h4⟩ := chk_inv h3
      simp only [Bool.and_eq_true] at hc
      have hTT : TY a = TY b := Nat.eq_of_beq_eq_true hc.1
      have hcat : catS r ≤ 8 := Nat.le_of_ble_eq_true hc.2
      have hlta : a < H.2.2.2 := okS_h (okS_t (okS_t (okS_t (okS_t hst))))
      have hltb : b < H.2.2.2 := okS_h (okS_t (okS_t hst))
      have hrok : okS H.2.2.2 r := okS_t (okS_t (okS_t (okS_t (okS_t hst))))
      have hok := hW.2.2.2.2
      have nn : ∀ z : Int, 0 ≤ z → z ≤ 600 → ¬ Int32.ofInt z < 0 ∧ (Int32.ofInt z).toNatClampNeg = z.toNat := fun z h1 h2 => by
        constructor
        · rw [show (0 : Int32) = Int32.ofInt 0 from rfl, ofInt_lt ⟨by omega, by omega⟩ ⟨by omega, by omega⟩]; omega
        · show (Int32.ofInt z).toInt.toNat = _
          rw [toInt_ofInt_id ⟨by omega, by omega⟩]
      have hloc : ((r.map (mval ad)).map fun v => v.category).sum + (nativeFrameWords "java/lang/System" "arraycopy" 5 + 11) ≤ R.locals := by
        rw [catS_eq]
        have : nativeFrameWords "java/lang/System" "arraycopy" 5 = 7 := by decide
        omega
      split at h4
      · rename_i h100
        have ht : TY a = 100 := Nat.eq_of_beq_eq_true h100
        have h16a := hi_of (h := a) (by omega)
        have h16b := hi_of (h := b) (by omega)
        have hLa := LN_le (n := n) (h := a) (by omega)
        have hLb := LN_le (n := n) (h := b) (by omega)
        have hAa := hW.2.2.2.1 a h16a hlta (by omega)
        have hAb := hW.2.2.2.1 b h16b hltb (by omega)
        rw [show ety a = .int by simp [ety, ht]] at hAa
        rw [show ety b = .int by simp [ety, ← hTT, ht]] at hAb
        obtain ⟨ni, ci⟩ := nn i0 g1 (by omega)
        obtain ⟨nj, cj⟩ := nn j g2 (by omega)
        obtain ⟨nk, ck⟩ := nn k g3 (by omega)
        refine va_copyi (tys := [(cA a, .int), (cA b, .int)]) (f := fun q => Int32.ofInt (H.1 a q)) (g := fun q => Int32.ofInt (H.1 b q)) (n0 := LN n a) (n1 := LN n b) (ty := .int) hx hb (hml.trans hlv.1.symm) hown (hts _ (wAt_sp hins rfl)) (hts _ acpIn.1) (hts _ acpIn.2.1) (hts _ acpIn.2.2) ⟨hW.2.2.1.1, fun q w hq => ?_⟩ hW.1 hW.2.1 hS (a - 16) (b - 16) 0 1 (by rw [mws_at h16a hlta, mcell_int (Or.inl ht)]) (by rw [mws_at h16b hltb, mcell_int (Or.inl (by omega))]) rfl rfl rfl ni nj nk (by rw [ci, ck]; omega) (by rw [cj, ck]; omega) (fun _ _ => rfl) (by omega) hloc hdec (fun HH1 locs1 hP1 hD1 hS1 => ?_)
        · match q, hq with
          | 0, hq => simp at hq; subst hq; exact hAa
          | 1, hq => simp at hq; subst hq; exact hAb
          | q + 2, hq => simp at hq
        · rw [ci, cj, ck] at hP1 hD1
          refine h4 p e R s m args below meth c A D ad cA HH1 locs1 cells slots lsR QF ad0 nx0 hctx hroom hnest (mRO_congr (fun h hh => cpy2_lo (by omega)) (fun _ _ => rfl) hro) hend hrok hls hlv (mW_set hW h16b hltb rfl (fun h hh => ⟨cpy2_lo hh, rfl, rfl⟩) ⟨hok.1, fun x q => ?_, hok.2.2.1, fun x hx q => ⟨?_, (hok.2.2.2 x hx q).2⟩⟩ ?_ hP1 hD1) hS1 (agH_H (fun h hh => cpy2_lo (by omega)) (fun _ _ => rfl) hag) hnx hkc hks
          · show -2147483648 ≤ cpy2 H.1 a i0.toNat b j.toNat k.toNat x q ∧ cpy2 H.1 a i0.toNat b j.toNat k.toNat x q < 2147483648
            unfold cpy2; split <;> exact hok.2.1 _ _
          · show cpy2 H.1 a i0.toNat b j.toNat k.toNat x q = 0
            have hx' : H.2.2.2 ≤ x := hx
            rw [cpy2_lo (by omega)]
            exact (hok.2.2.2 x hx q).1
          · rw [mcell_int (Or.inl (by omega))]
            exact congrArg (fun f => Sum.inl (cA b, (LN n b, Sum.inl f))) (cpy2_b Int32.ofInt H.1 a i0.toNat b j.toNat k.toNat)
      · obtain ⟨h101, h4⟩ := chk_inv h4
        have ht : TY a = 101 := Nat.eq_of_beq_eq_true h101
        have h16a := hi_of (h := a) (by omega)
        have h16b := hi_of (h := b) (by omega)
        have hLa := LN_le (n := n) (h := a) (by omega)
        have hLb := LN_le (n := n) (h := b) (by omega)
        have hAa := hW.2.2.2.1 a h16a hlta (by omega)
        have hAb := hW.2.2.2.1 b h16b hltb (by omega)
        rw [show ety a = .long by simp [ety, ht]] at hAa
        rw [show ety b = .long by simp [ety, ← hTT, ht]] at hAb
        obtain ⟨ni, ci⟩ := nn i0 g1 (by omega)
        obtain ⟨nj, cj⟩ := nn j g2 (by omega)
        obtain ⟨nk, ck⟩ := nn k g3 (by omega)
        refine va_copyl (tys := [(cA a, .long), (cA b, .long)]) (f := H.2.1 a) (g := H.2.1 b) (n0 := LN n a) (n1 := LN n b) (ty := .long) hx hb (hml.trans hlv.1.symm) hown (hts _ (wAt_sp hins rfl)) (hts _ acpIn.1) (hts _ acpIn.2.1) (hts _ acpIn.2.2) ⟨hW.2.2.1.1, fun q w hq => ?_⟩ hW.1 hW.2.1 hS (a - 16) (b - 16) 0 1 (by rw [mws_at h16a hlta, mcell_long ht]) (by rw [mws_at h16b hltb, mcell_long (by omega)]) rfl rfl rfl ni nj nk (by rw [ci, ck]; omega) (by rw [cj, ck]; omega) (fun _ _ => rfl) (by omega) hloc hdec (fun HH1 locs1 hP1 hD1 hS1 => ?_)
        · match q, hq with
          | 0, hq => simp at hq; subst hq; exact hAa
          | 1, hq => simp at hq; subst hq; exact hAb
          | q + 2, hq => simp at hq
        · rw [ci, cj, ck] at hP1 hD1
          refine h4 p e R s m args below meth c A D ad cA HH1 locs1 cells slots lsR QF ad0 nx0 hctx hroom hnest (mRO_congr (fun h hh => rfl) (fun _ _ => rfl) hro) hend hrok hls hlv (mW_set hW h16b hltb rfl (fun h hh => ⟨rfl, cpy2_lo hh, rfl⟩) ⟨hok.1, hok.2.1, hok.2.2.1, fun x hx q => ⟨(hok.2.2.2 x hx q).1, ?_, (hok.2.2.2 x hx q).2.2⟩⟩ ?_ hP1 hD1) hS1 (agH_H (fun h hh => rfl) (fun _ _ => rfl) hag) hnx hkc hks
          · show cpy2 H.2.1 a i0.toNat b j.toNat k.toNat x q = 0
            have hx' : H.2.2.2 ≤ x := hx
            rw [cpy2_lo (by omega)]
            exact (hok.2.2.2 x hx q).2.1
          · rw [mcell_long (by omega)]
            exact congrArg (fun f => Sum.inl (cA b, (LN n b, Sum.inr (Sum.inl f)))) (cpy2_b id H.2.1 a i0.toNat b j.toNat k.toNat)
    · exact hstep.elim
  · replace hstep : chkIdxW st (fun r => Pr l n d y (pc + 3) kc ks ls r H K) := hstep
    obtain ⟨i0, k, r, rfl, ⟨g1, g2⟩, hs⟩ := eII_inv hstep
    obtain ⟨hc, hs2⟩ := chk_inv hs
    have hcat : catS r ≤ 8 := Nat.le_of_ble_eq_true hc
    have hi0 : -2147483648 ≤ i0 ∧ i0 < 2147483648 := okS_h (okS_t hst)
    have hk0 : -2147483648 ≤ k ∧ k < 2147483648 := okS_h hst
    have hrok : okS H.2.2.2 r := okS_t (okS_t hst)
    have ni : ¬ Int32.ofInt i0 < 0 := by
      rw [show (0 : Int32) = Int32.ofInt 0 from rfl, ofInt_lt hi0 ⟨by omega, by omega⟩]; omega
    refine va_callv (a := ([.int (Int32.ofInt i0), .int (Int32.ofInt k)] : List Value).toArray) (va_runS (As := [.int (Int32.ofInt i0), .int (Int32.ofInt k)]) (rest := r.map (mval ad)) ⟨hx, hb, hml, hown, hts⟩ (c_CI l _ _ ni ((ofInt_lt hi0 hk0).mpr g2)) (va_cwS 2 hts (goodIn_g (fun w hw => by
        simp only [va_wsS, List.mem_append, List.mem_cons, List.not_mem_nil, or_false] at hw
        rcases hw with (rfl | rfl | rfl) | rfl | h
        · exact wAt_sp hins rfl
        · exact ciIn.2.1
        · exact ciIn.2.2.1
        · exact ciIn.1
        · exact h)) rfl rfl rfl (by decide +kernel) ⟨by show 1 + 1 ≤ R.frames; omega, by show 8 + (2 + 11) + 40 ≤ R.locals; omega⟩) ⟨fun a U g mk q => ⟨q.1, va_Zq.moved (u := U) (U := U.calling g mk a) (Vm.Alike.refl U.vm) q.2⟩, fun U hU hWm => ⟨rfl, by
        dsimp only
        rw [hU]
        exact ((va_Zq.moved hWm.alike hro.2.2.2.2.2.2.2.1).kept hS.2.1).narrow (fun q hq => hq.elim)⟩⟩ rfl rfl hlv.1 rfl (lv_room (by rw [catS_eq]; exact hcat)) hdec ⟨by show cells + 0 ≤ R.cells; omega, by show slots + 0 ≤ R.slots; omega⟩) hS (fun q _ h => h.elim) (fun q h => h.elim) (fun u t H1 locs1 ht hvm hw hB hz1 hk1 hS1 => ?_)
    exact hs2 p e R s m args below meth c A D ad cA H1 locs1 cells slots lsR QF ad0 nx0 hctx hroom hnest hro hend hrok hls hlv ⟨hW.1.kept (fun q w hq => hk1 w.1 (hW.1 q w hq).lt (fun h => h)), hW.2⟩ hS1 hag hnx hkc hks
  · replace hstep : eII st (fun a b r => chk (Nat.ble (catS r) 8) (Pr l n d y (pc + 3) kc ks ls (vi (if a < b then b else a) :: r) H K)) := hstep
    obtain ⟨a, b, r, rfl, hs⟩ := eII_inv hstep
    obtain ⟨hc, hs2⟩ := chk_inv hs
    have hcat : catS r ≤ 8 := Nat.le_of_ble_eq_true hc
    have ha : -2147483648 ≤ a ∧ a < 2147483648 := okS_h (okS_t hst)
    have hb0 : -2147483648 ≤ b ∧ b < 2147483648 := okS_h hst
    refine va_mmax (rest := r.map (mval ad)) hx hb (hml.trans hlv.1.symm) hown (hts _ (wAt_sp hins rfl)) (hts _ mathIn.2.1) (hts _ mathIn.1) (hts _ mathIn.2.2.1) (by omega) (by rw [catS_eq]; omega) (by omega) (by omega) hdec ?_
    rw [show (if Int32.ofInt a < Int32.ofInt b then Int32.ofInt b else Int32.ofInt a) = Int32.ofInt (if a < b then b else a) by
      by_cases q : a < b
      · rw [if_pos q, if_pos ((ofInt_lt ha hb0).mpr q)]
      · rw [if_neg q, if_neg (fun w => q ((ofInt_lt ha hb0).mp w))]]
    exact nxt hs2 (okS_c (by show _ ∧ _; split <;> assumption) (okS_t (okS_t hst)))
  · replace hstep : eII st (fun a b r => chk (Nat.ble (catS r) 8) (Pr l n d y (pc + 3) kc ks ls (vi (if b < a then b else a) :: r) H K)) := hstep
    obtain ⟨a, b, r, rfl, hs⟩ := eII_inv hstep
    obtain ⟨hc, hs2⟩ := chk_inv hs
    have hcat : catS r ≤ 8 := Nat.le_of_ble_eq_true hc
    have ha : -2147483648 ≤ a ∧ a < 2147483648 := okS_h (okS_t hst)
    have hb0 : -2147483648 ≤ b ∧ b < 2147483648 := okS_h hst
    refine va_mmin (rest := r.map (mval ad)) hx hb (hml.trans hlv.1.symm) hown (hts _ (wAt_sp hins rfl)) (hts _ mathIn.2.2.2.1) (hts _ mathIn.1) (hts _ mathIn.2.2.2.2.1) (by omega) (by rw [catS_eq]; omega) (by omega) (by omega) hdec ?_
    rw [show (if Int32.ofInt b < Int32.ofInt a then Int32.ofInt b else Int32.ofInt a) = Int32.ofInt (if b < a then b else a) by
      by_cases q : b < a
      · rw [if_pos q, if_pos ((ofInt_lt hb0 ha).mpr q)]
      · rw [if_neg q, if_neg (fun w => q ((ofInt_lt hb0 ha).mp w))]]
    exact nxt hs2 (okS_c (by show _ ∧ _; split <;> assumption) (okS_t (okS_t hst)))
  · replace hstep : eI st (fun a r => chk (Nat.ble (catS r) 8) (Pr l n d y (pc + 3) kc ks ls (vi (wr (if 0 ≤ a then a else 0 - a)) :: r) H K)) := hstep
    obtain ⟨a, r, rfl, hs⟩ := eI_inv hstep
    obtain ⟨hc, hs2⟩ := chk_inv hs
    have hcat : catS r ≤ 8 := Nat.le_of_ble_eq_true hc
    have ha : -2147483648 ≤ a ∧ a < 2147483648 := okS_h hst
    refine va_mabs (rest := r.map (mval ad)) hx hb (hml.trans hlv.1.symm) hown (hts _ (wAt_sp hins rfl)) (hts _ mathIn.2.2.2.2.2.1) (hts _ mathIn.1) (hts _ mathIn.2.2.2.2.2.2) (by omega) (by rw [catS_eq]; omega) (by omega) (by omega) hdec ?_
    rw [show (if 0 ≤ Int32.ofInt a then Int32.ofInt a else 0 - Int32.ofInt a) = Int32.ofInt (wr (if 0 ≤ a then a else 0 - a)) by
      by_cases q : 0 ≤ a
      · have h1 : (0 : Int32) ≤ Int32.ofInt a := (ofInt_le (a := 0) ⟨by omega, by omega⟩ ha).mpr q
        rw [if_pos q, if_pos h1, wr_id ha.1 ha.2]
      · have h1 : ¬ (0 : Int32) ≤ Int32.ofInt a := fun w => q ((ofInt_le (a := 0) ⟨by omega, by omega⟩ ha).mp w)
        rw [if_neg q, if_neg h1]
        exact ofInt_sub' 0 a]
    exact nxt hs2 (okS_c (wrV _ _) (okS_t hst))
  · rename_i hz3 hz4 hz5 hz6 hz7
    split at hstep
    · exact absurd rfl hz3
    · exact absurd rfl hz4
    · exact absurd rfl hz5
    · exact absurd rfl hz6
    · exact absurd rfl hz7
    · simp only [Bool.and_eq_true, beq_iff_eq] at hins
      obtain ⟨⟨⟨⟨h228, hkd⟩, hl⟩, hnp⟩, hic⟩ := hins
      have hok := hM ia (Nat.lt_of_succ_le (Nat.le_of_ble_eq_true h228))
      have v1 := okMeth_S hok.1 hkd
      obtain ⟨s1, s2, s3, s4, s5, s6⟩ := okMeth_sp hok
      obtain ⟨d', rfl, hcat, hmc, hms, hll, hlen, hE⟩ := callW_inv hstep
      subst hic
      have hargsok : okS H.2.2.2 ((st.take ib).reverse) := okS_sub hst fun v hv => List.mem_of_mem_take (List.mem_reverse.mp hv)
      have hrest : okS H.2.2.2 (st.drop ib) := okS_sub hst fun v hv => List.mem_of_mem_drop hv
      have hmx := mMax_le ia
      have M := met_of hE hok hargsok hll D ad cA HH.size
      refine call_fin (a := ((st.take ib).reverse.map (mval ad)).toArray) hctx hroom hnest hro hend hls hlv hW hS hag hnx hkc hks hrest hmc hms (va_runS (As := (st.take ib).reverse.map (mval ad)) ⟨hx, hb, hml, hown, hts⟩ M (va_cwS (nPar (mNm ia)) hts (goodIn_g (fun w hw => ?_)) rfl rfl rfl ⟨s2, s3, s4⟩ ⟨?_, ?_⟩) ⟨mPc_blind _, fun U hU hWm => ⟨rfl, mPc_at hW hro hnest hS hA hU hWm⟩⟩ rfl ?_ hlv.1 ?_ (lv_room ?_) hdec ⟨?_, ?_⟩)
      · simp only [va_wsS, List.mem_append, List.mem_cons, List.not_mem_nil, or_false] at hw
        rcases hw with (rfl | rfl | rfl) | h
        · exact wAt_sp hl rfl
        · exact v1
        · exact s6
        · exact mWs_in hok w h
      · show d' + 2 + 1 ≤ R.frames
        omega
      · show 8 + (mMax ia + 11) + (40 * d' + 200) ≤ R.locals
        omega
      · simp only [List.length_map] at hlen ⊢
        omega
      · show st.map (mval ad) = _
        rw [← List.map_reverse, ← List.map_append, ← take_split0]
      · rw [catS_eq]; exact hcat
      · omega
      · omega
set_option maxRecDepth 20000 in
set_option maxHeartbeats 2000000 in
theorem cl_invokespecial {l : Launch} {n d y pc : Nat} {i : Nat} {len ia ib ic : Nat} {z : Int} {sw : List (Int × Nat)} {kc ks : Nat} {ls : mLs} {st : List mV} {H : mH} {K : mK} (hM : ∀ t, t < 228 → okM t) (hw : okRow (y, pc, .invokespecial i, len, (ia, ib, ic), z, sw) = true) (hstep : stepW n (Pr l n) (ent (Pr l n)) d (y, pc, .invokespecial i, len, (ia, ib, ic), z, sw) kc ks ls st H K) : Pr l n d y pc kc ks ls st H K := by
  obtain ⟨hdec, hins, hyl⟩ := okRow_sp hw
  simp only [okIns, Bool.and_eq_true, Bool.or_eq_true, decide_eq_true_eq, beq_iff_eq] at hins
  intro p e R s m args below meth c A D ad cA HH locs cells slots lsR QF ad0 nx0 hctx hroom hnest hro hend hst hls hlv hW hS hag hnx hkc hks
  obtain ⟨hx, hb, hr, hml, hown, hts, hlk, hini, hA⟩ := id hctx
  have nxt : ∀ {pc' : Nat} {st' : List mV}, Pr l n d y pc' kc ks ls st' H K → okS H.2.2.2 st' → W p l e R s m args below meth c HH locs cells slots QF (F0 m pc' lsR (st'.map (mval ad))) := fun h ok => h p e R s m args below meth c A D ad cA HH locs cells slots lsR QF ad0 nx0 hctx hroom hnest hro hend ok hls hlv hW hS hag hnx hkc hks
  have nxtL : ∀ {pc' : Nat} {st' : List mV} {ls' : mLs} {lsR' : Array Slot}, Pr l n d y pc' kc ks ls' st' H K → okS H.2.2.2 st' → okLs H.2.2.2 ls' → lv_has lsR' (mMax y) (lvOf ad ls') → W p l e R s m args below meth c HH locs cells slots QF (F0 m pc' lsR' (st'.map (mval ad))) := fun h ok okl hl => h p e R s m args below meth c A D ad cA HH locs cells slots _ QF ad0 nx0 hctx hroom hnest hro hend ok okl hl hW hS hag hnx hkc hks
  dsimp only [stepW] at hstep
  obtain ⟨rfl, hins⟩ := hins
  obtain ⟨r1, r2, r3, r4⟩ := id hroom
  split at hins
  · obtain ⟨x, r, rfl, hs⟩ := eR_inv hstep
    obtain ⟨a, rfl, hs2⟩ := drf_inv hs
    obtain ⟨hc, hs3⟩ := chk_inv hs2
    have hcat : catS r ≤ 8 := Nat.le_of_ble_eq_true hc
    refine W.objInit (g := F0 m pc lsR ((vr (some a) :: r).map (mval ad))) (rest := r.map (mval ad)) hx hb hown (hts _ (wAt_sp hins rfl)) (hts _ objIn.1) (hts _ objIn.2) rfl (hlv.1.trans hml.symm) rfl hdec (by omega) ?_ (nxt hs3 (okS_t hst))
    rw [catS_eq]
    show 2 * 0 + catS r + 12 ≤ R.locals
    omega
  · rename_i hz2
    split at hstep
    · exact absurd rfl hz2
    · simp only [Bool.and_eq_true, Bool.or_eq_true, beq_iff_eq, decide_eq_true_eq] at hins
      obtain ⟨⟨⟨⟨h228, hkd⟩, hl⟩, hnp⟩, hic⟩ := hins
      have hok := hM ia (Nat.lt_of_succ_le (Nat.le_of_ble_eq_true h228))
      obtain ⟨v1, v2, v3⟩ := okMeth_I hok.1 hkd
      obtain ⟨s1, s2, s3, s4, s5, s6⟩ := okMeth_sp hok
      obtain ⟨a, tl, hargs, hs⟩ := recvW_inv hstep
      obtain ⟨hta, hs2⟩ := chk_inv hs
      obtain ⟨d', rfl, hcat, hmc, hms, hll, hlen, hE⟩ := callW_inv hs2
      have hargsok : okS H.2.2.2 ((st.take ib).reverse) := okS_sub hst fun v hv => List.mem_of_mem_take (List.mem_reverse.mp hv)
      have hrest : okS H.2.2.2 (st.drop ib) := okS_sub hst fun v hv => List.mem_of_mem_drop hv
      have hmx := mMax_le ia
      rw [hargs] at hargsok
      have hk0 : rkOf (mRet ia) = 0 := by rw [v3]; rfl
      have M := met_of hE hok hargsok hll D ad cA HH.size
      rw [hk0] at M
      subst hic
      have hws : mWs ia = Cond.code (mNm ia) (mBytes ia) (mMax ia) none :: gTbl := by unfold mWs; rw [v3]
      have hlen2 : (tl.map (mval ad)).length = nPar (mNm ia) := by
        simp only [List.length_map, List.length_cons] at hlen ⊢
        omega
      have hst2 : st.map (mval ad) = (tl.map (mval ad)).reverse ++ Value.ref (ad a) :: (st.drop ib).map (mval ad) := by
        conv => lhs; rw [take_split hargs]
        simp only [List.map_append, List.map_reverse, List.map_cons]
        rfl
      have hfr : (mRm d' ia).frames + 1 ≤ R.frames := by
        show d' + 2 + 1 ≤ R.frames
        omega
      have hlo : 8 + (mMax ia + 11) + (mRm d' ia).locals ≤ R.locals := by
        show 8 + (mMax ia + 11) + (40 * d' + 200) ≤ R.locals
        omega
      have hpre : PreS s HH (va_Pc ((vr (some a) :: tl).map (mval ad)) (mPc D n ad cA H HH.size)) (Value.ref (ad a) :: tl.map (mval ad)) := ⟨mPc_blind _, fun U hU hWm => ⟨rfl, mPc_at hW hro hnest hS hA hU hWm⟩⟩
      have hrm : 2 * (F0 m pc lsR (st.map (mval ad))).monitorRoom + (((st.drop ib).map (mval ad)).map fun v => v.category).sum ≤ 8 := lv_room (by rw [catS_eq]; exact hcat)
      refine call_fin (k := 0) (a := (Value.ref (ad a) :: tl.map (mval ad)).toArray) hctx hroom hnest hro hend hls hlv hW hS hag hnx hkc hks hrest hmc hms ?_
      rcases hl with hl | hl
      · exact va_runI (As := tl.map (mval ad)) ⟨hx, hb, hml, hown, hts⟩ M (cwI (nPar (mNm ia)) hts (goodIn_g (mWs_in hok)) hws rfl rfl (hts _ s6) (hts _ (wAt_sp hl rfl)) (hts _ v1) v2 ⟨s2, s3, s4⟩ ⟨hfr, hlo⟩) hpre rfl hlen2 hlv.1 hst2 hrm hdec ⟨by omega, by omega⟩
      · exact va_runIN (As := tl.map (mval ad)) ⟨hx, hb, hml, hown, hts⟩ M ⟨va_cnB (nPar (mNm ia)) hts (goodIn_g (mWs_in hok)) hws rfl rfl (hnest.2.1 _ hl) (hts _ s6) ⟨s2, s3, s4⟩ ⟨hfr, hlo⟩, v2, hts _ v1⟩ hpre rfl hlen2 hlv.1 hst2 hrm hdec ⟨by omega, by omega⟩
