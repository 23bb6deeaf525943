/-! ===== the small machine's calls are the machine's ===== -/
theorem mW_moved {D : va_G} {n : Nat} {ad : Nat → Nat} {cA : Nat → ClassId} {H : mH} {A : Nat → Prop} {u U : State} {HH : Heap} (hvm : u.vm.Alike U.vm) (h : mW D n ad cA H A u HH) : mW D n ad cA H A U HH :=
  ⟨h.1, h.2.1, va_K.moved hvm h.2.2.1, fun x h1 h2 h3 => ⟨arrOfT_moved hvm (h.2.2.2.1 x h1 h2 h3).1, va_RA.moved hvm (h.2.2.2.1 x h1 h2 h3).2⟩, h.2.2.2.2⟩
theorem mRO_moved {n : Nat} {ad : Nat → Nat} {H : mH} {A : Nat → Prop} {u U : State} {HH : Heap} (hvm : u.vm.Alike U.vm) (h : mRO n ad H A u HH) : mRO n ad H A U HH := by
  obtain ⟨a, b, c, dd, q1, q2, q3, q4, r⟩ := h
  exact ⟨va_T.moved hvm a, va_T.moved hvm b, va_T.moved hvm c, fun i hi => ⟨va_O.moved hvm (dd i hi).1, va_OF.moved hvm (dd i hi).2.1, va_OF.moved hvm (dd i hi).2.2.1, va_T.moved hvm (dd i hi).2.2.2⟩, va_Z.moved hvm q1, va_Z.moved hvm q2, va_Z.moved hvm q3, va_Zq.moved hvm q4, r⟩
theorem mRO_kept {n : Nat} {ad : Nat → Nat} {H : mH} {A : Nat → Prop} {U : State} {HH HH1 : Heap} (hq : ∀ a : Nat, a < HH.size → ¬ A a → HH1[a]? = HH[a]?) (h : mRO n ad H A U HH) : mRO n ad H A U HH1 := by
  obtain ⟨a, b, c, dd, q1, q2, q3, q4, r⟩ := h
  exact ⟨a.kept hq, b.kept hq, c.kept hq, fun i hi => ⟨(dd i hi).1.kept hq, (dd i hi).2.1.kept hq, (dd i hi).2.2.1.kept hq, (dd i hi).2.2.2.kept hq⟩, q1.kept hq, q2.kept hq, q3.kept hq, q4.kept hq, r⟩
theorem mRO_narrow {n : Nat} {ad : Nat → Nat} {H : mH} {A B : Nat → Prop} {U : State} {HH : Heap} (hAB : ∀ q, B q → A q) (h : mRO n ad H A U HH) : mRO n ad H B U HH := by
  obtain ⟨a, b, c, dd, q1, q2, q3, q4, r⟩ := h
  exact ⟨a.narrow hAB, b.narrow hAB, c.narrow hAB, fun i hi => ⟨(dd i hi).1.narrow hAB, (dd i hi).2.1.narrow hAB, (dd i hi).2.2.1.narrow hAB, (dd i hi).2.2.2.narrow hAB⟩, q1.narrow hAB, q2.narrow hAB, q3.narrow hAB, q4.narrow hAB, r⟩
theorem nestL_warm {s U : State} (hW : s.WarmedH U.vm) : ∀ w ∈ mNestL, va_Nw w s → va_Nw w U := by
  intro w hw
  simp only [mNestL, List.mem_cons, List.not_mem_nil, or_false] at hw
  rcases hw with rfl | rfl | rfl | rfl | rfl | rfl | rfl | rfl <;> exact va_Nw.warmM hW
theorem mNest_warm {ad : Nat → Nat} {s U : State} (hW : s.WarmedH U.vm) (h : mNest ad s) : mNest ad U := by
  obtain ⟨a, b, c, dd, e1, e2, e3⟩ := h
  exact ⟨fun q hq => vk_R.warm hW (a q hq), fun w hw => nestL_warm hW w hw (b w hw), va_Nw.warmF hW c, va_Nw.warmF hW dd, va_AO.moved hW.alike e1, va_AO.moved hW.alike e2, va_AO.moved hW.alike e3⟩
theorem nestL_tab : ∀ w ∈ mNestL, w.onTables = true := by
  intro w hw
  simp only [mNestL, List.mem_cons, List.not_mem_nil, or_false] at hw
  rcases hw with rfl | rfl | rfl | rfl | rfl | rfl | rfl | rfl <;> rfl
theorem mNest_same {ad : Nat → Nat} {s U : State} (hv : U.vm = s.vm) (h : mNest ad s) : mNest ad U := by
  obtain ⟨a, b, c, dd, e1, e2, e3⟩ := h
  have al : s.vm.Alike U.vm := by rw [hv]; exact Vm.Alike.refl _
  exact ⟨fun q hq => vk_R.same hv (a q hq), fun w hw => va_Nw.same (nestL_tab w hw) hv.symm (b w hw), va_Nw.same rfl hv.symm c, va_Nw.same rfl hv.symm dd, va_AO.moved al e1, va_AO.moved al e2, va_AO.moved al e3⟩
abbrev mU : Type := Option mV × mH × (Nat → Nat) × (Nat → ClassId)
def mB (D : va_G) (n : Nat) (A : Nat → Prop) (a0 : mA0) (nx0 : Nat) (Q : mK) (u : mU) (t : State) : Prop :=
  Q u.1 u.2.1 ∧ (∀ v, u.1 = some v → okV u.2.1.2.2.2 v) ∧ agH nx0 a0 u.2.2.1 u.2.1 ∧ nx0 ≤ u.2.1.2.2.2 ∧ mW D n u.2.2.1 u.2.2.2 u.2.1 A t t.heap
def mQ (D : va_G) (n : Nat) (A : Nat → Prop) (a0 : mA0) (nx0 : Nat) (Q : mK) (k : Nat) : Array Value → State → Outcome → State → Prop := match k with
  | 0 => va_Qv (S := mU) (fun u => u.1 = none) (mB D n A a0 nx0 Q) A
  | 1 => va_Qi (S := mU) (fun r u => ∃ x, u.1 = some (vi x) ∧ r = Int32.ofInt x) (mB D n A a0 nx0 Q) A
  | 2 => va_Ql (S := mU) (fun r u => u.1 = some (vl r)) (mB D n A a0 nx0 Q) A
  | _ => va_Qr (S := mU) (fun _ => True) (fun u a t => (∃ h, u.1 = some (vr (some h)) ∧ a = u.2.2.1 h) ∧ mB D n A a0 nx0 Q u t) A
def mPc (D : va_G) (n : Nat) (ad : Nat → Nat) (cA : Nat → ClassId) (H : mH) (sz : Nat) (U : State) : Prop := U.heap.size = sz ∧ mW D n ad cA H (fun _ => True) U U.heap ∧ mRO n ad H (va_A (mws n ad cA H) sz) U U.heap ∧ mNest ad U
def mWs (y : Nat) : List Cond := .code (mNm y) (mBytes y) (mMax y) (mRet y) :: gTbl
theorem locs0_len (ad : Nat → Nat) : ∀ (vs : List mV), (lg_sl (vs.map (mval ad))).length = (locs0 vs).length := by
  intro vs
  induction vs with
  | nil => rfl
  | cons v r ih =>
    rcases v with x | x | (_ | a)
    · exact congrArg (· + 1) ih
    · exact congrArg (· + 2) ih
    · exact congrArg (· + 1) ih
    · exact congrArg (· + 1) ih
theorem locs0_mem (ad : Nat → Nat) (k : Nat) : ∀ (vs : List mV) (i j : Nat) (v : mV), (locs0 vs ++ List.replicate k none)[j]? = some (some v) → v ∈ vs ∧ (i + j, mval ad v) ∈ lv_args i (vs.map (mval ad)) := by
  intro vs
  induction vs with
  | nil =>
    intro i j v h
    simp only [locs0, List.nil_append] at h
    have := List.mem_of_getElem? h
    rw [List.mem_replicate] at this
    cases this.2
  | cons w r ih =>
    intro i j v h
    have one : ∀ w : mV, (mval ad w).category = 1 → locs0 (w :: r) = some w :: locs0 r → (locs0 (w :: r) ++ List.replicate k none)[j]? = some (some v) → v ∈ w :: r ∧ (i + j, mval ad v) ∈ lv_args i ((w :: r).map (mval ad)) := by
      intro w hc he h
      rw [he] at h
      simp only [List.map_cons, lv_args, hc]
      cases j with
      | zero => simp at h; subst h; exact ⟨List.mem_cons_self, List.mem_cons_self⟩
      | succ j =>
        simp only [List.cons_append, List.getElem?_cons_succ] at h
        obtain ⟨h1, h2⟩ := ih (i + 1) j v h
        refine ⟨List.mem_cons_of_mem _ h1, List.mem_cons_of_mem _ ?_⟩
        rw [show i + (j + 1) = i + 1 + j by omega]
        simpa using h2
    rcases w with x | x | (_ | a)
    · exact one _ rfl rfl h
    · have he : locs0 (.inr (.inl x) :: r) = some (.inr (.inl x)) :: none :: locs0 r := rfl
      rw [he] at h
      simp only [List.map_cons, lv_args]
      cases j with
      | zero => simp at h; subst h; exact ⟨List.mem_cons_self, List.mem_cons_self⟩
      | succ j =>
        cases j with
        | zero => simp at h
        | succ j =>
          simp only [List.cons_append, List.getElem?_cons_succ] at h
          obtain ⟨h1, h2⟩ := ih (i + 2) j v h
          refine ⟨List.mem_cons_of_mem _ h1, List.mem_cons_of_mem _ ?_⟩
          rw [show i + (j + 1 + 1) = i + 2 + j by omega]
          simpa [mval, Value.category] using h2
    · exact one _ rfl rfl h
    · exact one _ rfl rfl h
theorem okMeth_sp {y : Nat} (hm0 : okM y) : plainName (mNm y).cls = true ∧ (mNm y).cls ≠ "java/lang/invoke/MethodHandle" ∧ (mNm y).cls ≠ "java/lang/invoke/VarHandle" ∧ (parseMethodDescriptor (mNm y).desc).map (fun d => d.parameters.length) = some (nPar (mNm y)) ∧ Cond.code (mNm y) (mBytes y) (mMax y) (mRet y) ∈ gTbl ∧ Cond.initialized (mNm y).cls ∈ gTbl := by
  have h := hm0.1
  unfold okMeth at h
  simp only [Bool.and_eq_true] at h
  obtain ⟨⟨⟨h1, h2⟩, h3⟩, h4⟩ := h
  have hp : (parseMethodDescriptor (mNm y).desc).map (fun d => d.parameters.length) = some (nPar (mNm y)) := by
    unfold hasPar at h2
    unfold nPar
    cases hq : (parseMethodDescriptor (mNm y).desc).map (fun d => d.parameters.length) with
    | none => rw [hq] at h2; cases h2
    | some k => rfl
  have hm := of_decide_eq_true h1
  refine ⟨h3, hm.1, hm.2, hp, hm0.2, ?_⟩
  split at h4
  · simp only [Bool.and_eq_true, atT, decide_eq_true_eq] at h4
    exact gT h4.1.1.1 rfl
  · simp only [Bool.and_eq_true, atT, decide_eq_true_eq] at h4
    exact gT h4.1.1.1.1 rfl
  · simp only [Bool.and_eq_true, atT, decide_eq_true_eq] at h4
    exact gT h4.1.1.1.1.1 rfl
  · cases h4
set_option maxHeartbeats 4000000 in
theorem met_of {l : Launch} {n d y : Nat} {args : List mV} {H : mH} {Q : mK} (hE : ent (Pr l n) d y args H Q) (hok : okM y) (hargs : okS H.2.2.2 args) (hlen : (locs0 args).length ≤ mMax y) (D : va_G) (ad : Nat → Nat) (cA : Nat → ClassId) (sz : Nat) :
    Met l (mNm y) (mWs y) (mRm d y) (va_Pc (args.map (mval ad)) (mPc D n ad cA H sz)) (mQ D n (va_A (mws n ad cA H) sz) (ad, H.1, H.2.2.1) H.2.2.2 Q (rkOf (mRet y))) (mBud y).1 (mBud y).2 (va_A (mws n ad cA H) sz) := by
  refine Met.ofW (cc := mBytes y) (maxL := mMax y) (ret := mRet y) (okMeth_sp hok).1 rfl ?_
  intro p e s m args' below meth c s₁ B hml hv
  obtain ⟨rfl, hsz, hW, hRO, hN⟩ := hv
  subst hsz
  have hts : ∀ w ∈ gTbl, w.before (args.map (mval ad)).toArray s = true := fun w hw => atoms_spec (ws := mWs y) B.pre w (List.mem_cons_of_mem _ hw)
  generalize hAe : va_A (mws n ad cA H) s.heap.size = A at hRO ⊢
  have hA : ∀ q : Nat, s.heap.size ≤ q → A q := fun q h => by rw [← hAe]; exact Or.inr h
  have hW' : mW D n ad cA H A s s.heap := ⟨hW.1, by rw [← hAe]; exact hW.2.1.self, hW.2.2⟩
  have hl := lv_entry (args.map (mval ad)) (n := mMax y) (by rw [locs0_len]; exact hlen)
  rw [lg_entry_eq]
  generalize (lg_sl (args.map (mval ad)) ++ List.replicate (mMax y - (lg_sl (args.map (mval ad))).length) Slot.unset).toArray = lsR at hl ⊢
  refine hE p e (headSpec (mWs y) (mRm d y)).room s m (args.map (mval ad)).toArray below meth c A D ad cA s.heap [] 0 0 lsR _ (ad, H.1, H.2.2.1) H.2.2.2 ⟨B.exec, B.bytes, B.returns, hml, findClass_of_methodNamed B.named, hts, B.notSynchronized, fun h => (name_of_methodNamed B.named B.method).1.trans h, hA⟩ ⟨Nat.le_refl _, Nat.le_refl _, Nat.le_refl _, Nat.le_refl _⟩ hN hRO ?_ (fun v hv => by cases hv) (fun i v hv => okS_of hargs (locs0_mem ad _ args 0 i v hv).1) (lv_of_sub hl fun q hq => ?_) hW' va_S.rf ⟨fun _ _ => rfl, fun _ _ => ⟨rfl, rfl⟩⟩ (Nat.le_refl _) (by omega) (by omega)
  · intro ad' cA' H' HH locs cells slots ls pc ins r hdec hr1 hv hK hag hnx hW2 hS2 hc hs
    have hb := B.bytes
    have hx := B.exec
    have hlk := B.notSynchronized
    have fin : ∀ t : State, t.heap = HH → s.WarmedH t.vm → mB D n A (ad, H.1, H.2.2.1) H.2.2.2 Q (r, H', ad', cA') t := fun t ht hWt => ⟨hK, hv, hag, hnx, by rw [ht]; exact mW_moved hWt.alike hW2⟩
    refine W.widen hc hs ?_
    rcases hr1 with ⟨rfl, x, ty, rfl, h1, h2, h3⟩ | ⟨rfl, x, rfl, h1⟩ | ⟨rfl, a, ty, rfl, h1, h2⟩ | ⟨rfl, rfl, h1⟩
    · have hk : rkOf (mRet y) = 1 := by rw [h1]; exact h3
      rw [hk]
      exact W.zret (v := Int32.ofInt x) hx hb (B.returns.trans h1) h2 (fun t ht hWt => ⟨⟨Int32.ofInt x, (some (vi x), H', ad', cA'), rfl, ⟨x, rfl, rfl⟩, fin t ht hWt⟩, hS2.F ht⟩) hS2.2.2 hdec hlk
    · have hk : rkOf (mRet y) = 2 := by rw [h1]; rfl
      rw [hk]
      exact W.lret (v := x) hx hb (B.returns.trans h1) (fun t ht hWt => ⟨⟨x, (some (vl x), H', ad', cA'), rfl, rfl, fin t ht hWt⟩, hS2.F ht⟩) hS2.2.2 hdec hlk
    · have hk : rkOf (mRet y) = 3 := by rw [h1]; exact h2
      rw [hk]
      refine W.aret (v := .ref (ad' a)) (rt := ty) hx hb (B.returns.trans h1) ?_ (Or.inr ⟨_, rfl⟩) (fun t ht hWt => ⟨⟨(some (vr (some a)), H', ad', cA'), ad' a, rfl, trivial, ⟨a, rfl, rfl⟩, fin t ht hWt⟩, hS2.F ht⟩) hS2.2.2 hdec hlk
      cases ty <;> first | exact Or.inl ⟨_, rfl⟩ | exact Or.inr ⟨_, rfl⟩ | (cases h2; done)
    · have hk : rkOf (mRet y) = 0 := by rw [h1]; rfl
      rw [hk]
      exact W.vret hx hb (B.returns.trans h1) (fun t ht hWt => ⟨⟨(none, H', ad', cA'), rfl, rfl, fin t ht hWt⟩, hS2.F ht⟩) hS2.2.2 hdec hlk
  · obtain ⟨v, hv, e⟩ := lvOf_mem.mp hq
    have h2 := (locs0_mem ad _ args 0 q.1 v hv).2
    rw [Nat.zero_add, ← e] at h2
    exact h2
theorem catS_eq (ad : Nat → Nat) : ∀ (st : List mV), ((st.map (mval ad)).map fun v => v.category).sum = catS st := by
  intro st
  induction st with
  | nil => rfl
  | cons v r ih =>
    rcases v with x | x | (_ | b)
    · exact congrArg (1 + ·) ih
    · exact congrArg (2 + ·) ih
    · exact congrArg (1 + ·) ih
    · exact congrArg (1 + ·) ih
theorem mMax_le (y : Nat) : mMax y ≤ 12 := by
  unfold mMax
  rw [List.getD_eq_getElem?_getD]
  cases hq : mMaxL[y]? with
  | none => exact Nat.zero_le _
  | some v => exact (show ∀ v ∈ mMaxL, v ≤ 12 by decide +kernel) v (List.mem_of_getElem? hq)
theorem callW_inv {C : mC} {d y kc ks ic ib : Nat} {args st : List mV} {H : mH} {f : Nat → Nat → List mV → mH → Prop} (h : callW C d y kc ks ic ib args st H f) : ∃ d', d = d' + 1 ∧ catS st ≤ 8 ∧ (mBud y).1 ≤ kc ∧ (mBud y).2 ≤ ks ∧ (locs0 args).length ≤ mMax y ∧ args.length = ib ∧ C d' y args H (retW ic st (f (kc - (mBud y).1) (ks - (mBud y).2))) := by
  unfold callW at h
  split at h
  · exact h.elim
  · obtain ⟨hc, h2⟩ := chk_inv h
    simp only [Bool.and_eq_true] at hc
    exact ⟨_, rfl, Nat.le_of_ble_eq_true hc.1, Nat.le_of_ble_eq_true hc.2.1, Nat.le_of_ble_eq_true hc.2.2.1, Nat.le_of_ble_eq_true hc.2.2.2.1, Nat.eq_of_beq_eq_true hc.2.2.2.2, h2⟩
theorem mPc_blind {D : va_G} {n : Nat} {ad : Nat → Nat} {cA : Nat → ClassId} {H : mH} {sz : Nat} (av : List Value) : FrameBlind (va_Pc av (mPc D n ad cA H sz)) := by
  intro a U g mk q
  obtain ⟨q0, q1, q2, q3, q4⟩ := q
  exact ⟨q0, q1, mW_moved (u := U) (U := U.calling g mk a) (Vm.Alike.refl U.vm) q2, mRO_moved (u := U) (U := U.calling g mk a) (Vm.Alike.refl U.vm) q3, mNest_same (s := U) (U := U.calling g mk a) rfl q4⟩
theorem mPc_at {D : va_G} {n : Nat} {ad : Nat → Nat} {cA : Nat → ClassId} {H : mH} {A : Nat → Prop} {s U : State} {HH : Heap} {locs : List Loc} (hW : mW D n ad cA H A s HH) (hro : mRO n ad H A s s.heap) (hnest : mNest ad s) (hS : va_S A s.heap HH locs) (hA : ∀ q, s.heap.size ≤ q → A q) (hU : U.heap = HH) (hWm : s.WarmedH U.vm) : mPc D n ad cA H HH.size U := by
  refine ⟨by rw [hU], ?_, ?_, mNest_warm hWm hnest⟩
  · rw [hU]
    have := mW_moved hWm.alike hW
    exact ⟨this.1, this.2.1.weaken (fun _ _ _ _ => trivial), this.2.2⟩
  · rw [hU]
    refine mRO_narrow (A := A) (fun q hq => ?_) (mRO_moved hWm.alike (mRO_kept hS.2.1 hro))
    rcases hq with ⟨k, e, h⟩ | h
    · exact hW.2.1.2 k _ h
    · exact hA q (Nat.le_trans hS.1 h)
set_option maxHeartbeats 4000000 in
theorem call_fin {l : Launch} {n d y pc kc ks : Nat} {ls : mLs} {H : mH} {K : mK} {p : Program} {e : Env} {R : Room} {s : State} {m : MethodId} {args : Array Value} {below : List Frame} {meth : Method} {c : Code} {A : Nat → Prop} {D : va_G} {ad : Nat → Nat} {cA : Nat → ClassId} {HH : Heap} {locs : List Loc} {cells slots : Nat} {lsR : Array Slot} {QF : State → Prop} {ad0 : mA0} {nx0 : Nat}
    (hctx : mCtx p s m args meth c A y) (hroom : mRoom R d y) (hnest : mNest ad s) (hro : mRO n ad H A s s.heap) (hend : mEnd p l e R s m args below meth c A D n y ad0 nx0 QF K) (hls : okLs H.2.2.2 ls) (hlv : lv_has lsR (mMax y) (lvOf ad ls)) (hW : mW D n ad cA H A s HH) (hS : va_S A s.heap HH locs) (hag : agH nx0 ad0 ad H) (hnx : nx0 ≤ H.2.2.2) (hkc : cells + kc ≤ (mBud y).1) (hks : slots + ks ≤ (mBud y).2)
    {mc ms k : Nat} {st' : List mV} {st0 : List Value} {a : Array Value} (hst' : okS H.2.2.2 st') (hmc : mc ≤ kc) (hms : ms ≤ ks)
    (hr : va_Run p l e R s m args below meth c HH locs cells slots mc ms (F0 m pc lsR st0) (st'.map (mval ad)) (mQ D n (va_A (mws n ad cA H) HH.size) (ad, H.1, H.2.2.1) H.2.2.2 (retW k st' fun st H' => Pr l n d y (pc + 3) (kc - mc) (ks - ms) ls st H' K) k a) (va_A (mws n ad cA H) HH.size)) :
    W p l e R s m args below meth c HH locs cells slots QF (F0 m pc lsR st0) := by
  have hA := hctx.2.2.2.2.2.2.2.2
  have hF : ∀ q, va_A (mws n ad cA H) HH.size q → A q := fun q hq => by
    rcases hq with ⟨k, e, h⟩ | h
    · exact hW.2.1.2 k _ h
    · exact hA q (Nat.le_trans hS.1 h)
  have back : ∀ (u : mU) (t : State) (H1 : Heap) (locs1 : List Loc) (stn : List mV) (stR : List Value), t.heap = H1 → s.vm.Alike t.vm → (∀ v, u.1 = some v → okV u.2.1.2.2.2 v) → agH H.2.2.2 (ad, H.1, H.2.2.1) u.2.2.1 u.2.1 → H.2.2.2 ≤ u.2.1.2.2.2 → mW D n u.2.2.1 u.2.2.2 u.2.1 (va_A (mws n ad cA H) HH.size) t t.heap → va_S A s.heap H1 locs1 → Pr l n d y (pc + 3) (kc - mc) (ks - ms) ls stn u.2.1 K → okS u.2.1.2.2.2 stn → stn.map (mval u.2.2.1) = stR → W p l e R s m args below meth c H1 locs1 (cells + mc) (slots + ms) QF (F0 m (pc + 3) lsR stR) := by
    intro u t H1 locs1 stn stR ht hvm hv hag1 hle hW1 hS1 hP hok hstR
    subst hstR
    have hW2 := mW_moved hvm.symm hW1
    rw [ht] at hW2
    have hW3 : mW D n u.2.2.1 u.2.2.2 u.2.1 A s H1 := ⟨hW2.1, hW2.2.1.weaken (fun k q _ h => hF q.1 h), hW2.2.2⟩
    have e1 : ∀ h, h < 16 → u.2.1.1 h = H.1 h := fun h hh => (hag1.2 h hh).1
    have e2 : ∀ h, h < 16 → u.2.1.2.2.1 h = H.2.2.1 h := fun h hh => (hag1.2 h hh).2
    exact hP p e R s m args below meth c A D _ _ _ _ _ _ lsR QF ad0 nx0 hctx hroom (mNest_agr hW.2.2.2.2.1 hag1.1 hnest) (mRO_congr e1 e2 (mRO_agr hW.2.2.2.2 hag1.1 hro)) hend hok (fun i v hv => okV_le hle (hls i v hv)) (lv_agr hag1.1 hls hlv) hW3 hS1 (agH_G hag1.1 hnx e1 e2 hag) (Nat.le_trans hnx hle) (by omega) (by omega)
  have okR : ∀ u : mU, agH H.2.2.2 (ad, H.1, H.2.2.1) u.2.2.1 u.2.1 → H.2.2.2 ≤ u.2.1.2.2.2 → okS u.2.1.2.2.2 st' ∧ st'.map (mval u.2.2.1) = st'.map (mval ad) := fun u h1 h2 => ⟨fun v hv => okV_le h2 (hst' v hv), map_agr h1.1 hst'⟩
  match k, hr with
  | 0, hr =>
    refine va_callv (a := a) hr hS (fun q _ h => hF q h) hF (fun u t H1 locs1 ht hvm hw hB hz1 hk1 hS1 => ?_)
    obtain ⟨hQ, hv, hag1, hle, hW1⟩ := hB
    obtain ⟨o1, o2⟩ := okR u hag1 hle
    rw [hw] at hQ
    exact back u t H1 locs1 st' _ ht hvm hv hag1 hle hW1 hS1 hQ o1 o2
  | 1, hr =>
    refine va_calli (a := a) hr hS (fun q _ h => hF q h) hF (fun r u t H1 locs1 ht hvm hw hB hz1 hk1 hS1 => ?_)
    obtain ⟨hQ, hv, hag1, hle, hW1⟩ := hB
    obtain ⟨o1, o2⟩ := okR u hag1 hle
    obtain ⟨x, hx, rfl⟩ := hw
    have hvx := hv _ hx
    rw [hx] at hQ
    exact back u t H1 locs1 (vi x :: st') _ ht hvm hv hag1 hle hW1 hS1 hQ (okS_c hvx o1) (by rw [List.map_cons, o2]; rfl)
  | 2, hr =>
    refine va_calll (a := a) hr hS (fun q _ h => hF q h) hF (fun r u t H1 locs1 ht hvm hw hB hz1 hk1 hS1 => ?_)
    obtain ⟨hQ, hv, hag1, hle, hW1⟩ := hB
    obtain ⟨o1, o2⟩ := okR u hag1 hle
    have hvx := hv _ hw
    rw [hw] at hQ
    exact back u t H1 locs1 (vl r :: st') _ ht hvm hv hag1 hle hW1 hS1 hQ (okS_c hvx o1) (by rw [List.map_cons, o2]; rfl)
  | (k + 3), hr =>
    refine va_callr (a := a) hr hS (fun q _ h => hF q h) hF (fun u ra t H1 locs1 ht hvm hw hB hz1 hk1 hS1 => ?_)
    obtain ⟨⟨h0, hx, rfl⟩, hQ, hv, hag1, hle, hW1⟩ := hB
    obtain ⟨o1, o2⟩ := okR u hag1 hle
    have hvx := hv _ hx
    rw [hx] at hQ
    exact back u t H1 locs1 (vr (some h0) :: st') _ ht hvm hv hag1 hle hW1 hS1 hQ (okS_c hvx o1) (by rw [List.map_cons, o2]; rfl)
