/-! ===== the small machine's cells, held by the machine's heap ===== -/
section Num
theorem wr_range (x : Int) : -2147483648 ≤ wr x ∧ wr x < 2147483648 := by unfold wr; omega
theorem wr_id {x : Int} (h1 : -2147483648 ≤ x) (h2 : x < 2147483648) : wr x = x := by unfold wr; omega
theorem toInt_ofInt_wr (x : Int) : (Int32.ofInt x).toInt = wr x := by
  rw [Int32.toInt_ofInt]
  unfold wr
  rw [Int.bmod_def]
  simp only [show (Int32.size : Int) = 4294967296 from rfl]
  split <;> omega
theorem toInt_ofInt_id {x : Int} (h : -2147483648 ≤ x ∧ x < 2147483648) : (Int32.ofInt x).toInt = x := by rw [toInt_ofInt_wr, wr_id h.1 h.2]
theorem ofInt_toInt32 (x : Int32) : Int32.ofInt x.toInt = x := by
  apply Int32.toInt_inj.mp
  rw [toInt_ofInt_wr]
  have h1 := Int32.le_toInt x
  have h2 := Int32.toInt_lt x
  exact wr_id (by omega) (by omega)
theorem toInt_rng (x : Int32) : -2147483648 ≤ x.toInt ∧ x.toInt < 2147483648 := ⟨by have := Int32.le_toInt x; omega, by have := Int32.toInt_lt x; omega⟩
theorem ofInt_wr (x : Int) : Int32.ofInt (wr x) = Int32.ofInt x := by
  apply Int32.toInt_inj.mp
  rw [toInt_ofInt_wr, toInt_ofInt_wr]
  unfold wr; omega
theorem ofInt_add' (a b : Int) : Int32.ofInt a + Int32.ofInt b = Int32.ofInt (wr (a + b)) := by rw [ofInt_wr, Int32.ofInt_add]
theorem ofInt_sub' (a b : Int) : Int32.ofInt a - Int32.ofInt b = Int32.ofInt (wr (a - b)) := by rw [ofInt_wr, Int32.ofInt_sub]
theorem ofInt_mul' (a b : Int) : Int32.ofInt a * Int32.ofInt b = Int32.ofInt (wr (a * b)) := by rw [ofInt_wr, Int32.ofInt_mul]
theorem ofInt_neg' (a : Int) : -Int32.ofInt a = Int32.ofInt (wr (-a)) := by rw [ofInt_wr, Int32.ofInt_neg]
theorem ofInt_div' {a b : Int} (ha : -2147483648 ≤ a ∧ a < 2147483648) (hb : -2147483648 ≤ b ∧ b < 2147483648) : Int32.ofInt a / Int32.ofInt b = Int32.ofInt (wr (a.tdiv b)) := by
  apply Int32.toInt_inj.mp
  rw [ofInt_wr, toInt_ofInt_wr, Int32.toInt_div, toInt_ofInt_id ha, toInt_ofInt_id hb]
  unfold wr
  rw [Int.bmod_def]
  split <;> omega
theorem ofInt_rem' {a b : Int} (ha : -2147483648 ≤ a ∧ a < 2147483648) (hb : -2147483648 ≤ b ∧ b < 2147483648) : Int32.ofInt a - Int32.ofInt a / Int32.ofInt b * Int32.ofInt b = Int32.ofInt (a.tmod b) := by
  apply Int32.toInt_inj.mp
  rw [rem_toInt, toInt_ofInt_id ha, toInt_ofInt_id hb]
  have h := toInt_rng (Int32.ofInt a - Int32.ofInt a / Int32.ofInt b * Int32.ofInt b)
  rw [rem_toInt, toInt_ofInt_id ha, toInt_ofInt_id hb] at h
  rw [toInt_ofInt_id h]
theorem tmod_rng {a b : Int} (ha : -2147483648 ≤ a ∧ a < 2147483648) (hb : -2147483648 ≤ b ∧ b < 2147483648) : -2147483648 ≤ a.tmod b ∧ a.tmod b < 2147483648 := by
  have h := toInt_rng (Int32.ofInt a - Int32.ofInt a / Int32.ofInt b * Int32.ofInt b)
  rwa [rem_toInt, toInt_ofInt_id ha, toInt_ofInt_id hb] at h
theorem ofInt_eq {a b : Int} (ha : -2147483648 ≤ a ∧ a < 2147483648) (hb : -2147483648 ≤ b ∧ b < 2147483648) : Int32.ofInt a = Int32.ofInt b ↔ a = b := by
  rw [← Int32.toInt_inj, toInt_ofInt_id ha, toInt_ofInt_id hb]
theorem ofInt_lt {a b : Int} (ha : -2147483648 ≤ a ∧ a < 2147483648) (hb : -2147483648 ≤ b ∧ b < 2147483648) : Int32.ofInt a < Int32.ofInt b ↔ a < b := by
  rw [Int32.lt_iff_toInt_lt, toInt_ofInt_id ha, toInt_ofInt_id hb]
theorem ofInt_le {a b : Int} (ha : -2147483648 ≤ a ∧ a < 2147483648) (hb : -2147483648 ≤ b ∧ b < 2147483648) : Int32.ofInt a ≤ Int32.ofInt b ↔ a ≤ b := by
  rw [Int32.le_iff_toInt_le, toInt_ofInt_id ha, toInt_ofInt_id hb]
theorem clamp_ofInt {i : Int} {N : Nat} (h : 0 ≤ i ∧ i < N) (hN : N < 2147483648) : (Int32.ofInt i).toNatClampNeg = i.toNat := by
  show (Int32.ofInt i).toInt.toNat = i.toNat
  rw [toInt_ofInt_id ⟨by omega, by omega⟩]
theorem in_ofInt {i : Int} {N : Nat} (h : 0 ≤ i ∧ i < N) (hN : N < 2147483648) : vp_in (Int32.ofInt i) N := by
  rw [vp_in_iff, toInt_ofInt_id ⟨by omega, by omega⟩]
  exact h
theorem ofNat_ofInt (n : Nat) : Int32.ofNat n = Int32.ofInt (n : Int) := by
  first | rfl | exact (Int32.ofInt_eq_ofNat).symm | simp
end Num
section Cells
def mval (ad : Nat → Nat) (v : mV) : Value := match v with
  | .inl x => .int (Int32.ofInt x)
  | .inr (.inl x) => .long x
  | .inr (.inr none) => .null
  | .inr (.inr (some a)) => .ref (ad a)
def okV (nx : Nat) (v : mV) : Prop := match v with
  | .inl x => -2147483648 ≤ x ∧ x < 2147483648
  | .inr (.inl _) => True
  | .inr (.inr none) => True
  | .inr (.inr (some a)) => a < nx
def okS (nx : Nat) (st : List mV) : Prop := ∀ v ∈ st, okV nx v
def okLs (nx : Nat) (ls : mLs) : Prop := ∀ (i : Nat) (v : mV), ls[i]? = some (some v) → okV nx v
def okH (H : mH) : Prop := 16 ≤ H.2.2.2 ∧ (∀ h k, -2147483648 ≤ H.1 h k ∧ H.1 h k < 2147483648) ∧ (∀ h k b, H.2.2.1 h k = some b → b < H.2.2.2) ∧ ∀ h, H.2.2.2 ≤ h → ∀ k, H.1 h k = 0 ∧ H.2.1 h k = 0 ∧ H.2.2.1 h k = none
def agr (nx : Nat) (ad ad' : Nat → Nat) : Prop := ∀ h, h < nx → ad' h = ad h
/-- the cells that were there are where they were; what nobody writes is as it was -/
abbrev mA0 : Type := (Nat → Nat) × (Nat → Nat → Int) × (Nat → Nat → Option Nat)
def agH (nx : Nat) (a0 : mA0) (ad : Nat → Nat) (H : mH) : Prop := agr nx a0.1 ad ∧ ∀ h, h < 16 → H.1 h = a0.2.1 h ∧ H.2.2.1 h = a0.2.2 h
theorem agH_H {nx : Nat} {a0 : mA0} {ad : Nat → Nat} {H H' : mH} (e1 : ∀ h, h < 16 → H'.1 h = H.1 h) (e2 : ∀ h, h < 16 → H'.2.2.1 h = H.2.2.1 h) (h : agH nx a0 ad H) : agH nx a0 ad H' := ⟨h.1, fun x hx => ⟨(e1 x hx).trans (h.2 x hx).1, (e2 x hx).trans (h.2 x hx).2⟩⟩
theorem agH_G {nx : Nat} {a0 : mA0} {ad ad' : Nat → Nat} {H H' : mH} (ha : agr H.2.2.2 ad ad') (hnx : nx ≤ H.2.2.2) (e1 : ∀ h, h < 16 → H'.1 h = H.1 h) (e2 : ∀ h, h < 16 → H'.2.2.1 h = H.2.2.1 h) (h : agH nx a0 ad H) : agH nx a0 ad' H' := ⟨fun q hq => (ha q (Nat.lt_of_lt_of_le hq hnx)).trans (h.1 q hq), (agH_H e1 e2 h).2⟩
theorem mval_agr {nx : Nat} {ad ad' : Nat → Nat} (h : agr nx ad ad') {v : mV} (hv : okV nx v) : mval ad' v = mval ad v := by
  rcases v with x | x | (_ | a)
  · rfl
  · rfl
  · rfl
  · exact congrArg Value.ref (h a hv)
theorem okV_le {a b : Nat} (h : a ≤ b) {v : mV} (hv : okV a v) : okV b v := by
  rcases v with x | x | (_ | c)
  · exact hv
  · trivial
  · trivial
  · exact Nat.lt_of_lt_of_le hv h
theorem map_agr {nx : Nat} {ad ad' : Nat → Nat} (h : agr nx ad ad') {st : List mV} (hs : okS nx st) : st.map (mval ad') = st.map (mval ad) := List.map_congr_left fun v hv => mval_agr h (hs v hv)
def fldV (ad : Nat → Nat) (H : mH) (h k : Nat) : Value := match fkG ((clAt (TY h)).2.1 k).2.2.1 with
  | 1 => va_rf ((H.2.2.1 h k).map ad)
  | _ => .int (Int32.ofInt (H.1 h k))
def arrC (ad : Nat → Nat) (H : mH) (h : Nat) : vp_A := (0, match TY h with
  | 101 => .inr (.inl (H.2.1 h))
  | 100 => .inl fun j => Int32.ofInt (H.1 h j)
  | 102 => .inl fun j => Int32.ofInt (H.1 h j)
  | _ => .inr (.inr (.inr (.inr fun j => (H.2.2.1 h j).map ad))))
def mcell (n : Nat) (ad : Nat → Nat) (cA : Nat → ClassId) (H : mH) (h : Nat) : va_E := match Nat.blt (TY h) 20 with
  | true => .inr (TY h, (List.range (clAt (TY h)).2.2).map (fldV ad H h))
  | false => .inl (cA h, (LN n h, (arrC ad H h).2))
def mws (n : Nat) (ad : Nat → Nat) (cA : Nat → ClassId) (H : mH) : va_W := (List.range (H.2.2.2 - 16)).map fun i => (ad (16 + i), mcell n ad cA H (16 + i))
theorem mws_at {n : Nat} {ad : Nat → Nat} {cA : Nat → ClassId} {H : mH} {h : Nat} (h1 : 16 ≤ h) (h2 : h < H.2.2.2) : (mws n ad cA H)[h - 16]? = some (ad h, mcell n ad cA H h) := by
  have e : 16 + (h - 16) = h := by omega
  simp [mws, show h - 16 < H.2.2.2 - 16 by omega, e]
theorem mws_in {n : Nat} {ad : Nat → Nat} {cA : Nat → ClassId} {H : mH} {k : Nat} {q : Nat × va_E} (hq : (mws n ad cA H)[k]? = some q) : 16 + k < H.2.2.2 ∧ q = (ad (16 + k), mcell n ad cA H (16 + k)) := by
  simp only [mws, List.getElem?_map, Option.map_eq_some_iff] at hq
  obtain ⟨i, hi, rfl⟩ := hq
  have hlt := (List.getElem?_eq_some_iff.mp hi).1
  rw [List.length_range] at hlt
  rw [List.getElem?_range hlt] at hi
  cases hi
  exact ⟨by omega, rfl⟩
/-- the element type of an array cell -/
def ety (h : Nat) : FieldType := match TY h with
  | 100 => .int
  | 101 => .long
  | 102 => .boolean
  | t => .object (clAt (t - 110)).1
/-- what stays as it is: tables, literals, words that aren't of the common kind -/
def mRO (n : Nat) (ad : Nat → Nat) (H : mH) (A : Nat → Prop) (U : State) (HH : Heap) : Prop :=
  va_T .int (ad 0) n (fun j => .int (Int32.ofInt (H.1 0 j))) A U HH ∧ va_T .int (ad 1) 7 (fun j => .int (Int32.ofInt (H.1 1 j))) A U HH ∧ va_T .int (ad 2) 21 (fun j => .int (Int32.ofInt (H.1 2 j))) A U HH ∧
  (∀ i, i < 6 → va_O "java/lang/String" (ad (3 + i)) A U HH ∧ va_OF "java/lang/String" "coder" "B" (.int (Int32.ofInt (H.1 (3 + i) 0))) (ad (3 + i)) A U HH ∧ va_OF "java/lang/String" "value" "[B" (va_rf ((H.2.2.1 (3 + i) 1).map ad)) (ad (3 + i)) A U HH ∧ va_T .byte (ad (9 + i)) (LN n (9 + i)) (fun j => .int (Int32.ofInt (H.1 (9 + i) j))) A U HH) ∧
  va_Z "java/lang/String" "COMPACT_STRINGS" "Z" (.int 1) A U HH ∧ va_Z "ExemptBeauty" "ABOVE" "[I" (.ref (ad 1)) A U HH ∧ va_Z "ExemptBeauty" "BODIES" "[I" (.ref (ad 2)) A U HH ∧ va_Zq "jdk/internal/util/Preconditions" "SIOOBE_FORMATTER" "Ljava/util/function/BiFunction;" A U HH ∧ n < 2147483648
def mStr : List (Nat × Nat × String) := [(84, 3, "ind "), (90, 4, "aste "), (92, 5, "ate "), (94, 6, "li"), (96, 7, "e "), (98, 8, "ght ")]
def mNest (ad : Nat → Nat) (U : State) : Prop := (∀ q ∈ mStr, vk_R RX4 q.1 q.2.2 (ad q.2.1) U) ∧ (∀ w ∈ mNestL, va_Nw w U) ∧ va_Nw (.fieldLinkNest RX0 28 "ExemptBeauty" "BODIES" "[I" "ExemptBeauty") U ∧ va_Nw (.fieldLinkNest RX0 35 "ExemptBeauty" "ABOVE" "[I" "ExemptBeauty") U ∧ va_AO RX2 U ∧ va_AO RX3 U ∧ va_AO RX6 U
def mW (D : va_G) (n : Nat) (ad : Nat → Nat) (cA : Nat → ClassId) (H : mH) (A : Nat → Prop) (U : State) (HH : Heap) : Prop :=
  va_P D vwCl (mws n ad cA H) HH ∧ va_D A (mws n ad cA H) ∧ va_K D vwCl [] U ∧ (∀ h, 16 ≤ h → h < H.2.2.2 → 100 ≤ TY h → ArrOfT U (cA h) (ety h) ∧ va_RA U (cA h) (ety h)) ∧ okH H
end Cells
section Sound
def gTbl : List Cond := lw_tbl.filter goodWord
theorem gT {i : Nat} {w : Cond} (h : lw_tbl[i]? = some w) (hg : goodWord w = true) : w ∈ gTbl := List.mem_filter.mpr ⟨List.mem_of_getElem? h, hg⟩
theorem wAt_sp {sw : List (Int × Nat)} {w : Cond} (h : wAt sw w = true) (hg : goodWord w = true) : w ∈ gTbl := by
  unfold wAt at h
  split at h
  · exact gT (of_decide_eq_true h) hg
  · cases h
theorem gTbl_all : gTbl.all goodWord = true := List.all_eq_true.mpr fun w hw => (List.mem_filter.mp hw).2
/-- the machine at a method of ours -/
def mCtx (p : Program) (s : State) (m : MethodId) (args : Array Value) (meth : Method) (c : Code) (A : Nat → Prop) (y : Nat) : Prop :=
  p.tables.exec = Jvm.exec ∧ c.code = mBytes y ∧ meth.sig.returnType = mRet y ∧ c.maxLocals = mMax y ∧ s.vm.findClass (mOwn y) = some m.cls ∧ (∀ w ∈ gTbl, w.before args s = true) ∧ meth.locks = false ∧ ((mNm y).name = "<init>" → meth.name = "<init>") ∧ (∀ q, s.heap.size ≤ q → A q)
def mRm (d y : Nat) : Room := { frames := d + 2, cells := (mBud y).1, slots := (mBud y).2, locals := 40 * d + 200 }
def mRoom (R : Room) (d y : Nat) : Prop := d + 2 ≤ R.frames ∧ 40 * d + 200 ≤ R.locals ∧ (mBud y).1 ≤ R.cells ∧ (mBud y).2 ≤ R.slots
/-- what is given back, and by which instruction -/
def mRet1 (ins : Instr) (r : Option mV) (y : Nat) : Prop :=
  (ins = .ireturn ∧ ∃ x ty, r = some (vi x) ∧ mRet y = some ty ∧ narrow ty (.int (Int32.ofInt x)) = .int (Int32.ofInt x) ∧ rkOf (some ty) = 1) ∨
  (ins = .lreturn ∧ ∃ x, r = some (vl x) ∧ mRet y = some .long) ∨
  (ins = .areturn ∧ ∃ a ty, r = some (vr (some a)) ∧ mRet y = some ty ∧ rkOf (some ty) = 3) ∨
  (ins = .return_ ∧ r = none ∧ mRet y = none)
def mEnd (p : Program) (l : Launch) (e : Env) (R : Room) (s : State) (m : MethodId) (args : Array Value) (below : List Frame) (meth : Method) (c : Code) (A : Nat → Prop) (D : va_G) (n y : Nat) (ad0 : mA0) (nx0 : Nat) (QF : State → Prop) (K : mK) : Prop :=
  ∀ (ad : Nat → Nat) (cA : Nat → ClassId) (H : mH) (HH : Heap) (locs : List Loc) (cells slots : Nat) (ls : Array Slot) (pc : Nat) (ins : Instr) (r : Option mV), decode (mBytes y) pc = .ok (ins, 1) → mRet1 ins r y → (∀ v, r = some v → okV H.2.2.2 v) → K r H → agH nx0 ad0 ad H → nx0 ≤ H.2.2.2 → mW D n ad cA H A s HH → va_S A s.heap HH locs → cells ≤ (mBud y).1 → slots ≤ (mBud y).2 →
    W p l e R s m args below meth c HH locs cells slots QF (F0 m pc ls (r.toList.map (mval ad)))
def lvOf (ad : Nat → Nat) (ls : mLs) : List (Nat × Value) := (List.range ls.length).filterMap fun i => match ls[i]? with
  | some (some v) => some (i, mval ad v)
  | _ => none
theorem lvOf_mem {ad : Nat → Nat} {ls : mLs} {q : Nat × Value} : q ∈ lvOf ad ls ↔ ∃ v, ls[q.1]? = some (some v) ∧ q.2 = mval ad v := by
  unfold lvOf
  rw [List.mem_filterMap]
  constructor
  · rintro ⟨i, hi, h⟩
    split at h
    · rename_i v hv
      cases h
      exact ⟨v, hv, rfl⟩
    · cases h
  · rintro ⟨v, hv, hq⟩
    have hlt := (List.getElem?_eq_some_iff.mp hv).1
    refine ⟨q.1, List.mem_range.mpr hlt, ?_⟩
    rw [hv]
    simp [← hq]
theorem lv_of_sub {ls : Array Slot} {nL : Nat} {l l' : List (Nat × Value)} (h : lv_has ls nL l) (hs : ∀ q ∈ l', q ∈ l) : lv_has ls nL l' := ⟨h.1, h.2.1, fun q hq => h.2.2 q (hs q hq)⟩
theorem lv_get {ad : Nat → Nat} {lsR : Array Slot} {nL : Nat} {ls : mLs} (h : lv_has lsR nL (lvOf ad ls)) {i : Nat} {v : mV} (hv : ls[i]? = some (some v)) : lsR[i]? = some (.val (mval ad v)) := h.2.2 (i, mval ad v) (lvOf_mem.mpr ⟨v, hv, rfl⟩)
theorem mval_cat {ad : Nat → Nat} {v : mV} (h : (mval ad v).category = 2) : ∃ x, v = vl x := by
  rcases v with x | x | (_ | a)
  · cases h
  · exact ⟨x, rfl⟩
  · cases h
  · cases h
theorem putL_inv {ls : mLs} {i : Nat} {v : mV} {f : mLs → Prop} (h : putL ls i v f) : (∀ j x, i = j + 1 → ls[j]? ≠ some (some (vl x))) ∧ f (ls.set i (some v)) := by
  unfold putL at h
  split at h
  · exact ⟨fun j x hj => by omega, h⟩
  · rename_i j
    split at h
    · exact h.elim
    · rename_i hn
      refine ⟨fun k x hk hh => ?_, h⟩
      obtain rfl : k = j := by omega
      exact hn x hh
theorem lv_put {ad : Nat → Nat} {ls' : Array Slot} {nL : Nat} {ls : mLs} {i : Nat} {v : mV} (hn : ∀ j x, i = j + 1 → ls[j]? ≠ some (some (vl x))) (h : lv_has ls' nL ((i, mval ad v) :: (lvOf ad ls).filter (fun q => !(q.1 == i) && !(q.1 + 1 == i && q.2.category == 2)))) : lv_has ls' nL (lvOf ad (ls.set i (some v))) := by
  refine lv_of_sub h fun q hq => ?_
  obtain ⟨w, hw, e⟩ := lvOf_mem.mp hq
  by_cases hqi : q.1 = i
  · have hw2 := hw
    rw [hqi] at hw2
    have hlt := (List.getElem?_eq_some_iff.mp hw2).1
    rw [List.length_set] at hlt
    rw [List.getElem?_set_self hlt] at hw2
    cases hw2
    rw [List.mem_cons]
    exact Or.inl (Prod.ext hqi e)
  · rw [List.getElem?_set_ne (Ne.symm hqi)] at hw
    refine List.mem_cons_of_mem _ (List.mem_filter.mpr ⟨lvOf_mem.mpr ⟨w, hw, e⟩, ?_⟩)
    simp only [Bool.and_eq_true, Bool.not_eq_true', beq_eq_false_iff_ne, ne_eq, Bool.and_eq_false_iff]
    refine ⟨hqi, ?_⟩
    by_cases h2 : q.1 + 1 = i
    · refine Or.inr fun hc => ?_
      rw [e] at hc
      obtain ⟨x, rfl⟩ := mval_cat hc
      exact hn q.1 x h2.symm hw
    · exact Or.inl h2
theorem okLs_put {nx : Nat} {ls : mLs} (h : okLs nx ls) {i : Nat} {v : mV} (hv : okV nx v) : okLs nx (ls.set i (some v)) := by
  intro j w hw
  by_cases hj : j = i
  · subst hj
    have hlt := (List.getElem?_eq_some_iff.mp hw).1
    rw [List.length_set] at hlt
    rw [List.getElem?_set_self hlt] at hw
    cases hw
    exact hv
  · rw [List.getElem?_set_ne (Ne.symm hj)] at hw
    exact h j w hw
theorem gI_inv {ls : mLs} {i : Nat} {f : Int → Prop} (h : gI ls i f) : ∃ x, ls[i]? = some (some (vi x)) ∧ f x := by
  unfold gI at h; split at h
  · rename_i x hx; exact ⟨x, hx, h⟩
  · exact h.elim
theorem gL_inv {ls : mLs} {i : Nat} {f : Int64 → Prop} (h : gL ls i f) : ∃ x, ls[i]? = some (some (vl x)) ∧ f x := by
  unfold gL at h; split at h
  · rename_i x hx; exact ⟨x, hx, h⟩
  · exact h.elim
theorem gR_inv {ls : mLs} {i : Nat} {f : Option Nat → Prop} (h : gR ls i f) : ∃ x, ls[i]? = some (some (vr x)) ∧ f x := by
  unfold gR at h; split at h
  · rename_i x hx; exact ⟨x, hx, h⟩
  · exact h.elim
theorem eI_inv {st : List mV} {f : Int → List mV → Prop} (h : eI st f) : ∃ x r, st = vi x :: r ∧ f x r := by
  unfold eI at h; split at h
  · exact ⟨_, _, rfl, h⟩
  · exact h.elim
theorem eII_inv {st : List mV} {f : Int → Int → List mV → Prop} (h : eII st f) : ∃ a b r, st = vi b :: vi a :: r ∧ f a b r := by
  unfold eII at h; split at h
  · exact ⟨_, _, _, rfl, h⟩
  · exact h.elim
theorem eL_inv {st : List mV} {f : Int64 → List mV → Prop} (h : eL st f) : ∃ x r, st = vl x :: r ∧ f x r := by
  unfold eL at h; split at h
  · exact ⟨_, _, rfl, h⟩
  · exact h.elim
theorem eLL_inv {st : List mV} {f : Int64 → Int64 → List mV → Prop} (h : eLL st f) : ∃ a b r, st = vl b :: vl a :: r ∧ f a b r := by
  unfold eLL at h; split at h
  · exact ⟨_, _, _, rfl, h⟩
  · exact h.elim
theorem eLI_inv {st : List mV} {f : Int64 → Int → List mV → Prop} (h : eLI st f) : ∃ a b r, st = vi b :: vl a :: r ∧ f a b r := by
  unfold eLI at h; split at h
  · exact ⟨_, _, _, rfl, h⟩
  · exact h.elim
theorem eR_inv {st : List mV} {f : Option Nat → List mV → Prop} (h : eR st f) : ∃ x r, st = vr x :: r ∧ f x r := by
  unfold eR at h; split at h
  · exact ⟨_, _, rfl, h⟩
  · exact h.elim
theorem eRI_inv {st : List mV} {f : Option Nat → Int → List mV → Prop} (h : eRI st f) : ∃ a i r, st = vi i :: vr a :: r ∧ f a i r := by
  unfold eRI at h; split at h
  · exact ⟨_, _, _, rfl, h⟩
  · exact h.elim
theorem eRR_inv {st : List mV} {f : Option Nat → Option Nat → List mV → Prop} (h : eRR st f) : ∃ a v r, st = vr v :: vr a :: r ∧ f a v r := by
  unfold eRR at h; split at h
  · exact ⟨_, _, _, rfl, h⟩
  · exact h.elim
theorem eRII_inv {st : List mV} {f : Option Nat → Int → Int → List mV → Prop} (h : eRII st f) : ∃ a i x r, st = vi x :: vi i :: vr a :: r ∧ f a i x r := by
  unfold eRII at h; split at h
  · exact ⟨_, _, _, _, rfl, h⟩
  · exact h.elim
theorem eRIL_inv {st : List mV} {f : Option Nat → Int → Int64 → List mV → Prop} (h : eRIL st f) : ∃ a i x r, st = vl x :: vi i :: vr a :: r ∧ f a i x r := by
  unfold eRIL at h; split at h
  · exact ⟨_, _, _, _, rfl, h⟩
  · exact h.elim
theorem eRIR_inv {st : List mV} {f : Option Nat → Int → Option Nat → List mV → Prop} (h : eRIR st f) : ∃ a i x r, st = vr x :: vi i :: vr a :: r ∧ f a i x r := by
  unfold eRIR at h; split at h
  · exact ⟨_, _, _, _, rfl, h⟩
  · exact h.elim
theorem eD_inv {st : List mV} {f : mV → List mV → Prop} (h : eD st f) : ∃ v r, st = v :: r ∧ isC1 v = true ∧ f v r := by
  unfold eD at h; split at h
  · split at h
    · rename_i hc; exact ⟨_, _, rfl, hc, h⟩
    · exact h.elim
  · exact h.elim
theorem eDD_inv {st : List mV} {f : mV → mV → List mV → Prop} (h : eDD st f) : ∃ v w r, st = v :: w :: r ∧ isC1 v = true ∧ isC1 w = true ∧ f v w r := by
  unfold eDD at h; split at h
  · split at h
    · rename_i hc; exact ⟨_, _, _, rfl, (Bool.and_eq_true_iff.mp hc).1, (Bool.and_eq_true_iff.mp hc).2, h⟩
    · exact h.elim
  · exact h.elim
theorem drf_inv {r : Option Nat} {f : Nat → Prop} (h : drf r f) : ∃ a, r = some a ∧ f a := by
  unfold drf at h; split at h
  · exact ⟨_, rfl, h⟩
  · exact h.elim
theorem chk_inv {b : Bool} {A : Prop} (h : chk b A) : b = true ∧ A := by
  unfold chk at h; split at h
  · exact ⟨rfl, h⟩
  · exact h.elim
theorem recvW_inv {vs : List mV} {f : Nat → List mV → Prop} (h : recvW vs f) : ∃ a t, vs = vr (some a) :: t ∧ f a (vr (some a) :: t) := by
  unfold recvW at h; split at h
  · obtain ⟨a, rfl, h2⟩ := drf_inv h
    exact ⟨a, _, rfl, h2⟩
  · exact h.elim
theorem isC1_cat {ad : Nat → Nat} {v : mV} (h : isC1 v = true) : (mval ad v).category = 1 := by
  rcases v with x | x | (_ | a)
  · rfl
  · cases h
  · rfl
  · rfl
theorem okS_c {nx : Nat} {v : mV} {st : List mV} (hv : okV nx v) (h : okS nx st) : okS nx (v :: st) := fun w hw => by
  rcases List.mem_cons.mp hw with rfl | h2
  · exact hv
  · exact h w h2
theorem okS_t {nx : Nat} {v : mV} {st : List mV} (h : okS nx (v :: st)) : okS nx st := fun w hw => h w (List.mem_cons_of_mem _ hw)
theorem okS_h {nx : Nat} {v : mV} {st : List mV} (h : okS nx (v :: st)) : okV nx v := h v List.mem_cons_self
theorem okS_of {nx : Nat} {st : List mV} {v : mV} (h : okS nx st) (hv : v ∈ st) : okV nx v := h v hv
theorem okRow_sp {y pc : Nat} {ins : Instr} {len ia ib ic : Nat} {z : Int} {sw : List (Int × Nat)} (h : okRow (y, pc, ins, len, (ia, ib, ic), z, sw) = true) : decode (mBytes y) pc = .ok (ins, len) ∧ okIns y pc ins len ia ib ic z sw = true ∧ y < mNmL.length := by
  simp only [okRow, Bool.and_eq_true, decide_eq_true_eq] at h
  exact ⟨h.1.2, h.2, Nat.lt_of_succ_le (Nat.le_of_ble_eq_true h.1.1)⟩
theorem va_rf_map (ad : Nat → Nat) (r : Option Nat) : va_rf (r.map ad) = mval ad (vr r) := by cases r <;> rfl
theorem wrV (nx : Nat) (x : Int) : okV nx (vi (wr x)) := wr_range x
theorem i32V (nx : Nat) (x : Int32) : okV nx (vi x.toInt) := toInt_rng x
theorem ofInt_b (x : Int32) : x = Int32.ofInt x.toInt := (ofInt_toInt32 x).symm
def Pr (l : Launch) (n : Nat) : mJ := fun d y pc kc ks ls st H K => ∀ (p : Program) (e : Env) (R : Room) (s : State) (m : MethodId) (args : Array Value) (below : List Frame) (meth : Method) (c : Code) (A : Nat → Prop) (D : va_G) (ad : Nat → Nat) (cA : Nat → ClassId) (HH : Heap) (locs : List Loc) (cells slots : Nat) (lsR : Array Slot) (QF : State → Prop) (ad0 : mA0) (nx0 : Nat),
  mCtx p s m args meth c A y → mRoom R d y → mNest ad s → mRO n ad H A s s.heap → mEnd p l e R s m args below meth c A D n y ad0 nx0 QF K → okS H.2.2.2 st → okLs H.2.2.2 ls → lv_has lsR (mMax y) (lvOf ad ls) → mW D n ad cA H A s HH → va_S A s.heap HH locs → agH nx0 ad0 ad H → nx0 ≤ H.2.2.2 → cells + kc ≤ (mBud y).1 → slots + ks ≤ (mBud y).2 →
  W p l e R s m args below meth c HH locs cells slots QF (F0 m pc lsR (st.map (mval ad)))
theorem Pr_mono (l : Launch) (n : Nat) : mMono (Pr l n) := by
  intro d y pc kc ks ls st H K K' hk h p e R s m args below meth c A D ad cA HH locs cells slots lsR QF ad0 nx0 h1 h2 h3 h4 h5
  exact h p e R s m args below meth c A D ad cA HH locs cells slots lsR QF ad0 nx0 h1 h2 h3 h4 fun ad cA H HH locs cells slots ls pc ins r q1 q2 q3 q4 => h5 ad cA H HH locs cells slots ls pc ins r q1 q2 q3 (hk r H q4)
end Sound
