/-! ===== level 2: the cells that the constructors made are where they are; only numbers change, and how many offices there are ===== -/
def RTl : List (List (Option Nat)) := [[], [], [], [none, some 9], [none, some 10], [none, some 11], [none, some 12], [none, some 13], [none, some 14], [], [], [], [], [], [], [], [some 17, some 43, none, some 69, some 73, none, some 74, some 80, some 89, some 91], [some 18, none, none, none, none, some 19, some 21, some 23], [some 25, some 28, some 31, some 34, some 37, some 40], [none, some 20], [], [none, some 22], [], [none, some 24], [], [none, none, none, none, none, some 26, some 27], [], [], [none, none, none, none, none, some 29, some 30], [], [], [none, none, none, none, none, some 32, some 33], [], [], [none, none, none, none, none, some 35, some 36], [], [], [none, none, none, none, none, some 38, some 39], [], [], [none, none, none, none, none, some 41, some 42], [], [], [some 44, none, none, none, none, some 45, some 47, some 49], [some 51, some 54, some 57, some 60, some 63, some 66], [none, some 46], [], [none, some 48], [], [none, some 50], [], [none, none, none, none, none, some 52, some 53], [], [], [none, none, none, none, none, some 55, some 56], [], [], [none, none, none, none, none, some 58, some 59], [], [], [none, none, none, none, none, some 61, some 62], [], [], [none, none, none, none, none, some 64, some 65], [], [], [none, none, none, none, none, some 67, some 68], [], [], [none, none, none, some 70, some 71, none, some 72], [], [], [], [], [some 75], [], [none, none, none, some 77, some 78, none, some 79], [], [], [], [some 81, some 84, some 85, some 86, some 87, some 88], [none, none, none, none, none, some 82, some 83], [], [], [], [], [], [], [], [some 90], [], [some 92, some 94, some 96, some 98, some 100, some 102], [none, none, some 93], [], [none, none, some 95], [], [none, none, some 97], [], [none, none, some 99], [], [none, none, some 101], [], [none, none, some 103], [], [none, none, none, none, some 105, some 106, some 107, some 108, some 109, none, none, none, none, none, some 110, some 111, some 112, some 113, some 114, some 115, some 116, some 117, none, none, none, some 118, none, some 119, none, none, none, some 120, some 121, some 122, some 123, some 124, none, some 125, some 126, some 127, some 128, none, some 129, some 130, some 131, some 132, none, none, some 133, some 134, some 135, some 136, none, none, none, none, none, none, none, none, none, some 137, some 138, some 139, some 140, some 141, some 142, some 143, some 144, some 145, some 146, some 147, some 148, some 149, none, some 150, some 151, some 152, some 153, some 154], [], [], [], [], [], [], [], [], [], [], [], [], [], [], [], [], [], [], [], [], [], [], [], [], [], [], [], [], [], [], [], [], [], [], [], [], [], [], [], [], [], [], [], [], [], [], [], [], [], []]
/-- the office of number j -/
def oH (j : Nat) : Nat := match j with
  | 0 => 76
  | j + 1 => 155 + 4 * j
def Rs (c h k : Nat) : Option Nat := match Nat.blt h 155 with
  | true => match Nat.beq h 73 with
    | true => match Nat.blt k c with
      | true => some (oH k)
      | false => none
    | false => match Nat.beq h 74 && Nat.beq k 4 with
      | true => some (oH c)
      | false => (RTl.getD h []).getD k none
  | false => match Nat.blt h (155 + 4 * c) && Nat.beq ((h - 155) % 4) 0 with
    | true => match k with
      | 3 => some (h + 1)
      | 4 => some (h + 2)
      | 6 => some (h + 3)
      | _ => none
    | false => none
def hs (I : Nat → Nat → Int) (L : Nat → Nat → Int64) (c : Nat) : mH := (I, L, Rs c, 155 + 4 * c)
abbrev mI : Type := Nat → Nat → Int
abbrev mL : Type := Nat → Nat → Int64
abbrev mK2 : Type := Option mV → mI → mL → Nat → Prop
abbrev mJ2 : Type := Nat → Nat → Nat → mLs → List mV → mI → mL → Nat → mK2 → Prop
abbrev mC2 : Type := Nat → Nat → List mV → mI → mL → Nat → mK2 → Prop
def retW2 (ic : Nat) (st : List mV) (f : List mV → mI → mL → Nat → Prop) : mK2 := fun r I L c => match ic with
  | 0 => rv r (f st I L c)
  | 1 => ri r (fun x => f (vi x :: st) I L c)
  | 2 => rl r (fun x => f (vl x :: st) I L c)
  | _ => rr r (fun x => f (vr x :: st) I L c)
def callW2 (C : mC2) (d y ic ib : Nat) (args st : List mV) (I : mI) (L : mL) (c : Nat) (f : List mV → mI → mL → Nat → Prop) : Prop := match d with
  | 0 => False
  | d' + 1 => chk (Nat.ble (catS st) 8 && (Nat.beq (mBud y).1 0 && (Nat.beq (mBud y).2 0 && (Nat.ble (locs0 args).length (mMax y) && Nat.beq args.length ib)))) (C d' y args I L c (retW2 ic st f))
def copyW2 (st : List mV) (I : mI) (L : mL) (n : Nat) (f : List mV → mI → mL → Prop) : Prop := match st with
  | .inl m :: .inl j :: .inr (.inr b) :: .inl i :: .inr (.inr a) :: r =>
    drf a fun a => drf b fun b => (0 ≤ i ∧ 0 ≤ j ∧ 0 ≤ m ∧ i + m ≤ LN n a ∧ j + m ≤ LN n b) ∧
      chk (Nat.beq (TY a) (TY b) && Nat.ble (catS r) 8) (match Nat.beq (TY a) 100 with
        | true => f r (cpy2 I a i.toNat b j.toNat m.toNat) L
        | false => chk (Nat.beq (TY a) 101) (f r I (cpy2 L a i.toNat b j.toNat m.toNat)))
  | _ => False
def stepW2 (n : Nat) (P : mJ2) (C : mC2) (d : Nat) (w : mRow) (ls : mLs) (st : List mV) (I : mI) (L : mL) (c : Nat) (K : mK2) : Prop :=
  match w with
  | (y, pc, ins, len, (ia, ib, ic), z, sw) => match ins with
    | .iconst _ => P d y (pc + len) ls (vi z :: st) I L c K
    | .bipush _ => P d y (pc + len) ls (vi z :: st) I L c K
    | .sipush _ => P d y (pc + len) ls (vi z :: st) I L c K
    | .lconst _ => P d y (pc + len) ls (vl (Int64.ofInt z) :: st) I L c K
    | .ldc2_w _ => P d y (pc + len) ls (vl (Int64.ofInt z) :: st) I L c K
    | .ldc _ => P d y (pc + len) ls (vr (some ia) :: st) I L c K
    | .ldc_w _ => P d y (pc + len) ls (vi z :: st) I L c K
    | .iload _ => gI ls ia fun x => P d y (pc + len) ls (vi x :: st) I L c K
    | .iload_n _ => gI ls ia fun x => P d y (pc + len) ls (vi x :: st) I L c K
    | .lload _ => gL ls ia fun x => P d y (pc + len) ls (vl x :: st) I L c K
    | .lload_n _ => gL ls ia fun x => P d y (pc + len) ls (vl x :: st) I L c K
    | .aload _ => gR ls ia fun x => P d y (pc + len) ls (vr x :: st) I L c K
    | .aload_n _ => gR ls ia fun x => P d y (pc + len) ls (vr x :: st) I L c K
    | .istore _ => eI st fun x r => putL ls ia (vi x) fun ls => P d y (pc + len) ls r I L c K
    | .istore_n _ => eI st fun x r => putL ls ia (vi x) fun ls => P d y (pc + len) ls r I L c K
    | .astore _ => eR st fun x r => drf x fun a => putL ls ia (vr (some a)) fun ls => P d y (pc + len) ls r I L c K
    | .astore_n _ => eR st fun x r => drf x fun a => putL ls ia (vr (some a)) fun ls => P d y (pc + len) ls r I L c K
    | .iinc _ _ => gI ls ia fun x => putL ls ia (vi (wr (x + z))) fun ls => P d y (pc + len) ls st I L c K
    | .iadd => eII st fun a b r => P d y (pc + len) ls (vi (wr (a + b)) :: r) I L c K
    | .isub => eII st fun a b r => P d y (pc + len) ls (vi (wr (a - b)) :: r) I L c K
    | .imul => eII st fun a b r => P d y (pc + len) ls (vi (wr (a * b)) :: r) I L c K
    | .idiv => eII st fun a b r => nzW b (P d y (pc + len) ls (vi (wr (a.tdiv b)) :: r) I L c K)
    | .irem => eII st fun a b r => nzW b (P d y (pc + len) ls (vi (a.tmod b) :: r) I L c K)
    | .ineg => eI st fun a r => P d y (pc + len) ls (vi (wr (-a)) :: r) I L c K
    | .ishl => eII st fun a b r => P d y (pc + len) ls (vi (bshl a b) :: r) I L c K
    | .ishr => eII st fun a b r => P d y (pc + len) ls (vi (bshr a b) :: r) I L c K
    | .iushr => eII st fun a b r => P d y (pc + len) ls (vi (bushr a b) :: r) I L c K
    | .iand => eII st fun a b r => P d y (pc + len) ls (vi (band a b) :: r) I L c K
    | .ior => eII st fun a b r => P d y (pc + len) ls (vi (bior a b) :: r) I L c K
    | .ixor => eII st fun a b r => P d y (pc + len) ls (vi (bxor a b) :: r) I L c K
    | .i2l => eI st fun a r => P d y (pc + len) ls (vl (Int64.ofInt a) :: r) I L c K
    | .l2i => eL st fun a r => P d y (pc + len) ls (vi a.toInt32.toInt :: r) I L c K
    | .i2b => eI st fun a r => P d y (pc + len) ls (vi (bi8 a) :: r) I L c K
    | .i2s => eI st fun a r => P d y (pc + len) ls (vi (bi16 a) :: r) I L c K
    | .i2c => eI st fun a r => P d y (pc + len) ls (vi (bch a) :: r) I L c K
    | .lcmp => eLL st fun a b r => P d y (pc + len) ls (vi (lcm3 a b) :: r) I L c K
    | .lshl => eLI st fun a b r => P d y (pc + len) ls (vl (a <<< ((Int64.ofInt b) &&& 63)) :: r) I L c K
    | .lor => eLL st fun a b r => P d y (pc + len) ls (vl (a ||| b) :: r) I L c K
    | .land => eLL st fun a b r => P d y (pc + len) ls (vl (a &&& b) :: r) I L c K
    | .dup => eD st fun v r => P d y (pc + len) ls (v :: v :: r) I L c K
    | .dup2 => eDD st fun v w r => P d y (pc + len) ls (v :: w :: v :: w :: r) I L c K
    | .pop => eD st fun _ r => P d y (pc + len) ls r I L c K
    | .ifCond q _ => eI st fun x r => cbr q x 0 (P d y ia ls r I L c K) (P d y (pc + len) ls r I L c K)
    | .if_icmp q _ => eII st fun a b r => cbr q a b (P d y ia ls r I L c K) (P d y (pc + len) ls r I L c K)
    | .goto _ => P d y ia ls st I L c K
    | .ifnonnull _ => eR st fun x r => nbr x (P d y (pc + len) ls r I L c K) (P d y ia ls r I L c K)
    | .tableswitch _ _ _ _ => eI st fun x r => swW x sw ia fun t => P d y t ls r I L c K
    | .lookupswitch _ _ => eI st fun x r => swW x sw ia fun t => P d y t ls r I L c K
    | .getfield _ => eR st fun x r => drf x fun a => chk (Nat.beq (TY a) ia) (match ic with
        | 1 => P d y (pc + len) ls (vr (Rs c a ib) :: r) I L c K
        | _ => P d y (pc + len) ls (vi (I a ib) :: r) I L c K)
    | .putfield _ => match ic with
        | 1 => False
        | 2 => eRI st fun x v r => drf x fun a => chk (Nat.beq (TY a) ia) (b01W v (P d y (pc + len) ls r (up2 I a ib v) L c K))
        | _ => eRI st fun x v r => drf x fun a => chk (Nat.beq (TY a) ia) (P d y (pc + len) ls r (up2 I a ib v) L c K)
    | .getstatic _ => match ia with
        | 0 => P d y (pc + len) ls (vi z :: st) I L c K
        | _ => P d y (pc + len) ls (vr (some ib) :: st) I L c K
    | .arraylength => eR st fun x r => drf x fun a => chk (Nat.ble 100 (TY a)) (P d y (pc + len) ls (vi (LN n a : Int) :: r) I L c K)
    | .iaload => eRI st fun x i r => drf x fun a => chk (Nat.beq (TY a) 100 || Nat.beq (TY a) 105) ((0 ≤ i ∧ i < LN n a) ∧ P d y (pc + len) ls (vi (I a i.toNat) :: r) I L c K)
    | .baload => eRI st fun x i r => drf x fun a => chk (Nat.beq (TY a) 102 || Nat.beq (TY a) 104) ((0 ≤ i ∧ i < LN n a) ∧ P d y (pc + len) ls (vi (I a i.toNat) :: r) I L c K)
    | .laload => eRI st fun x i r => drf x fun a => chk (Nat.beq (TY a) 101) ((0 ≤ i ∧ i < LN n a) ∧ P d y (pc + len) ls (vl (L a i.toNat) :: r) I L c K)
    | .aaload => eRI st fun x i r => drf x fun a => chk (Nat.ble 110 (TY a)) ((0 ≤ i ∧ i < LN n a) ∧ P d y (pc + len) ls (vr (Rs c a i.toNat) :: r) I L c K)
    | .iastore => eRII st fun x i v r => drf x fun a => chk (Nat.beq (TY a) 100) ((0 ≤ i ∧ i < LN n a) ∧ P d y (pc + len) ls r (up2 I a i.toNat v) L c K)
    | .bastore => eRII st fun x i v r => drf x fun a => chk (Nat.beq (TY a) 102) ((0 ≤ i ∧ i < LN n a) ∧ b01W v (P d y (pc + len) ls r (up2 I a i.toNat v) L c K))
    | .lastore => eRIL st fun x i v r => drf x fun a => chk (Nat.beq (TY a) 101) ((0 ≤ i ∧ i < LN n a) ∧ P d y (pc + len) ls r I (up2L L a i.toNat v) c K)
    | .invokestatic _ => match z with
        | 3 => copyW2 st I L n fun r I L => P d y (pc + len) ls r I L c K
        | 4 => chkIdxW st fun r => P d y (pc + len) ls r I L c K
        | 5 => eII st fun a b r => chk (Nat.ble (catS r) 8) (P d y (pc + len) ls (vi (if a < b then b else a) :: r) I L c K)
        | 6 => eII st fun a b r => chk (Nat.ble (catS r) 8) (P d y (pc + len) ls (vi (if b < a then b else a) :: r) I L c K)
        | 7 => eI st fun a r => chk (Nat.ble (catS r) 8) (P d y (pc + len) ls (vi (wr (if 0 ≤ a then a else 0 - a)) :: r) I L c K)
        | _ => callW2 C d ia ic ib (st.take ib).reverse (st.drop ib) I L c fun st I L c => P d y (pc + len) ls st I L c K
    | .invokevirtual _ => recvW (st.take ib).reverse fun a vs => chk (Nat.beq (TY a) (mClsOf ia)) (callW2 C d ia ic ib vs (st.drop ib) I L c fun st I L c => P d y (pc + len) ls st I L c K)
    | .invokespecial _ => match z with
        | 2 => eR st fun x r => drf x fun _ => chk (Nat.ble (catS r) 8) (P d y (pc + len) ls r I L c K)
        | _ => recvW (st.take ib).reverse fun a vs => chk (Nat.beq (TY a) (mClsOf ia)) (callW2 C d ia ic ib vs (st.drop ib) I L c fun st I L c => P d y (pc + len) ls st I L c K)
    | .ireturn => match st with
        | [.inl x] => match ia with
          | 0 => K (some (vi x)) I L c
          | 1 => b01W x (K (some (vi x)) I L c)
          | 2 => (0 ≤ x ∧ x < 65536) ∧ K (some (vi x)) I L c
          | _ => x = 0 ∧ K (some (vi x)) I L c
        | _ => False
    | .lreturn => match st with
        | [.inr (.inl x)] => K (some (vl x)) I L c
        | _ => False
    | .areturn => match st with
        | [.inr (.inr x)] => drf x fun a => K (some (vr (some a))) I L c
        | _ => False
    | .return_ => match st with
        | [] => K none I L c
        | _ => False
    | _ => False

/-- a judgement of level 1, at what level 2 speaks of -/
def W2 (n : Nat) : mJ2 := fun d y pc ls st I L c K => Wm n d y pc 0 0 ls st (hs I L c) (fun r H => ∃ I' L' c', H = hs I' L' c' ∧ K r I' L' c')
def ent2 (P : mJ2) : mC2 := fun d y args I L c K => P d y 0 (locs0 args ++ List.replicate (mMax y - (locs0 args).length) none) [] I L c K
def C2 (n : Nat) : mC2 := fun d y args I L c K => Cm n d y args (hs I L c) (fun r H => ∃ I' L' c', H = hs I' L' c' ∧ K r I' L' c')
theorem retW2_sim {ic : Nat} {st : List mV} {f : List mV → mI → mL → Nat → Prop} {g : List mV → mH → Prop} (h : ∀ st I L c, f st I L c → g st (hs I L c)) (r : Option mV) (I : mI) (L : mL) (c : Nat) : retW2 ic st f r I L c → retW ic st g r (hs I L c) := by
  unfold retW2 retW
  match ic with
  | 0 => exact rv_mono (h _ _ _ _)
  | 1 => exact ri_mono fun _ => h _ _ _ _
  | 2 => exact rl_mono fun _ => h _ _ _ _
  | k + 3 => exact rr_mono fun _ => h _ _ _ _
theorem callW2_sim {C : mC2} {C' : mC} {d y ic ib : Nat} {args st : List mV} {I : mI} {L : mL} {c : Nat} {f : List mV → mI → mL → Nat → Prop} {g : Nat → Nat → List mV → mH → Prop} (hC : ∀ d y args I L c (Q : mK2) (Q' : mK), (∀ r I L c, Q r I L c → Q' r (hs I L c)) → C d y args I L c Q → C' d y args (hs I L c) Q') (h : ∀ st I L c, f st I L c → g 0 0 st (hs I L c)) : callW2 C d y ic ib args st I L c f → callW C' d y 0 0 ic ib args st (hs I L c) g := by
  unfold callW2 callW
  cases d with
  | zero => exact id
  | succ d =>
    intro q
    obtain ⟨hc, q2⟩ := chk_inv q
    simp only [Bool.and_eq_true] at hc
    have e1 := Nat.eq_of_beq_eq_true hc.2.1
    have e2 := Nat.eq_of_beq_eq_true hc.2.2.1
    refine (show ∀ {b : Bool} {A : Prop}, b = true → A → chk b A from fun {b A} h a => by subst h; exact a) ?_ ?_
    · simp only [Bool.and_eq_true, e1, e2]
      exact ⟨hc.1, rfl, rfl, hc.2.2.2⟩
    · rw [e1, e2]
      exact hC _ _ _ _ _ _ _ _ (fun r I L c => retW2_sim h r I L c) q2
theorem copyW2_sim {st : List mV} {I : mI} {L : mL} {c n : Nat} {f : List mV → mI → mL → Prop} {g : List mV → mH → Prop} (h : ∀ r I L, f r I L → g r (hs I L c)) : copyW2 st I L n f → copyW st (hs I L c) n g := by
  unfold copyW2 copyW
  split
  · refine drf_mono fun a => drf_mono fun b => and_mono (chk_mono ?_)
    cases Nat.beq (TY a) 100
    · exact chk_mono (h _ _ _)
    · exact h _ _ _
  · exact False.elim
set_option maxHeartbeats 4000000 in
theorem step2 {n : Nat} {P : mJ2} {P' : mJ} {C : mC2} {C' : mC} {K : mK2} {K' : mK} (hK : ∀ r I L c, K r I L c → K' r (hs I L c)) (hP : ∀ d y pc ls st I L c, P d y pc ls st I L c K → P' d y pc 0 0 ls st (hs I L c) K') (hC : ∀ d y args I L c (Q : mK2) (Q' : mK), (∀ r I L c, Q r I L c → Q' r (hs I L c)) → C d y args I L c Q → C' d y args (hs I L c) Q') (d : Nat) (w : mRow) (ls : mLs) (st : List mV) (I : mI) (L : mL) (c : Nat) : stepW2 n P C d w ls st I L c K → stepW n P' C' d w 0 0 ls st (hs I L c) K' := by
  obtain ⟨y, pc, ins, len, ⟨ia, ib, ic⟩, z, sw⟩ := w
  have hp : ∀ {d y pc ls st I L c}, P d y pc ls st I L c K → P' d y pc 0 0 ls st (hs I L c) K' := fun {d y pc ls st I L c} => hP d y pc ls st I L c
  cases ins <;> dsimp only [stepW, stepW2] <;> first
    | exact False.elim
    | exact id
    | exact hp
    | exact gI_mono fun _ => hp
    | exact gL_mono fun _ => hp
    | exact gR_mono fun _ => hp
    | exact eI_mono fun _ _ => hp
    | exact eII_mono fun _ _ _ => hp
    | exact eL_mono fun _ _ => hp
    | exact eLL_mono fun _ _ _ => hp
    | exact eLI_mono fun _ _ _ => hp
    | exact eD_mono fun _ _ => hp
    | exact eDD_mono fun _ _ _ => hp
    | exact eI_mono fun _ _ => putL_mono fun _ => hp
    | exact eR_mono fun _ _ => drf_mono fun _ => putL_mono fun _ => hp
    | exact gI_mono fun _ => putL_mono fun _ => hp
    | exact eII_mono fun _ _ _ => and_mono hp
    | exact eII_mono fun _ _ _ => nzW_mono hp
    | exact eI_mono fun _ _ => cbr_mono hp hp
    | exact eII_mono fun _ _ _ => cbr_mono hp hp
    | exact eR_mono fun _ _ => nbr_mono hp hp
    | exact eI_mono fun _ _ => swW_mono (fun _ => hp) _
    | exact eR_mono fun _ _ => drf_mono fun _ => chk_mono hp
    | exact eRI_mono fun _ _ _ => drf_mono fun _ => chk_mono (and_mono hp)
    | exact eRII_mono fun _ _ _ _ => drf_mono fun _ => chk_mono (and_mono hp)
    | exact eRII_mono fun _ _ _ _ => drf_mono fun _ => chk_mono (and_mono (b01W_mono hp))
    | exact eRIL_mono fun _ _ _ _ => drf_mono fun _ => chk_mono (and_mono hp)
    | exact eRIR_mono fun _ _ _ _ => drf_mono fun _ => drf_mono fun _ => chk_mono (and_mono hp)
    | exact recvW_mono fun _ _ => chk_mono (callW2_sim hC fun _ _ _ _ => hp)
    | exact hK _ _ _ _
    | exact chk_mono hp
    | exact and_mono (hK _ _ _ _)
    | exact drf_mono fun _ => hK _ _ _ _
    | exact eRR_mono fun _ _ _ => drf_mono fun _ => chk_mono hp
    | exact eRI_mono fun _ _ _ => drf_mono fun _ => chk_mono (b01W_mono hp)
    | exact eRI_mono fun _ _ _ => drf_mono fun _ => chk_mono hp
    | exact eI_mono fun _ _ => chk_mono (and_mono hp)
    | exact copyW2_sim fun _ _ _ => hp
    | exact eII_mono fun _ _ _ => chk_mono hp
    | exact eI_mono fun _ _ => chk_mono hp
    | exact chkIdxW_mono fun _ => hp
    | exact callW2_sim hC fun _ _ _ _ => hp
    | exact b01W_mono (hK _ _ _ _)
    | (split <;> (try dsimp only) <;> first | exact False.elim | exact id | exact hp | exact gI_mono fun _ => hp | exact gL_mono fun _ => hp | exact gR_mono fun _ => hp | exact eI_mono fun _ _ => hp | exact eII_mono fun _ _ _ => hp | exact eL_mono fun _ _ => hp | exact eLL_mono fun _ _ _ => hp | exact eLI_mono fun _ _ _ => hp | exact eD_mono fun _ _ => hp | exact eDD_mono fun _ _ _ => hp | exact eI_mono fun _ _ => putL_mono fun _ => hp | exact eR_mono fun _ _ => drf_mono fun _ => putL_mono fun _ => hp | exact gI_mono fun _ => putL_mono fun _ => hp | exact eII_mono fun _ _ _ => and_mono hp | exact eII_mono fun _ _ _ => nzW_mono hp | exact eI_mono fun _ _ => cbr_mono hp hp | exact eII_mono fun _ _ _ => cbr_mono hp hp | exact eR_mono fun _ _ => nbr_mono hp hp | exact eI_mono fun _ _ => swW_mono (fun _ => hp) _ | exact eR_mono fun _ _ => drf_mono fun _ => chk_mono hp | exact eRI_mono fun _ _ _ => drf_mono fun _ => chk_mono (and_mono hp) | exact eRII_mono fun _ _ _ _ => drf_mono fun _ => chk_mono (and_mono hp) | exact eRII_mono fun _ _ _ _ => drf_mono fun _ => chk_mono (and_mono (b01W_mono hp)) | exact eRIL_mono fun _ _ _ _ => drf_mono fun _ => chk_mono (and_mono hp) | exact eRIR_mono fun _ _ _ _ => drf_mono fun _ => drf_mono fun _ => chk_mono (and_mono hp) | exact recvW_mono fun _ _ => chk_mono (callW2_sim hC fun _ _ _ _ => hp) | exact hK _ _ _ _ | exact chk_mono hp | exact and_mono (hK _ _ _ _) | exact drf_mono fun _ => hK _ _ _ _ | exact eRR_mono fun _ _ _ => drf_mono fun _ => chk_mono hp | exact eRI_mono fun _ _ _ => drf_mono fun _ => chk_mono (b01W_mono hp) | exact eRI_mono fun _ _ _ => drf_mono fun _ => chk_mono hp | exact eI_mono fun _ _ => chk_mono (and_mono hp) | exact copyW2_sim fun _ _ _ => hp | exact eII_mono fun _ _ _ => chk_mono hp | exact eI_mono fun _ _ => chk_mono hp | exact chkIdxW_mono fun _ => hp | exact callW2_sim hC fun _ _ _ _ => hp | exact b01W_mono (hK _ _ _ _) | (exfalso; simp_all; done) | (split <;> (try dsimp only) <;> first | exact False.elim | exact id | exact hp | exact gI_mono fun _ => hp | exact gL_mono fun _ => hp | exact gR_mono fun _ => hp | exact eI_mono fun _ _ => hp | exact eII_mono fun _ _ _ => hp | exact eL_mono fun _ _ => hp | exact eLL_mono fun _ _ _ => hp | exact eLI_mono fun _ _ _ => hp | exact eD_mono fun _ _ => hp | exact eDD_mono fun _ _ _ => hp | exact eI_mono fun _ _ => putL_mono fun _ => hp | exact eR_mono fun _ _ => drf_mono fun _ => putL_mono fun _ => hp | exact gI_mono fun _ => putL_mono fun _ => hp | exact eII_mono fun _ _ _ => and_mono hp | exact eII_mono fun _ _ _ => nzW_mono hp | exact eI_mono fun _ _ => cbr_mono hp hp | exact eII_mono fun _ _ _ => cbr_mono hp hp | exact eR_mono fun _ _ => nbr_mono hp hp | exact eI_mono fun _ _ => swW_mono (fun _ => hp) _ | exact eR_mono fun _ _ => drf_mono fun _ => chk_mono hp | exact eRI_mono fun _ _ _ => drf_mono fun _ => chk_mono (and_mono hp) | exact eRII_mono fun _ _ _ _ => drf_mono fun _ => chk_mono (and_mono hp) | exact eRII_mono fun _ _ _ _ => drf_mono fun _ => chk_mono (and_mono (b01W_mono hp)) | exact eRIL_mono fun _ _ _ _ => drf_mono fun _ => chk_mono (and_mono hp) | exact eRIR_mono fun _ _ _ _ => drf_mono fun _ => drf_mono fun _ => chk_mono (and_mono hp) | exact recvW_mono fun _ _ => chk_mono (callW2_sim hC fun _ _ _ _ => hp) | exact hK _ _ _ _ | exact chk_mono hp | exact and_mono (hK _ _ _ _) | exact drf_mono fun _ => hK _ _ _ _ | exact eRR_mono fun _ _ _ => drf_mono fun _ => chk_mono hp | exact eRI_mono fun _ _ _ => drf_mono fun _ => chk_mono (b01W_mono hp) | exact eRI_mono fun _ _ _ => drf_mono fun _ => chk_mono hp | exact eI_mono fun _ _ => chk_mono (and_mono hp) | exact copyW2_sim fun _ _ _ => hp | exact eII_mono fun _ _ _ => chk_mono hp | exact eI_mono fun _ _ => chk_mono hp | exact chkIdxW_mono fun _ => hp | exact callW2_sim hC fun _ _ _ _ => hp | exact b01W_mono (hK _ _ _ _) | (exfalso; simp_all; done) | (split <;> (try dsimp only) <;> first | exact False.elim | exact id | exact hp | exact gI_mono fun _ => hp | exact gL_mono fun _ => hp | exact gR_mono fun _ => hp | exact eI_mono fun _ _ => hp | exact eII_mono fun _ _ _ => hp | exact eL_mono fun _ _ => hp | exact eLL_mono fun _ _ _ => hp | exact eLI_mono fun _ _ _ => hp | exact eD_mono fun _ _ => hp | exact eDD_mono fun _ _ _ => hp | exact eI_mono fun _ _ => putL_mono fun _ => hp | exact eR_mono fun _ _ => drf_mono fun _ => putL_mono fun _ => hp | exact gI_mono fun _ => putL_mono fun _ => hp | exact eII_mono fun _ _ _ => and_mono hp | exact eII_mono fun _ _ _ => nzW_mono hp | exact eI_mono fun _ _ => cbr_mono hp hp | exact eII_mono fun _ _ _ => cbr_mono hp hp | exact eR_mono fun _ _ => nbr_mono hp hp | exact eI_mono fun _ _ => swW_mono (fun _ => hp) _ | exact eR_mono fun _ _ => drf_mono fun _ => chk_mono hp | exact eRI_mono fun _ _ _ => drf_mono fun _ => chk_mono (and_mono hp) | exact eRII_mono fun _ _ _ _ => drf_mono fun _ => chk_mono (and_mono hp) | exact eRII_mono fun _ _ _ _ => drf_mono fun _ => chk_mono (and_mono (b01W_mono hp)) | exact eRIL_mono fun _ _ _ _ => drf_mono fun _ => chk_mono (and_mono hp) | exact eRIR_mono fun _ _ _ _ => drf_mono fun _ => drf_mono fun _ => chk_mono (and_mono hp) | exact recvW_mono fun _ _ => chk_mono (callW2_sim hC fun _ _ _ _ => hp) | exact hK _ _ _ _ | exact chk_mono hp | exact and_mono (hK _ _ _ _) | exact drf_mono fun _ => hK _ _ _ _ | exact eRR_mono fun _ _ _ => drf_mono fun _ => chk_mono hp | exact eRI_mono fun _ _ _ => drf_mono fun _ => chk_mono (b01W_mono hp) | exact eRI_mono fun _ _ _ => drf_mono fun _ => chk_mono hp | exact eI_mono fun _ _ => chk_mono (and_mono hp) | exact copyW2_sim fun _ _ _ => hp | exact eII_mono fun _ _ _ => chk_mono hp | exact eI_mono fun _ _ => chk_mono hp | exact chkIdxW_mono fun _ => hp | exact callW2_sim hC fun _ _ _ _ => hp | exact b01W_mono (hK _ _ _ _) | (exfalso; simp_all; done) | (split <;> (try dsimp only) <;> first | exact False.elim | exact id | exact hp | exact gI_mono fun _ => hp | exact gL_mono fun _ => hp | exact gR_mono fun _ => hp | exact eI_mono fun _ _ => hp | exact eII_mono fun _ _ _ => hp | exact eL_mono fun _ _ => hp | exact eLL_mono fun _ _ _ => hp | exact eLI_mono fun _ _ _ => hp | exact eD_mono fun _ _ => hp | exact eDD_mono fun _ _ _ => hp | exact eI_mono fun _ _ => putL_mono fun _ => hp | exact eR_mono fun _ _ => drf_mono fun _ => putL_mono fun _ => hp | exact gI_mono fun _ => putL_mono fun _ => hp | exact eII_mono fun _ _ _ => and_mono hp | exact eII_mono fun _ _ _ => nzW_mono hp | exact eI_mono fun _ _ => cbr_mono hp hp | exact eII_mono fun _ _ _ => cbr_mono hp hp | exact eR_mono fun _ _ => nbr_mono hp hp | exact eI_mono fun _ _ => swW_mono (fun _ => hp) _ | exact eR_mono fun _ _ => drf_mono fun _ => chk_mono hp | exact eRI_mono fun _ _ _ => drf_mono fun _ => chk_mono (and_mono hp) | exact eRII_mono fun _ _ _ _ => drf_mono fun _ => chk_mono (and_mono hp) | exact eRII_mono fun _ _ _ _ => drf_mono fun _ => chk_mono (and_mono (b01W_mono hp)) | exact eRIL_mono fun _ _ _ _ => drf_mono fun _ => chk_mono (and_mono hp) | exact eRIR_mono fun _ _ _ _ => drf_mono fun _ => drf_mono fun _ => chk_mono (and_mono hp) | exact recvW_mono fun _ _ => chk_mono (callW2_sim hC fun _ _ _ _ => hp) | exact hK _ _ _ _ | exact chk_mono hp | exact and_mono (hK _ _ _ _) | exact drf_mono fun _ => hK _ _ _ _ | exact eRR_mono fun _ _ _ => drf_mono fun _ => chk_mono hp | exact eRI_mono fun _ _ _ => drf_mono fun _ => chk_mono (b01W_mono hp) | exact eRI_mono fun _ _ _ => drf_mono fun _ => chk_mono hp | exact eI_mono fun _ _ => chk_mono (and_mono hp) | exact copyW2_sim fun _ _ _ => hp | exact eII_mono fun _ _ _ => chk_mono hp | exact eI_mono fun _ _ => chk_mono hp | exact chkIdxW_mono fun _ => hp | exact callW2_sim hC fun _ _ _ _ => hp | exact b01W_mono (hK _ _ _ _) | (exfalso; simp_all; done) | (split <;> (try dsimp only) <;> first | exact False.elim | exact id | exact hp | exact gI_mono fun _ => hp | exact gL_mono fun _ => hp | exact gR_mono fun _ => hp | exact eI_mono fun _ _ => hp | exact eII_mono fun _ _ _ => hp | exact eL_mono fun _ _ => hp | exact eLL_mono fun _ _ _ => hp | exact eLI_mono fun _ _ _ => hp | exact eD_mono fun _ _ => hp | exact eDD_mono fun _ _ _ => hp | exact eI_mono fun _ _ => putL_mono fun _ => hp | exact eR_mono fun _ _ => drf_mono fun _ => putL_mono fun _ => hp | exact gI_mono fun _ => putL_mono fun _ => hp | exact eII_mono fun _ _ _ => and_mono hp | exact eII_mono fun _ _ _ => nzW_mono hp | exact eI_mono fun _ _ => cbr_mono hp hp | exact eII_mono fun _ _ _ => cbr_mono hp hp | exact eR_mono fun _ _ => nbr_mono hp hp | exact eI_mono fun _ _ => swW_mono (fun _ => hp) _ | exact eR_mono fun _ _ => drf_mono fun _ => chk_mono hp | exact eRI_mono fun _ _ _ => drf_mono fun _ => chk_mono (and_mono hp) | exact eRII_mono fun _ _ _ _ => drf_mono fun _ => chk_mono (and_mono hp) | exact eRII_mono fun _ _ _ _ => drf_mono fun _ => chk_mono (and_mono (b01W_mono hp)) | exact eRIL_mono fun _ _ _ _ => drf_mono fun _ => chk_mono (and_mono hp) | exact eRIR_mono fun _ _ _ _ => drf_mono fun _ => drf_mono fun _ => chk_mono (and_mono hp) | exact recvW_mono fun _ _ => chk_mono (callW2_sim hC fun _ _ _ _ => hp) | exact hK _ _ _ _ | exact chk_mono hp | exact and_mono (hK _ _ _ _) | exact drf_mono fun _ => hK _ _ _ _ | exact eRR_mono fun _ _ _ => drf_mono fun _ => chk_mono hp | exact eRI_mono fun _ _ _ => drf_mono fun _ => chk_mono (b01W_mono hp) | exact eRI_mono fun _ _ _ => drf_mono fun _ => chk_mono hp | exact eI_mono fun _ _ => chk_mono (and_mono hp) | exact copyW2_sim fun _ _ _ => hp | exact eII_mono fun _ _ _ => chk_mono hp | exact eI_mono fun _ _ => chk_mono hp | exact chkIdxW_mono fun _ => hp | exact callW2_sim hC fun _ _ _ _ => hp | exact b01W_mono (hK _ _ _ _) | (exfalso; simp_all; done))))))
theorem W2_mono {n d y pc : Nat} {ls : mLs} {st : List mV} {I : mI} {L : mL} {c : Nat} {K K' : mK2} (hk : ∀ r I L c, K r I L c → K' r I L c) (h : W2 n d y pc ls st I L c K) : W2 n d y pc ls st I L c K' := Wm_mono n _ _ _ _ _ _ _ _ _ _ (fun r H ⟨I', L', c', e, q⟩ => ⟨I', L', c', e, hk _ _ _ _ q⟩) h
theorem W2_le {n d y pc : Nat} {ls ls' : mLs} {st : List mV} {I : mI} {L : mL} {c : Nat} {K : mK2} (hl : lsLe ls ls') (h : W2 n d y pc ls st I L c K) : W2 n d y pc ls' st I L c K := Wm_le hl h
theorem C2_mono {n d y : Nat} {args : List mV} {I : mI} {L : mL} {c : Nat} {K K' : mK2} (hk : ∀ r I L c, K r I L c → K' r I L c) (h : C2 n d y args I L c K) : C2 n d y args I L c K' := Cm_mono (fun r H ⟨I', L', c', e, q⟩ => ⟨I', L', c', e, hk _ _ _ _ q⟩) h
/-- many steps of level 2 -/
def maskL : List Bool → mLs → mLs
  | true :: m, some v :: ls => (match isC1 v with
    | true => none
    | false => some v) :: maskL m ls
  | _ :: m, v :: ls => v :: maskL m ls
  | _, ls => ls
theorem maskL_le : ∀ (m : List Bool) (ls : mLs), lsLe (maskL m ls) ls
  | [], ls => by unfold maskL; exact lsLe_rf _
  | b :: m, [] => by cases b <;> exact trivial
  | true :: m, none :: ls => ⟨Or.inl rfl, maskL_le m ls⟩
  | false :: m, v :: ls => by cases v <;> exact ⟨Or.inl rfl, maskL_le m ls⟩
  | true :: m, some v :: ls => by
    refine ⟨?_, maskL_le m ls⟩
    cases h : isC1 v
    · exact Or.inl rfl
    · exact Or.inr ⟨rfl, v, rfl, h⟩
def cutM (cut : List (Nat × Nat × List Bool)) (y pc : Nat) : Option (List Bool) := match cut with
  | [] => none
  | q :: r => match Nat.beq q.1 y && Nat.beq q.2.1 pc with
    | true => some q.2.2
    | false => cutM r y pc
def wcU (n : Nat) (inl : List Nat) (cut : List (Nat × Nat × List Bool)) : Nat → List mRow → mJ2
  | 0, _ => W2 n
  | f + 1, hint => fun d y pc ls st I L c K => match cutM cut y pc with
    | some m => W2 n d y pc (maskL m ls) st I L c K
    | none => match look hint y pc with
      | [] => False
      | w :: rest => match Nat.beq w.1 y && Nat.beq w.2.1 pc with
        | true => stepW2 n (wcU n inl cut f rest) (fun d' y' args I L c K => match memB inl y' with
          | true => ent2 (wcU n inl cut f []) d' y' args I L c K
          | false => C2 n d' y' args I L c K) d w ls st I L c K
        | false => False
def sndJ (n : Nat) (P : mJ2) : Prop := ∀ d y pc ls st I L c (K : mK2) (K' : mK), (∀ r I L c, K r I L c → K' r (hs I L c)) → P d y pc ls st I L c K → Wm n d y pc 0 0 ls st (hs I L c) K'
def noBud (inl : List Nat) : Bool := inl.all (fun y => Nat.beq (mBud y).1 0 && Nat.beq (mBud y).2 0)
theorem noBud_at : ∀ (l : List Nat) (y : Nat), memB l y = true → noBud l = true → (mBud y).1 = 0 ∧ (mBud y).2 = 0 := by
  intro l y
  induction l with
  | nil => intro h; cases h
  | cons a l il =>
    intro h1 h2
    simp only [memB, Bool.or_eq_true] at h1
    simp only [noBud, List.all_cons, Bool.and_eq_true] at h2
    rcases h1 with h1 | h1
    · have := Nat.eq_of_beq_eq_true h1
      subst this
      exact ⟨Nat.eq_of_beq_eq_true h2.1.1, Nat.eq_of_beq_eq_true h2.1.2⟩
    · exact il h1 h2.2
theorem wc_row {n : Nat} {inl : List Nat} (hb : noBud inl = true) {P Q : mJ2} (hP : sndJ n P) (hQ : sndJ n Q) {d y pc : Nat} {ls : mLs} {st : List mV} {I : mI} {L : mL} {c : Nat} {K : mK2} {K' : mK} (hk : ∀ r I L c, K r I L c → K' r (hs I L c)) {w : mRow} (hw : okRow w = true) (h : (match Nat.beq w.1 y && Nat.beq w.2.1 pc with
      | true => stepW2 n P (fun d' y' args I L c K => match memB inl y' with
        | true => ent2 Q d' y' args I L c K
        | false => C2 n d' y' args I L c K) d w ls st I L c K
      | false => False)) : Wm n d y pc 0 0 ls st (hs I L c) K' := by
  split at h
  · rename_i hb2
    have e := Bool.and_eq_true_iff.mp hb2
    have e1 := Nat.eq_of_beq_eq_true e.1
    have e2 := Nat.eq_of_beq_eq_true e.2
    rw [← e1, ← e2]
    refine Wm_closed n d w 0 0 ls st (hs I L c) K' hw (step2 hk (fun d y pc ls st I L c q => hP d y pc ls st I L c K K' hk q) ?_ d w ls st I L c h)
    intro d y args I L c R R' hq g
    split at g
    · rename_i hm
      have hz := noBud_at inl y hm hb
      show Wm n d y 0 (mBud y).1 (mBud y).2 _ [] _ R'
      rw [hz.1, hz.2]
      exact hQ _ _ _ _ _ _ _ _ R R' hq g
    · exact Cm_mono (fun r H ⟨I', L', c', e, q⟩ => by rw [e]; exact hq _ _ _ _ q) g
  · exact h.elim
theorem W2_snd (n : Nat) : sndJ n (W2 n) := fun d y pc ls st I L c K K' hk h => Wm_mono n _ _ _ _ _ _ _ _ _ _ (fun r H ⟨I', L', c', e, q⟩ => by rw [e]; exact hk _ _ _ _ q) h
theorem wcU_sound (n : Nat) (inl : List Nat) (hb : noBud inl = true) (cut : List (Nat × Nat × List Bool)) : ∀ (f : Nat) (hint : List mRow), okL hint → sndJ n (wcU n inl cut f hint) := by
  intro f
  induction f with
  | zero => intro hint _; exact W2_snd n
  | succ f ih =>
    intro hint hh d y pc ls st I L c K K' hk h
    unfold wcU at h
    split at h
    · exact W2_snd n _ _ _ _ _ _ _ _ _ _ hk (W2_le (maskL_le _ _) h)
    · have hl := look_ok mCode_ok hh y pc
      split at h
      · exact h.elim
      · rename_i w rest heq
        rw [heq] at hl
        exact wc_row hb (ih rest fun v hv => hl v (List.mem_cons_of_mem _ hv)) (ih [] fun v hv => by cases hv) hk (hl w List.mem_cons_self) h
/-- a stretch of a method, from a place that may be a cut -/
def wcS (n : Nat) (inl : List Nat) (cut : List (Nat × Nat × List Bool)) (f : Nat) : mJ2 := fun d y pc ls st I L c K => match findR (mCode y) pc with
  | [] => False
  | w :: rest => match Nat.beq w.1 y && Nat.beq w.2.1 pc with
    | true => stepW2 n (wcU n inl cut f rest) (fun d' y' args I L c K => match memB inl y' with
      | true => ent2 (wcU n inl cut f []) d' y' args I L c K
      | false => C2 n d' y' args I L c K) d w ls st I L c K
    | false => False
theorem vc_W {n : Nat} (inl : List Nat) (cut : List (Nat × Nat × List Bool)) (f : Nat) (hb : noBud inl = true) {d y pc : Nat} {ls : mLs} {st : List mV} {I : mI} {L : mL} {c : Nat} {K : mK2} (h : wcS n inl cut f d y pc ls st I L c K) : W2 n d y pc ls st I L c K := by
  unfold wcS at h
  split at h
  · exact h.elim
  · rename_i w rest heq
    have hl := findR_ok (mCode_ok y) pc
    rw [heq] at hl
    exact wc_row hb (wcU_sound n inl hb cut f rest fun v hv => hl v (List.mem_cons_of_mem _ hv)) (wcU_sound n inl hb cut f [] fun v hv => by cases hv) (fun r I L c q => ⟨I, L, c, rfl, q⟩) (hl w List.mem_cons_self) h
theorem vc_C {n : Nat} {d y : Nat} {args : List mV} {I : mI} {L : mL} {c : Nat} {K : mK2} (hb : (Nat.beq (mBud y).1 0 && Nat.beq (mBud y).2 0) = true) (h : W2 n d y 0 (locs0 args ++ List.replicate (mMax y - (locs0 args).length) none) [] I L c K) : C2 n d y args I L c K := by
  simp only [Bool.and_eq_true] at hb
  have e1 := Nat.eq_of_beq_eq_true hb.1
  have e2 := Nat.eq_of_beq_eq_true hb.2
  show Wm n d y 0 (mBud y).1 (mBud y).2 _ [] _ _
  rw [e1, e2]
  exact h
