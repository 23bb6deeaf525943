/-! ===== the tie: what of the class's cells says the same as the reference's ===== -/
theorem up2_self (I : mI) (a k : Nat) : up2 I a k (I a k) = I := by
  funext x j
  show (if x = a ∧ j = k then I a k else I x j) = I x j
  by_cases q : x = a ∧ j = k
  · rw [if_pos q, q.1, q.2]
  · rw [if_neg q]
def TW (I : mI) (c : Nat) : Prop :=
  (I 17 1 = I 104 0 ∧ I 17 2 = I 104 2 ∧ I 17 3 = I 104 3 ∧ I 17 4 = I 104 10) ∧
  (∀ p, p < nM I → perN I p = perM I p) ∧
  (∀ p, p < 6 → 0 ≤ I (25 + 3 * p) 4 ∧ I (25 + 3 * p) 4 ≤ 1) ∧
  pI I ∧ (0 ≤ I 104 3 ∧ I 104 3 ≤ 9999) ∧ (-1 ≤ I 104 10 ∧ I 104 10 < (c : Int)) ∧
  (I 19 2 = I 104 41 ∧ lI I ∧ ∀ k, k < (I 104 41).toNat → lkC I k = lkM I k) ∧
  (I 21 2 = I 104 46 ∧ lpI I ∧ ∀ k, k < (I 104 46).toNat → (plC I k).1 = (plM I k).1 ∧ ((plM I k).1 = 1 ∨ (plM I k).1 = 2 → (plC I k).2 = (plM I k).2)) ∧
  (I 23 2 = I 104 47 ∧ kI I ∧ ∀ k, k < (I 104 47).toNat → bkC I k = bkM I k) ∧
  (∀ k, k < 6 → 0 ≤ I 132 k ∧ I 132 k ≤ 1)
def agrR (I J : mI) : Prop := (J 104 10 = I 104 10 ∧ J 104 0 = I 104 0 ∧ J 104 1 = I 104 1 ∧ J 104 2 = I 104 2 ∧ J 104 3 = I 104 3 ∧ J 104 41 = I 104 41 ∧ J 104 46 = I 104 46 ∧ J 104 47 = I 104 47) ∧
  (∀ k, k < 6 → J 105 k = I 105 k ∧ J 106 k = I 106 k ∧ J 107 k = I 107 k ∧ J 129 k = I 129 k ∧ J 130 k = I 130 k ∧ J 131 k = I 131 k ∧ J 132 k = I 132 k) ∧
  (∀ k, k < 36 → J 108 k = I 108 k) ∧ (∀ k, k < 24 → J 109 k = I 109 k) ∧ (∀ k, k < 10 → J 133 k = I 133 k ∧ J 134 k = I 134 k) ∧ (∀ k, k < 8 → J 135 k = I 135 k ∧ J 136 k = I 136 k)
def agrF (I J : mI) : Prop := agrT 17 17 I J ∧ agrR I J
theorem perM_agr {I J : mI} (r : agrR I J) {p : Nat} (hp : p < 6) : perM J p = perM I p := by
  obtain ⟨⟨_, _, r1, _⟩, r6, r36, r24, _⟩ := r
  obtain ⟨a5, a6, a7, _⟩ := r6 p hp
  funext i
  rcases i with _ | _ | _ | _ | _ | i
  · rfl
  · exact a5
  · exact a6
  · exact a7
  · show (if gonM J p = true then 1 else 0) = (if gonM I p = true then 1 else 0)
    unfold gonM
    rw [r1]
  · show (if i < 6 then J 108 (6 * p + i) else if i < 10 then J 109 (4 * p + (i - 6)) else 0) = (if i < 6 then I 108 (6 * p + i) else if i < 10 then I 109 (4 * p + (i - 6)) else 0)
    by_cases q : i < 6
    · rw [if_pos q, if_pos q, r36 _ (by omega)]
    · rw [if_neg q, if_neg q]
      by_cases s : i < 10
      · rw [if_pos s, if_pos s, r24 _ (by omega)]
      · rw [if_neg s, if_neg s]
theorem TW_agr {I J : mI} {c : Nat} (a : agrF I J) (t : TW I c) : TW J c := by
  obtain ⟨⟨⟨a1, a2, a3, a4⟩, ap, ⟨l1, l2⟩, ⟨m1, m2⟩, ⟨b1, b2⟩⟩, r⟩ := a
  have pm := fun p (hp : p < 6) => perM_agr r hp
  obtain ⟨⟨f10, f0, f1, f2, f3, f41, f46, f47⟩, r6, r36, r24, r10, r8⟩ := r
  obtain ⟨⟨t1, t2, t3, t4⟩, tp, tg, tI, ty, th, ⟨k1, k2, k3⟩, ⟨n1, n2, n3⟩, ⟨o1, o2, o3⟩, tb⟩ := t
  have hn : nM J = nM I := by unfold nM; rw [f0]
  have n6 : nM I ≤ 6 := by unfold nM; have := tI.1; omega
  have ap' : ∀ p, p < 6 → perC J (25 + 3 * p) = perC I (25 + 3 * p) := ap
  refine ⟨⟨by rw [a1, f0]; exact t1, by rw [a2, f2]; exact t2, by rw [a3, f3]; exact t3, by rw [a4, f10]; exact t4⟩, ?_, ?_, ?_, by rw [f3]; exact ty, by rw [f10]; exact th, ⟨?_, ?_, ?_⟩, ⟨?_, ?_, ?_⟩, ⟨?_, ?_, ?_⟩, ?_⟩
  · intro p hp
    rw [hn] at hp
    rw [pm p (by omega), ← tp p hp]
    exact ap' p (by omega)
  · intro p hp
    have e : J (25 + 3 * p) 4 = I (25 + 3 * p) 4 := congrFun (ap' p hp) 4
    rw [e]
    exact tg p hp
  · obtain ⟨i0, i1, i2, i3, i4, i5⟩ := tI
    refine ⟨by rw [f0]; exact i0, by rw [f1]; exact i1, by rw [f2]; exact i2, ?_, ?_, ?_⟩
    · intro p hp
      obtain ⟨x5, x6, x7, _⟩ := r6 p hp
      rw [x5, x6, x7]
      exact i3 p hp
    · intro k hk; rw [r36 k hk]; exact i4 k hk
    · intro k hk; rw [r24 k hk]; exact i5 k hk
  · have l1' : J 19 2 = I 19 2 := l1
    rw [l1', f41]; exact k1
  · obtain ⟨g1, g2⟩ := k2
    refine ⟨by rw [f41]; exact g1, ?_⟩
    intro k hk
    rw [f41] at hk
    obtain ⟨_, _, _, x29, x30, x31, x32⟩ := r6 k (by omega)
    rw [x29, x30, x31, x32, f0]
    exact g2 k hk
  · intro k hk
    rw [f41] at hk
    have g1 := k2.1
    obtain ⟨_, _, _, x29, x30, x31, x32⟩ := r6 k (by omega)
    have l2' : ∀ i, i < 24 → J 20 i = I 20 i := l2
    have e1 : lkC J k = lkC I k := by unfold lkC; rw [l2' _ (by omega), l2' _ (by omega), l2' _ (by omega), l2' _ (by omega)]
    have e2 : lkM J k = lkM I k := by unfold lkM; rw [x29, x30, x31, x32]
    rw [e1, e2]
    exact k3 k hk
  · have m1' : J 21 2 = I 21 2 := m1
    rw [m1', f46]; exact n1
  · obtain ⟨g1, g2⟩ := n2
    refine ⟨by rw [f46]; exact g1, ?_⟩
    intro k hk
    rw [f46] at hk
    obtain ⟨x33, x34⟩ := r10 k (by omega)
    rw [x33, x34, f0]
    exact g2 k hk
  · intro k hk
    rw [f46] at hk
    have g1 := n2.1
    obtain ⟨x33, x34⟩ := r10 k (by omega)
    have m2' : ∀ i, i < 40 → J 22 i = I 22 i := m2
    have e1 : plC J k = plC I k := by unfold plC; rw [m2' _ (by omega), m2' _ (by omega)]
    have e2 : plM J k = plM I k := by unfold plM; rw [x33, x34]
    rw [e1, e2]
    exact n3 k hk
  · have b1' : J 23 2 = I 23 2 := b1
    rw [b1', f47]; exact o1
  · obtain ⟨g1, g2⟩ := o2
    refine ⟨by rw [f47]; exact g1, ?_⟩
    intro k hk
    rw [f47] at hk
    rw [(r8 k (by omega)).1, f0]
    exact g2 k hk
  · intro k hk
    rw [f47] at hk
    have g1 := o2.1
    obtain ⟨x35, x36⟩ := r8 k (by omega)
    have b2' : ∀ i, i < 32 → J 24 i = I 24 i := b2
    have e1 : bkC J k = bkC I k := by unfold bkC; rw [b2' _ (by omega), b2' _ (by omega)]
    have e2 : bkM J k = bkM I k := by unfold bkM; rw [x35, x36]
    rw [e1, e2]
    exact o3 k hk
  · intro k hk
    obtain ⟨_, _, _, _, _, _, x32⟩ := r6 k hk
    rw [x32]
    exact tb k hk
/-- the image's cells in the place of the world's -/
def swF (k : Nat) : Nat := match k with
  | 10 => 53 | 0 => 54 | 1 => 55 | 2 => 56 | 3 => 57 | 41 => 58 | 46 => 59 | 47 => 60 | k => k
def swC (h : Nat) : Nat := if 17 ≤ h ∧ h ≤ 42 then h + 26 else match h with
  | 105 => 137 | 106 => 138 | 107 => 139 | 108 => 140 | 109 => 141 | 129 => 142 | 130 => 143 | 131 => 144 | 133 => 145 | 134 => 146 | 135 => 147 | 136 => 148 | 132 => 149 | h => h
def sw (I : mI) : mI := fun h k => I (swC h) (if h = 104 then swF k else k)
theorem sw_cls (I : mI) {h : Nat} (h1 : 17 ≤ h) (h2 : h ≤ 42) : sw I h = I (h + 26) := by
  funext k
  show I (swC h) (if h = 104 then swF k else k) = _
  unfold swC
  rw [if_pos ⟨h1, h2⟩, if_neg (by omega)]
theorem sw_per (I : mI) {p : Nat} (hp : p < 6) : perC (sw I) (25 + 3 * p) = perC I (51 + 3 * p) := by
  have e0 := sw_cls I (h := 25 + 3 * p) (by omega) (by omega)
  have e1 := sw_cls I (h := 25 + 3 * p + 1) (by omega) (by omega)
  have e2 := sw_cls I (h := 25 + 3 * p + 2) (by omega) (by omega)
  funext i
  unfold perC
  rw [e0, e1, e2, show 25 + 3 * p + 26 = 51 + 3 * p by omega, show 25 + 3 * p + 1 + 26 = 51 + 3 * p + 1 by omega, show 25 + 3 * p + 2 + 26 = 51 + 3 * p + 2 by omega]
def KP (I : mI) (c : Nat) : Prop := I 16 2 = I 104 52 ∧ (I 104 52 = 0 ∨ I 104 52 = 1) ∧ (I 104 52 = 1 → TW (sw I) c) ∧ (∀ p, p < 6 → 0 ≤ I (51 + 3 * p) 4 ∧ I (51 + 3 * p) 4 ≤ 1) ∧ (∀ k, k < 6 → 0 ≤ I 149 k ∧ I 149 k ≤ 1)
def OFj (I : mI) (j : Nat) : Prop := oC I (oH j) ∧ oI (up2 I 104 10 (j : Int)) ∧ offC I (oH j) = offM (up2 I 104 10 (j : Int))
def OF (I : mI) (c : Nat) : Prop := c ≤ 6 ∧ I 16 5 = (c : Int) ∧ I 104 9 = (c : Int) ∧ (oC I 69 ∧ offC I 69 = (8, 18, 10, [])) ∧ oI (up2 I 104 10 (-1)) ∧ (∀ j, j < c → OFj I j) ∧ (∀ j, c ≤ j → j ≤ 6 → ∀ k, k < 100 → -3 ≤ I (oH j + 3) k ∧ I (oH j + 3) k < 1800) ∧ (∀ i, i < 60 → I 115 i ≤ 100 * (((i / 10 : Nat) : Int) + 1))
def TX (I : mI) : Prop := (0 ≤ I 104 11 ∧ I 104 11 ≤ 100) ∧ I 74 1 = I 104 11 ∧ ∀ k, k < (I 104 11).toNat → I 75 k = I 110 k ∧ 0 ≤ I 110 k ∧ I 110 k ≤ 127
def AC (I : mI) : Prop := ∃ l, rnC I l ∧ rnM I l ∧ l.length ≤ 1000
def TP (I : mI) (L : mL) : Prop := tI I ∧ ∀ t, t < 6 → I (92 + 2 * t) 0 = I 151 t ∧ I (92 + 2 * t) 1 = I 152 t ∧ ∀ k : Nat, (k : Int) < I 152 t → L (93 + 2 * t) k = L 153 (60 * t + k)
def byT : List (List Int) := [[105, 110, 100, 32], [97, 115, 116, 101, 32], [97, 116, 101, 32], [108, 105], [101, 32], [103, 104, 116, 32]]
def letT : List Int := [108, 105, 107, 101, 109, 105, 110, 100, 116, 97, 115, 116, 101, 108, 105, 103, 104, 116, 114, 97, 116, 101]
def strC (I : mI) : Prop := (∀ j, j < 6 → I (3 + j) 0 = 0 ∧ ∀ k, k < (byT.getD j []).length → I (9 + j) k = (byT.getD j []).getD k 0) ∧ ∀ k, k < 22 → I 118 k = letT.getD k 0
def SZ (I : mI) : Prop := I 19 0 = 6 ∧ I 21 0 = 10 ∧ I 23 0 = 8
def RC (I : mI) (L : mL) (c : Nat) : Prop := TW I c ∧ KP I c ∧ OF I c ∧ TX I ∧ AC I ∧ TP I L ∧ (stat I ∧ strC I) ∧ SZ I ∧ I 104 26 = -1
/-! what changes elsewhere leaves each of them -/
theorem nol_m {l ks : List Nat} (h : nol l ks = true) {k : Nat} (hk : k ∈ ks) : k ∉ l := fun hm => by
  have := nol_e h hk
  rw [(elm_iff _ _).mpr hm] at this
  cases this
def lTc : List Nat := [17, 18, 19, 20, 21, 22, 23, 24, 25, 26, 27, 28, 29, 30, 31, 32, 33, 34, 35, 36, 37, 38, 39, 40, 41, 42]
def lTr : List Nat := [104, 1010, 1000, 1001, 1002, 1003, 1041, 1046, 1047, 105, 106, 107, 108, 109, 129, 130, 131, 132, 133, 134, 135, 136]
theorem mem_Tc {h : Nat} (h1 : 17 ≤ h) (h2 : h ≤ 42) : h ∈ lTc := by
  have : h = 17 ∨ h = 18 ∨ h = 19 ∨ h = 20 ∨ h = 21 ∨ h = 22 ∨ h = 23 ∨ h = 24 ∨ h = 25 ∨ h = 26 ∨ h = 27 ∨ h = 28 ∨ h = 29 ∨ h = 30 ∨ h = 31 ∨ h = 32 ∨ h = 33 ∨ h = 34 ∨ h = 35 ∨ h = 36 ∨ h = 37 ∨ h = 38 ∨ h = 39 ∨ h = 40 ∨ h = 41 ∨ h = 42 := by omega
  rcases this with e | e | e | e | e | e | e | e | e | e | e | e | e | e | e | e | e | e | e | e | e | e | e | e | e | e <;> (subst e; decide)
theorem agr_e {l : List Nat} {I J : mI} (e : eqx l I J) (h1 : nol l lTc = true) (h2 : nol l lTr = true) : agrF I J := by
  have cc : ∀ h, 17 ≤ h → h ≤ 42 → J h = I h := fun h a b => cell_n e (by omega) (nol_m h1 (mem_Tc a b))
  have cr : ∀ h, h ∈ lTr → h ≠ 104 → J h = I h := fun h a b => cell_n e b (nol_m h2 a)
  have fr : ∀ k, 1000 + k ∈ lTr → J 104 k = I 104 k := fun k a => fld_e e (nol_e h2 (by decide)) (nol_e h2 a)
  refine ⟨⟨?_, ?_, ?_, ?_, ?_⟩, ⟨?_, ?_, ?_, ?_, ?_, ?_⟩⟩
  · rw [cc 17 (by decide) (by decide)]; exact ⟨rfl, rfl, rfl, rfl⟩
  · intro p hp
    exact perC_c (cc _ (by omega) (by omega)) (cc _ (by omega) (by omega)) (cc _ (by omega) (by omega))
  · rw [cc (17 + 2) (by decide) (by decide), cc (17 + 3) (by decide) (by decide)]; exact ⟨rfl, fun _ _ => rfl⟩
  · rw [cc (17 + 4) (by decide) (by decide), cc (17 + 5) (by decide) (by decide)]; exact ⟨rfl, fun _ _ => rfl⟩
  · rw [cc (17 + 6) (by decide) (by decide), cc (17 + 7) (by decide) (by decide)]; exact ⟨rfl, fun _ _ => rfl⟩
  · exact ⟨fr 10 (by decide), fr 0 (by decide), fr 1 (by decide), fr 2 (by decide), fr 3 (by decide), fr 41 (by decide), fr 46 (by decide), fr 47 (by decide)⟩
  · intro k _
    rw [cr 105 (by decide) (by decide), cr 106 (by decide) (by decide), cr 107 (by decide) (by decide), cr 129 (by decide) (by decide), cr 130 (by decide) (by decide), cr 131 (by decide) (by decide), cr 132 (by decide) (by decide)]
    exact ⟨rfl, rfl, rfl, rfl, rfl, rfl, rfl⟩
  · intro k _; rw [cr 108 (by decide) (by decide)]
  · intro k _; rw [cr 109 (by decide) (by decide)]
  · intro k _; rw [cr 133 (by decide) (by decide), cr 134 (by decide) (by decide)]; exact ⟨rfl, rfl⟩
  · intro k _; rw [cr 135 (by decide) (by decide), cr 136 (by decide) (by decide)]; exact ⟨rfl, rfl⟩
def lKc : List Nat := [43, 44, 45, 46, 47, 48, 49, 50, 51, 52, 53, 54, 55, 56, 57, 58, 59, 60, 61, 62, 63, 64, 65, 66, 67, 68]
def lKr : List Nat := [16, 104, 1052, 1053, 1054, 1055, 1056, 1057, 1058, 1059, 1060, 137, 138, 139, 140, 141, 142, 143, 144, 145, 146, 147, 148, 149]
theorem mem_Kc {h : Nat} (h1 : 43 ≤ h) (h2 : h ≤ 68) : h ∈ lKc := by
  have : h = 43 ∨ h = 44 ∨ h = 45 ∨ h = 46 ∨ h = 47 ∨ h = 48 ∨ h = 49 ∨ h = 50 ∨ h = 51 ∨ h = 52 ∨ h = 53 ∨ h = 54 ∨ h = 55 ∨ h = 56 ∨ h = 57 ∨ h = 58 ∨ h = 59 ∨ h = 60 ∨ h = 61 ∨ h = 62 ∨ h = 63 ∨ h = 64 ∨ h = 65 ∨ h = 66 ∨ h = 67 ∨ h = 68 := by omega
  rcases this with e | e | e | e | e | e | e | e | e | e | e | e | e | e | e | e | e | e | e | e | e | e | e | e | e | e <;> (subst e; decide)
theorem agr_sw {l : List Nat} {I J : mI} (e : eqx l I J) (h1 : nol l lKc = true) (h2 : nol l lKr = true) : agrF (sw I) (sw J) := by
  have cc : ∀ h, 17 ≤ h → h ≤ 42 → sw J h = sw I h := fun h a b => by
    rw [sw_cls J a b, sw_cls I a b]
    exact cell_n e (by omega) (nol_m h1 (mem_Kc (by omega) (by omega)))
  have cr : ∀ h, h ∈ lKr → h ≠ 104 → J h = I h := fun h a b => cell_n e b (nol_m h2 a)
  have fr : ∀ k, 1000 + k ∈ lKr → J 104 k = I 104 k := fun k a => fld_e e (nol_e h2 (by decide)) (nol_e h2 a)
  have ce : ∀ h h' k, swC h = h' → h ≠ 104 → h' ∈ lKr → h' ≠ 104 → sw J h k = sw I h k := fun h h' k a b c' d => by
    show J (swC h) (if h = 104 then swF k else k) = I (swC h) (if h = 104 then swF k else k)
    rw [if_neg b, a, cr h' c' d]
  refine ⟨⟨?_, ?_, ?_, ?_, ?_⟩, ⟨?_, ?_, ?_, ?_, ?_, ?_⟩⟩
  · rw [cc 17 (by decide) (by decide)]; exact ⟨rfl, rfl, rfl, rfl⟩
  · intro p hp
    exact perC_c (cc _ (by omega) (by omega)) (cc _ (by omega) (by omega)) (cc _ (by omega) (by omega))
  · rw [cc (17 + 2) (by decide) (by decide), cc (17 + 3) (by decide) (by decide)]; exact ⟨rfl, fun _ _ => rfl⟩
  · rw [cc (17 + 4) (by decide) (by decide), cc (17 + 5) (by decide) (by decide)]; exact ⟨rfl, fun _ _ => rfl⟩
  · rw [cc (17 + 6) (by decide) (by decide), cc (17 + 7) (by decide) (by decide)]; exact ⟨rfl, fun _ _ => rfl⟩
  · exact ⟨fr 53 (by decide), fr 54 (by decide), fr 55 (by decide), fr 56 (by decide), fr 57 (by decide), fr 58 (by decide), fr 59 (by decide), fr 60 (by decide)⟩
  · intro k _
    exact ⟨ce 105 137 k rfl (by decide) (by decide) (by decide), ce 106 138 k rfl (by decide) (by decide) (by decide), ce 107 139 k rfl (by decide) (by decide) (by decide), ce 129 142 k rfl (by decide) (by decide) (by decide), ce 130 143 k rfl (by decide) (by decide) (by decide), ce 131 144 k rfl (by decide) (by decide) (by decide), ce 132 149 k rfl (by decide) (by decide) (by decide)⟩
  · intro k _; exact ce 108 140 k rfl (by decide) (by decide) (by decide)
  · intro k _; exact ce 109 141 k rfl (by decide) (by decide) (by decide)
  · intro k _; exact ⟨ce 133 145 k rfl (by decide) (by decide) (by decide), ce 134 146 k rfl (by decide) (by decide) (by decide)⟩
  · intro k _; exact ⟨ce 135 147 k rfl (by decide) (by decide) (by decide), ce 136 148 k rfl (by decide) (by decide) (by decide)⟩
theorem KP_e {l : List Nat} {I J : mI} {c : Nat} (e : eqx l I J) (h1 : nol l lKc = true) (h2 : nol l lKr = true) (k : KP I c) : KP J c := by
  obtain ⟨k1, k2, k3, k4, k5⟩ := k
  have f52 : J 104 52 = I 104 52 := fld_e e (nol_e h2 (by decide)) (nol_e h2 (by decide))
  refine ⟨?_, by rw [f52]; exact k2, ?_, ?_, ?_⟩
  · rw [cell_n e (a := 16) (by decide) (nol_m h2 (by decide)), f52]; exact k1
  · intro hh
    rw [f52] at hh
    exact TW_agr (agr_sw e h1 h2) (k3 hh)
  · intro p hp
    rw [cell_n e (by omega) (nol_m h1 (mem_Kc (by omega) (by omega)))]
    exact k4 p hp
  · intro k hk
    rw [cell_n e (a := 149) (by decide) (nol_m h2 (by decide))]
    exact k5 k hk
/-- no office's cell -/
def sc2 (l : List Nat) : Bool := l.all fun a => (Nat.blt a 155 || Nat.blt 999 a) && (!(Nat.blt 68 a && Nat.blt a 73) && (!(Nat.blt 75 a && Nat.blt a 80)))
theorem sc2_n {l : List Nat} (h : sc2 l = true) {h0 : Nat} (hh : h0 = 69 ∨ h0 = 76 ∨ (155 ≤ h0 ∧ h0 < 300)) : ∀ i, i < 4 → h0 + i ≠ 104 ∧ h0 + i ∉ l := by
  intro i hi
  refine ⟨by omega, fun hm => ?_⟩
  have := List.all_eq_true.mp h _ hm
  rw [Bool.and_eq_true, Bool.and_eq_true, Bool.or_eq_true, Nat.blt_eq, Nat.blt_eq, Bool.not_eq_true', Bool.not_eq_true', Bool.and_eq_false_iff, Bool.and_eq_false_iff, Bool.eq_false_iff, Bool.eq_false_iff, Bool.eq_false_iff, Bool.eq_false_iff, Ne, Ne, Ne, Ne, Nat.blt_eq, Nat.blt_eq, Nat.blt_eq, Nat.blt_eq] at this
  omega
theorem off_2 {l : List Nat} {I I' : mI} (e : eqx l I I') (hs : sc2 l = true) {h : Nat} (hh : h = 69 ∨ h = 76 ∨ (155 ≤ h ∧ h < 300)) : offC I' h = offC I h := by
  have n := sc2_n hs hh
  exact offC_c (cell_n e (n 0 (by decide)).1 (n 0 (by decide)).2) (cell_n e (n 1 (by decide)).1 (n 1 (by decide)).2) (cell_n e (n 2 (by decide)).1 (n 2 (by decide)).2) (cell_n e (n 3 (by decide)).1 (n 3 (by decide)).2)
theorem oC_2 {l : List Nat} {I I' : mI} (e : eqx l I I') (hs : sc2 l = true) {h : Nat} (hh : h = 69 ∨ h = 76 ∨ (155 ≤ h ∧ h < 300)) (o : oC I h) : oC I' h := by
  have n := sc2_n hs hh
  exact oC_c (cell_n e (n 0 (by decide)).1 (n 0 (by decide)).2) (cell_n e (n 1 (by decide)).1 (n 1 (by decide)).2) (cell_n e (n 2 (by decide)).1 (n 2 (by decide)).2) (cell_n e (n 3 (by decide)).1 (n 3 (by decide)).2) o
theorem oH_6 {j : Nat} (hj : j ≤ 6) : oH j = 76 ∨ (155 ≤ oH j ∧ oH j < 300) := by
  cases j with
  | zero => exact Or.inl rfl
  | succ j => right; show 155 ≤ 155 + 4 * j ∧ 155 + 4 * j < 300; omega
theorem eqx_cut {l : List Nat} {I J : mI} {v : Int} (e : eqx (1010 :: l) I J) : eqx l (up2 I 104 10 v) (up2 J 104 10 v) := by
  intro h k q
  show (if h = 104 ∧ k = 10 then v else J h k) = (if h = 104 ∧ k = 10 then v else I h k)
  by_cases r : h = 104 ∧ k = 10
  · rw [if_pos r, if_pos r]
  · rw [if_neg r, if_neg r]
    refine e h k ?_
    rw [jk_f] at q ⊢
    refine ⟨fun h9 hm => ?_, fun h4 hm => ?_⟩
    · rw [List.mem_cons] at hm
      rcases hm with hm | hm
      · omega
      · exact q.1 h9 hm
    · rw [List.mem_cons] at hm
      rcases hm with hm | hm
      · exact r ⟨h4, by omega⟩
      · exact q.2 h4 hm
def lOr : List Nat := [16, 104, 1009, 1026, 111, 112, 113, 114, 115, 116]
theorem nol_sub {l ks js : List Nat} (h : nol l ks = true) (hj : ∀ k, k ∈ js → k ∈ ks) : nol l js = true := by
  refine List.all_eq_true.mpr fun k hk => ?_
  have := nol_e h (hj k hk)
  rw [this]; rfl
theorem OF_e {l : List Nat} {I J : mI} {c : Nat} (e : eqx l I J) (hs : sc2 l = true) (h2 : nol l lOr = true) (o : OF I c) : OF J c := by
  obtain ⟨o1, o2, o3, ⟨o4, o5⟩, o6, o7, o8, o9⟩ := o
  have e' : ∀ v, eqx (l.filter fun a => !(Nat.beq a 1010)) (up2 I 104 10 v) (up2 J 104 10 v) := by
    intro v
    refine eqx_cut (l := l.filter fun a => !(Nat.beq a 1010)) ?_
    intro h k q
    refine e h k ?_
    rw [jk_f] at q ⊢
    have mm : ∀ x, x ∈ l → x ∈ 1010 :: l.filter fun a => !(Nat.beq a 1010) := by
      intro x hx
      rw [List.mem_cons, List.mem_filter]
      by_cases r : x = 1010
      · exact Or.inl r
      · refine Or.inr ⟨hx, ?_⟩
        rw [show Nat.beq x 1010 = false from Bool.eq_false_iff.mpr (fun w => r (Nat.eq_of_beq_eq_true w))]
        rfl
    exact ⟨fun h9 hm => q.1 h9 (mm _ hm), fun h4 hm => q.2 h4 (mm _ hm)⟩
  have n1 : nol (l.filter fun a => !(Nat.beq a 1010)) lO = true := by
    refine List.all_eq_true.mpr fun k hk => ?_
    rw [Bool.not_eq_true', Bool.eq_false_iff, Ne, elm_iff, List.mem_filter]
    rintro ⟨hm, hb⟩
    by_cases r : k = 1010
    · subst r
      cases hb
    · have : k ∈ lOr := by
        have : k = 104 ∨ k = 1010 ∨ k = 1026 ∨ k = 111 ∨ k = 112 ∨ k = 113 ∨ k = 114 ∨ k = 115 ∨ k = 116 := by
          simp only [lO, List.mem_cons, List.not_mem_nil, or_false] at hk
          exact hk
        rcases this with w | w | w | w | w | w | w | w | w <;> first | exact absurd w r | (subst w; decide)
      exact nol_m h2 this hm
  refine ⟨o1, ?_, ?_, ⟨oC_2 e hs (Or.inl rfl) o4, by rw [off_2 e hs (Or.inl rfl)]; exact o5⟩, oI_e (e' _) n1 o6, ?_, ?_, ?_⟩
  · rw [cell_n e (a := 16) (by decide) (nol_m h2 (by decide))]; exact o2
  · rw [fld_e e (k := 9) (nol_e h2 (by decide)) (nol_e h2 (by decide))]; exact o3
  · intro j hj
    obtain ⟨a1, a2, a3⟩ := o7 j hj
    have hh := oH_6 (j := j) (by omega)
    refine ⟨oC_2 e hs (Or.inr hh) a1, oI_e (e' _) n1 a2, ?_⟩
    rw [off_2 e hs (Or.inr hh), offM_e (e' _) n1]
    exact a3
  · intro j j1 j2 k hk
    have n := sc2_n hs (Or.inr (oH_6 (j := j) j2)) 3 (by decide)
    rw [cell_n e n.1 n.2]
    exact o8 j j1 j2 k hk
  · intro i hi
    rw [cell_n e (a := 115) (by decide) (nol_m h2 (by decide))]
    exact o9 i hi
def lXr : List Nat := [74, 75, 110, 104, 1011]
theorem TX_e {l : List Nat} {I J : mI} (e : eqx l I J) (h : nol l lXr = true) (t : TX I) : TX J := by
  unfold TX
  rw [fld_e e (k := 11) (nol_e h (by decide)) (nol_e h (by decide)), cell_n e (a := 74) (by decide) (nol_m h (by decide)), cell_n e (a := 75) (by decide) (nol_m h (by decide)), cell_n e (a := 110) (by decide) (nol_m h (by decide))]
  exact t
def lAr : List Nat := [89, 90, 150, 104, 1074]
theorem AC_e {l : List Nat} {I J : mI} (e : eqx l I J) (h : nol l lAr = true) (t : AC I) : AC J := by
  unfold AC rnC rnM
  rw [fld_e e (k := 74) (nol_e h (by decide)) (nol_e h (by decide)), cell_n e (a := 89) (by decide) (nol_m h (by decide)), cell_n e (a := 90) (by decide) (nol_m h (by decide)), cell_n e (a := 150) (by decide) (nol_m h (by decide))]
  exact t
def lPr : List Nat := [92, 94, 96, 98, 100, 102, 151, 152]
theorem mem_Pr {t : Nat} (h : t < 6) : 92 + 2 * t ∈ lPr := by
  rcases t with _ | _ | _ | _ | _ | _ | t
  all_goals first | decide | omega
theorem TP_e {l : List Nat} {I J : mI} {L : mL} (e : eqx l I J) (h : nol l lPr = true) (t : TP I L) : TP J L := by
  obtain ⟨t1, t2⟩ := t
  have c1 : J 151 = I 151 := cell_n e (by decide) (nol_m h (by decide))
  have c2 : J 152 = I 152 := cell_n e (by decide) (nol_m h (by decide))
  refine ⟨?_, ?_⟩
  · unfold tI
    rw [c1, c2]
    exact t1
  · intro t ht
    rw [c1, c2, cell_n e (by omega) (nol_m h (mem_Pr ht))]
    exact t2 t ht
def lSr : List Nat := [1, 2, 3, 4, 5, 6, 7, 8, 9, 10, 11, 12, 13, 14, 118]
theorem mem_Sr {j : Nat} (h : j < 6) : 3 + j ∈ lSr ∧ 9 + j ∈ lSr := by
  rcases j with _ | _ | _ | _ | _ | _ | j
  all_goals first | decide | omega
theorem ST_e {l : List Nat} {I J : mI} (e : eqx l I J) (h : nol l lSr = true) (t : stat I ∧ strC I) : stat J ∧ strC J := by
  refine ⟨stat_n e (nol_sub h (by decide)) t.1, ?_, ?_⟩
  · intro j hj
    have m := mem_Sr hj
    rw [cell_n e (by omega) (nol_m h m.1), cell_n e (by omega) (nol_m h m.2)]
    exact t.2.1 j hj
  · rw [cell_n e (a := 118) (by decide) (nol_m h (by decide))]
    exact t.2.2
/-- all but the world as it is now -/
def lRest : List Nat := lKc ++ lKr ++ lOr ++ lXr ++ lAr ++ lPr ++ lSr
theorem RC_t {l : List Nat} {I J : mI} {L : mL} {c : Nat} (e : eqx l I J) (h : nol l lRest = true) (hs : sc2 l = true) (t : TW J c) (z : SZ J) (r : RC I L c) : RC J L c := by
  obtain ⟨_, r2, r3, r4, r5, r6, r7, _, r9⟩ := r
  have sub : ∀ js, (∀ k, k ∈ js → k ∈ lRest) → nol l js = true := fun js hj => nol_sub h hj
  have s1 := sub lKc (by decide)
  have s2 := sub lKr (by decide)
  have s3 := sub lOr (by decide)
  have s4 := sub lXr (by decide)
  have s5 := sub lAr (by decide)
  have s6 := sub lPr (by decide)
  have s7 := sub lSr (by decide)
  exact ⟨t, KP_e e s1 s2 r2, OF_e e hs s3 r3, TX_e e s4 r4, AC_e e s5 r5, TP_e e s6 r6, ST_e e s7 r7, z, by rw [fld_e e (k := 26) (nol_e s3 (by decide)) (nol_e s3 (by decide))]; exact r9⟩
theorem RC_s {l : List Nat} {I J : mI} {L : mL} {c : Nat} (e : eqx l I J) (h : nol l (lTc ++ lTr ++ lRest) = true) (hs : sc2 l = true) (r : RC I L c) : RC J L c := by
  have s1 := nol_sub h (js := lTc) (by decide)
  have s2 := nol_sub h (js := lTr) (by decide)
  have s3 := nol_sub h (js := lRest) (fun k hk => List.mem_append_right _ hk)
  refine RC_t e s3 hs (TW_agr (agr_e e s1 s2) r.1) ?_ r
  obtain ⟨_, _, _, _, _, _, _, z, _⟩ := r
  unfold SZ
  rw [cell_n e (a := 19) (by decide) (nol_m s1 (by decide)), cell_n e (a := 21) (by decide) (nol_m s1 (by decide)), cell_n e (a := 23) (by decide) (nol_m s1 (by decide))]
  exact z
/-! what the tie gives -/
theorem rc_cO {I : mI} {L : mL} {c : Nat} (r : RC I L c) : cO I c := by
  obtain ⟨⟨⟨_, _, _, t4⟩, _, _, _, _, th, _⟩, _, ⟨o1, o2, _, ⟨o4, _⟩, _, o7, _⟩, _⟩ := r
  exact ⟨o1, o2, by rw [t4]; exact th, o4, fun j hj => (o7 j hj).1⟩
theorem rc_n {I : mI} {L : mL} {c : Nat} (r : RC I L c) : (I 17 1).toNat = nM I ∧ I 104 0 = ((nM I : Nat) : Int) ∧ nM I ≤ 6 := by
  obtain ⟨⟨⟨t1, _⟩, _, _, tI, _⟩, _⟩ := r
  have := tI.1
  unfold nM
  rw [t1]
  omega
theorem rc_cP {I : mI} {L : mL} {c : Nat} (r : RC I L c) : cP I := by
  have hn := rc_n r
  obtain ⟨⟨⟨t1, t2, t3, t4⟩, tp, tg, tI, _⟩, _⟩ := r
  refine ⟨by rw [t1]; exact tI.1, by rw [t2]; exact tI.2.2.1, ?_, tg⟩
  intro p hp
  rw [hn.1] at hp
  have e := tp p hp
  have e0 : I (25 + 3 * p) 0 = perM I p 0 := by rw [← e]; rfl
  refine ⟨?_, e0⟩
  show okP (perN I p)
  rw [e]
  exact okP_M tI (by omega)
theorem rc_o {I : mI} {L : mL} {c : Nat} (r : RC I L c) : oI I ∧ offC I (hH I) = offM I := by
  obtain ⟨⟨⟨_, _, _, t4⟩, _, _, _, _, th, _⟩, _, ⟨o1, o2, _, ⟨o4, o5⟩, o6, o7, _⟩, _, _, _, _, _, r9⟩ := r
  unfold hH
  rw [t4]
  by_cases q : I 104 10 < 0
  · have e : I 104 10 = -1 := by omega
    rw [if_pos q, o5]
    have o6' := o6
    rw [← e, up2_self] at o6'
    refine ⟨o6', ?_⟩
    unfold offM
    rw [r9, if_neg (by decide)]
    have k0 : kM I = 0 := by unfold kM; rw [if_pos q]
    rw [k0]
    rfl
  · rw [if_neg q]
    obtain ⟨a1, a2, a3⟩ := o7 (I 104 10).toNat (by omega)
    have e : (((I 104 10).toNat : Nat) : Int) = I 104 10 := by omega
    rw [e, up2_self] at a2 a3
    exact ⟨a2, a3⟩
theorem rc_rI {I : mI} {L : mL} {c : Nat} (r : RC I L c) : rI I := ⟨(rc_o r).1, r.1.2.2.2.1⟩
theorem rc_is {I : mI} {L : mL} {c : Nat} (r : RC I L c) (p : Int) : isC I p ↔ isP I p := by
  unfold isC isP
  rw [r.1.1.1]
theorem rc_per {I : mI} {L : mL} {c : Nat} (r : RC I L c) {p : Nat} (hp : p < nM I) : perN I p = perM I p := r.1.2.1 p hp
theorem rc_perP {I : mI} {L : mL} {c : Nat} (r : RC I L c) {p : Int} (hp : isP I p) : perN I p.toNat = perM I p.toNat := rc_per r (by unfold isP at hp; unfold nM; omega)
/-- a call of the class, then the same of the reference: they answer alike -/
def PT (n d y1 : Nat) (a1 : List mV) (y2 : Nat) (a2 : List mV) (I : mI) (L : mL) (c : Nat) (Q : mI → mL → Nat → Prop) : Prop := C2 n d y1 a1 I L c (fun r I L c => ri r (fun v => C2 n d y2 a2 I L c (fun r I L c => ri r (fun w => v = w ∧ Q I L c))))
def PTl (n d y1 : Nat) (a1 : List mV) (y2 : Nat) (a2 : List mV) (I : mI) (L : mL) (c : Nat) (Q : mI → mL → Nat → Prop) : Prop := C2 n d y1 a1 I L c (fun r I L c => rl r (fun v => C2 n d y2 a2 I L c (fun r I L c => rl r (fun w => v = w ∧ Q I L c))))
