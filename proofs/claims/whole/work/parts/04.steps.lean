/-! ===== rules of the small machine: it is closed under its instructions; many steps at once ===== -/
section Mono
theorem eI_mono {st : List mV} {f g : Int → List mV → Prop} (h : ∀ x r, f x r → g x r) : eI st f → eI st g := by
  unfold eI; split <;> first | exact h _ _ | exact id
theorem eII_mono {st : List mV} {f g : Int → Int → List mV → Prop} (h : ∀ x y r, f x y r → g x y r) : eII st f → eII st g := by
  unfold eII; split <;> first | exact h _ _ _ | exact id
theorem eL_mono {st : List mV} {f g : Int64 → List mV → Prop} (h : ∀ x r, f x r → g x r) : eL st f → eL st g := by
  unfold eL; split <;> first | exact h _ _ | exact id
theorem eLL_mono {st : List mV} {f g : Int64 → Int64 → List mV → Prop} (h : ∀ x y r, f x y r → g x y r) : eLL st f → eLL st g := by
  unfold eLL; split <;> first | exact h _ _ _ | exact id
theorem eLI_mono {st : List mV} {f g : Int64 → Int → List mV → Prop} (h : ∀ x y r, f x y r → g x y r) : eLI st f → eLI st g := by
  unfold eLI; split <;> first | exact h _ _ _ | exact id
theorem eR_mono {st : List mV} {f g : Option Nat → List mV → Prop} (h : ∀ x r, f x r → g x r) : eR st f → eR st g := by
  unfold eR; split <;> first | exact h _ _ | exact id
theorem eRI_mono {st : List mV} {f g : Option Nat → Int → List mV → Prop} (h : ∀ x y r, f x y r → g x y r) : eRI st f → eRI st g := by
  unfold eRI; split <;> first | exact h _ _ _ | exact id
theorem eRR_mono {st : List mV} {f g : Option Nat → Option Nat → List mV → Prop} (h : ∀ x y r, f x y r → g x y r) : eRR st f → eRR st g := by
  unfold eRR; split <;> first | exact h _ _ _ | exact id
theorem eRII_mono {st : List mV} {f g : Option Nat → Int → Int → List mV → Prop} (h : ∀ x y z r, f x y z r → g x y z r) : eRII st f → eRII st g := by
  unfold eRII; split <;> first | exact h _ _ _ _ | exact id
theorem eRIL_mono {st : List mV} {f g : Option Nat → Int → Int64 → List mV → Prop} (h : ∀ x y z r, f x y z r → g x y z r) : eRIL st f → eRIL st g := by
  unfold eRIL; split <;> first | exact h _ _ _ _ | exact id
theorem eRIR_mono {st : List mV} {f g : Option Nat → Int → Option Nat → List mV → Prop} (h : ∀ x y z r, f x y z r → g x y z r) : eRIR st f → eRIR st g := by
  unfold eRIR; split <;> first | exact h _ _ _ _ | exact id
theorem eD_mono {st : List mV} {f g : mV → List mV → Prop} (h : ∀ x r, f x r → g x r) : eD st f → eD st g := by
  unfold eD; split
  · split <;> first | exact h _ _ | exact id
  · exact id
theorem eDD_mono {st : List mV} {f g : mV → mV → List mV → Prop} (h : ∀ x y r, f x y r → g x y r) : eDD st f → eDD st g := by
  unfold eDD; split
  · split <;> first | exact h _ _ _ | exact id
  · exact id
theorem gI_mono {ls : mLs} {i : Nat} {f g : Int → Prop} (h : ∀ x, f x → g x) : gI ls i f → gI ls i g := by
  unfold gI; split <;> first | exact h _ | exact id
theorem gL_mono {ls : mLs} {i : Nat} {f g : Int64 → Prop} (h : ∀ x, f x → g x) : gL ls i f → gL ls i g := by
  unfold gL; split <;> first | exact h _ | exact id
theorem gR_mono {ls : mLs} {i : Nat} {f g : Option Nat → Prop} (h : ∀ x, f x → g x) : gR ls i f → gR ls i g := by
  unfold gR; split <;> first | exact h _ | exact id
theorem putL_mono {ls : mLs} {i : Nat} {v : mV} {f g : mLs → Prop} (h : ∀ x, f x → g x) : putL ls i v f → putL ls i v g := by
  unfold putL; split
  · exact h _
  · split <;> first | exact h _ | exact id
theorem drf_mono {r : Option Nat} {f g : Nat → Prop} (h : ∀ x, f x → g x) : drf r f → drf r g := by
  unfold drf; split <;> first | exact h _ | exact id
theorem nbr_mono {r : Option Nat} {A B A' B' : Prop} (h : A → A') (h2 : B → B') : nbr r A B → nbr r A' B' := by
  unfold nbr; split <;> assumption
theorem chk_mono {b : Bool} {A B : Prop} (h : A → B) : chk b A → chk b B := by
  unfold chk; split <;> first | exact h | exact id
theorem and_mono {p A B : Prop} (h : A → B) : p ∧ A → p ∧ B := fun q => ⟨q.1, h q.2⟩
theorem b01W_mono {x : Int} {A B : Prop} (h : A → B) : b01W x A → b01W x B := by
  unfold b01W; split
  · exact h
  · split <;> first | exact h | exact id
theorem nzW_mono {x : Int} {A B : Prop} (h : A → B) : nzW x A → nzW x B := by
  unfold nzW; split <;> first | exact id | exact h
theorem b01W_inv {x : Int} {A : Prop} (h : b01W x A) : (x = 0 ∨ x = 1) ∧ A := by
  unfold b01W at h; split at h
  · rename_i q; exact ⟨Or.inl q, h⟩
  · split at h
    · rename_i q; exact ⟨Or.inr q, h⟩
    · exact h.elim
theorem nzW_inv {x : Int} {A : Prop} (h : nzW x A) : x ≠ 0 ∧ A := by
  unfold nzW at h; split at h
  · exact h.elim
  · rename_i q; exact ⟨q, h⟩
theorem b01W_i {x : Int} {A : Prop} (h : x = 0 ∨ x = 1) (a : A) : b01W x A := by
  unfold b01W; split
  · exact a
  · split
    · exact a
    · omega
theorem nzW_i {x : Int} {A : Prop} (h : x ≠ 0) (a : A) : nzW x A := by
  unfold nzW; rw [if_neg h]; exact a
theorem cbr_mono {c : ClassFile.Cond} {x y : Int} {A B A' B' : Prop} (h : A → A') (h2 : B → B') : cbr c x y A B → cbr c x y A' B' := by
  unfold cbr; cases c <;> (dsimp only; split <;> assumption)
theorem swW_mono {x : Int} {dflt : Nat} {f g : Nat → Prop} (h : ∀ t, f t → g t) : ∀ (sw : List (Int × Nat)), swW x sw dflt f → swW x sw dflt g
  | [] => h _
  | (k, t) :: r => by
    unfold swW; split
    · exact h _
    · exact swW_mono h r
theorem ri_mono {r : Option mV} {f g : Int → Prop} (h : ∀ x, f x → g x) : ri r f → ri r g := by
  unfold ri; split <;> first | exact h _ | exact id
theorem rl_mono {r : Option mV} {f g : Int64 → Prop} (h : ∀ x, f x → g x) : rl r f → rl r g := by
  unfold rl; split <;> first | exact h _ | exact id
theorem rr_mono {r : Option mV} {f g : Option Nat → Prop} (h : ∀ x, f x → g x) : rr r f → rr r g := by
  unfold rr; split <;> first | exact h _ | exact id
theorem rv_mono {r : Option mV} {f g : Prop} (h : f → g) : rv r f → rv r g := by
  unfold rv; split <;> first | exact h | exact id
theorem recvW_mono {vs : List mV} {f g : Nat → List mV → Prop} (h : ∀ x v, f x v → g x v) : recvW vs f → recvW vs g := by
  unfold recvW; split
  · exact drf_mono fun _ => h _ _
  · exact id
theorem retW_mono {ic : Nat} {st : List mV} {f g : List mV → mH → Prop} (h : ∀ st H, f st H → g st H) (r : Option mV) (H : mH) : retW ic st f r H → retW ic st g r H := by
  unfold retW; split
  · exact rv_mono (h _ _)
  · exact ri_mono fun _ => h _ _
  · exact rl_mono fun _ => h _ _
  · exact rr_mono fun _ => h _ _
theorem callW_mono {C C' : mC} {d y kc ks ic ib : Nat} {args st : List mV} {H : mH} {f g : Nat → Nat → List mV → mH → Prop} (hC : ∀ d y args H (Q Q' : mK), (∀ r H, Q r H → Q' r H) → C d y args H Q → C' d y args H Q') (h : ∀ a b st H, f a b st H → g a b st H) : callW C d y kc ks ic ib args st H f → callW C' d y kc ks ic ib args st H g := by
  unfold callW; split
  · exact id
  · exact chk_mono (hC _ _ _ _ _ _ fun r H => retW_mono (fun _ _ => h _ _ _ _) r H)
theorem copyW_mono {st : List mV} {H : mH} {n : Nat} {f g : List mV → mH → Prop} (h : ∀ r H, f r H → g r H) : copyW st H n f → copyW st H n g := by
  unfold copyW; split
  · refine drf_mono fun _ => drf_mono fun _ => and_mono (chk_mono ?_)
    split
    · exact h _ _
    · exact chk_mono (h _ _)
  · exact id
theorem chkIdxW_mono {st : List mV} {f g : List mV → Prop} (h : ∀ r, f r → g r) : chkIdxW st f → chkIdxW st g := eII_mono fun _ _ _ => and_mono (chk_mono (h _))
end Mono
set_option maxHeartbeats 4000000 in
theorem step_mono {n : Nat} {P P' : mJ} {C C' : mC} {K K' : mK} (hK : ∀ r H, K r H → K' r H) (hP : ∀ d y pc kc ks ls st H, P d y pc kc ks ls st H K → P' d y pc kc ks ls st H K') (hC : ∀ d y args H (Q Q' : mK), (∀ r H, Q r H → Q' r H) → C d y args H Q → C' d y args H Q') (d : Nat) (w : mRow) (kc ks : Nat) (ls : mLs) (st : List mV) (H : mH) : stepW n P C d w kc ks ls st H K → stepW n P' C' d w kc ks ls st H K' := by
  obtain ⟨y, pc, ins, len, ⟨ia, ib, ic⟩, z, sw⟩ := w
  have hp : ∀ {d y pc kc ks ls st H}, P d y pc kc ks ls st H K → P' d y pc kc ks ls st H K' := fun {d y pc kc ks ls st H} => hP d y pc kc ks ls st H
  cases ins <;> dsimp only [stepW] <;> first
    | exact id
    | exact hp
    | exact gI_mono fun _ => hp
    | exact gL_mono fun _ => hp
    | exact gR_mono fun _ => hp
    | exact eI_mono fun _ _ => hp
    | exact eII_mono fun _ _ _ => hp
    | exact eL_mono fun _ _ => hp
    | exact eLL_mono fun _ _ _ => hp
    | exact eLI_mono fun _ _ _ => hp
    | exact eD_mono fun _ _ => hp
    | exact eDD_mono fun _ _ _ => hp
    | exact eI_mono fun _ _ => putL_mono fun _ => hp
    | exact eR_mono fun _ _ => drf_mono fun _ => putL_mono fun _ => hp
    | exact gI_mono fun _ => putL_mono fun _ => hp
    | exact eII_mono fun _ _ _ => and_mono hp
    | exact eII_mono fun _ _ _ => nzW_mono hp
    | exact eI_mono fun _ _ => cbr_mono hp hp
    | exact eII_mono fun _ _ _ => cbr_mono hp hp
    | exact eR_mono fun _ _ => nbr_mono hp hp
    | exact eI_mono fun _ _ => swW_mono (fun _ => hp) _
    | exact eR_mono fun _ _ => drf_mono fun _ => chk_mono hp
    | exact eRI_mono fun _ _ _ => drf_mono fun _ => chk_mono (and_mono hp)
    | exact eRII_mono fun _ _ _ _ => drf_mono fun _ => chk_mono (and_mono hp)
    | exact eRII_mono fun _ _ _ _ => drf_mono fun _ => chk_mono (and_mono (b01W_mono hp))
    | exact eRIL_mono fun _ _ _ _ => drf_mono fun _ => chk_mono (and_mono hp)
    | exact eRIR_mono fun _ _ _ _ => drf_mono fun _ => drf_mono fun _ => chk_mono (and_mono hp)
    | exact recvW_mono fun _ _ => chk_mono (callW_mono hC fun _ _ _ _ => hp)
    | (split <;> first
        | exact id
        | exact hp
        | exact hK _ _
        | exact chk_mono hp
        | exact and_mono (hK _ _)
        | exact drf_mono fun _ => hK _ _
        | exact eRR_mono fun _ _ _ => drf_mono fun _ => chk_mono hp
        | exact eRI_mono fun _ _ _ => drf_mono fun _ => chk_mono (b01W_mono hp)
        | exact eRI_mono fun _ _ _ => drf_mono fun _ => chk_mono hp
        | exact eI_mono fun _ _ => chk_mono (and_mono hp)
        | exact copyW_mono fun _ _ => hp
        | exact eII_mono fun _ _ _ => chk_mono hp
        | exact eI_mono fun _ _ => chk_mono hp
        | exact chkIdxW_mono fun _ => hp
        | exact callW_mono hC fun _ _ _ _ => hp
        | exact eR_mono fun _ _ => drf_mono fun _ => chk_mono hp
        | exact recvW_mono fun _ _ => chk_mono (callW_mono hC fun _ _ _ _ => hp)
        | (split <;> first | exact hK _ _ | exact and_mono (hK _ _) | exact b01W_mono (hK _ _) | exact id))
    | (refine eR_mono fun _ _ => drf_mono fun _ => chk_mono ?_; split <;> exact hp)
theorem ent_mono {P P' : mJ} (h : ∀ d y pc kc ks ls st H (K K' : mK), (∀ r H, K r H → K' r H) → P d y pc kc ks ls st H K → P' d y pc kc ks ls st H K') : ∀ d y args H (Q Q' : mK), (∀ r H, Q r H → Q' r H) → ent P d y args H Q → ent P' d y args H Q' := fun _ _ _ _ _ _ hq => h _ _ _ _ _ _ _ _ _ _ hq
theorem Wm_mono (n : Nat) : mMono (Wm n) := fun _ _ _ _ _ _ _ _ _ _ hk h P hm hc => hm _ _ _ _ _ _ _ _ _ _ hk (h P hm hc)
theorem Cm_mono {n d y : Nat} {args : List mV} {H : mH} {K K' : mK} (hk : ∀ r H, K r H → K' r H) (h : Cm n d y args H K) : Cm n d y args H K' := Wm_mono n _ _ _ _ _ _ _ _ _ _ hk h
theorem Wm_closed (n : Nat) : mClosed n (Wm n) := by
  intro d w kc ks ls st H K hw h P hm hc
  refine hc d w kc ks ls st H K hw (step_mono (fun _ _ => id) (fun _ _ _ _ _ _ _ _ q => q P hm hc) (ent_mono fun _ _ _ _ _ _ _ _ _ _ hk q => hm _ _ _ _ _ _ _ _ _ _ hk (q P hm hc)) d w kc ks ls st H h)
/-- the rows from a place on -/
def findR (rs : List mRow) (pc : Nat) : List mRow := match rs with
  | [] => []
  | w :: r => match Nat.beq w.2.1 pc with
    | true => w :: r
    | false => findR r pc
def look (hint : List mRow) (y pc : Nat) : List mRow := match hint with
  | [] => findR (mCode y) pc
  | w :: r => match Nat.beq w.1 y && Nat.beq w.2.1 pc with
    | true => w :: r
    | false => findR (mCode y) pc
def cutB (cut : List (Nat × Nat)) (y pc : Nat) : Bool := match cut with
  | [] => false
  | q :: r => (Nat.beq q.1 y && Nat.beq q.2 pc) || cutB r y pc
def memB (l : List Nat) (y : Nat) : Bool := match l with
  | [] => false
  | q :: r => Nat.beq q y || memB r y
/-- many steps: up to the cuts; the methods of 'inl' are gone through, the others are called -/
def wpU (n : Nat) (inl : List Nat) (cut : List (Nat × Nat)) : Nat → List mRow → mJ
  | 0, _ => Wm n
  | f + 1, hint => fun d y pc kc ks ls st H K => match cutB cut y pc with
    | true => Wm n d y pc kc ks ls st H K
    | false => match look hint y pc with
      | [] => False
      | w :: rest => match Nat.beq w.1 y && Nat.beq w.2.1 pc with
        | true => stepW n (wpU n inl cut f rest) (fun d' y' args H K => match memB inl y' with
          | true => ent (wpU n inl cut f []) d' y' args H K
          | false => Cm n d' y' args H K) d w kc ks ls st H K
        | false => False
def okL (l : List mRow) : Prop := ∀ w ∈ l, okRow w = true
theorem findR_ok {rs : List mRow} (h : okL rs) (pc : Nat) : okL (findR rs pc) := by
  induction rs with
  | nil => exact h
  | cons w r ih =>
    unfold findR; split
    · exact h
    · exact ih fun q hq => h q (List.mem_cons_of_mem _ hq)
theorem look_ok (hC : ∀ y, okL (mCode y)) {hint : List mRow} (h : okL hint) (y pc : Nat) : okL (look hint y pc) := by
  unfold look; split
  · exact findR_ok (hC y) pc
  · split
    · exact h
    · exact findR_ok (hC y) pc
theorem wpU_sound (hC : ∀ y, okL (mCode y)) (n : Nat) (inl : List Nat) (cut : List (Nat × Nat)) : ∀ (f : Nat) (hint : List mRow), okL hint → ∀ d y pc kc ks ls st H (K K' : mK), (∀ r H, K r H → K' r H) → wpU n inl cut f hint d y pc kc ks ls st H K → Wm n d y pc kc ks ls st H K' := by
  intro f
  induction f with
  | zero => intro hint _ d y pc kc ks ls st H K K' hk h; exact Wm_mono n _ _ _ _ _ _ _ _ _ _ hk h
  | succ f ih =>
    intro hint hh d y pc kc ks ls st H K K' hk h
    unfold wpU at h
    split at h
    · exact Wm_mono n _ _ _ _ _ _ _ _ _ _ hk h
    · have hl := look_ok hC hh y pc
      split at h
      · exact h.elim
      · rename_i w rest heq
        rw [heq] at hl
        split at h
        · rename_i hb
          have e := Bool.and_eq_true_iff.mp hb
          have e1 := Nat.eq_of_beq_eq_true e.1
          have e2 := Nat.eq_of_beq_eq_true e.2
          rw [← e1, ← e2]
          refine Wm_closed n d w kc ks ls st H K' (hl w List.mem_cons_self) (step_mono hk (fun d y pc kc ks ls st H q => ih rest (fun v hv => hl v (List.mem_cons_of_mem _ hv)) d y pc kc ks ls st H K K' hk q) ?_ d w kc ks ls st H h)
          intro d y args H Q Q' hq g
          split at g
          · exact ih [] (fun v hv => by cases hv) _ _ _ _ _ _ _ _ Q Q' hq g
          · exact Cm_mono hq g
        · exact h.elim
