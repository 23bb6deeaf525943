/-! ===== more locals than are looked at do no harm ===== -/
def lsLe : mLs → mLs → Prop
  | [], [] => True
  | a :: r, b :: s => (b = a ∨ (a = none ∧ ∃ v, b = some v ∧ isC1 v = true)) ∧ lsLe r s
  | _, _ => False
theorem lsLe_rf : ∀ (ls : mLs), lsLe ls ls
  | [] => trivial
  | _ :: r => ⟨Or.inl rfl, lsLe_rf r⟩
theorem lsLe_at : ∀ {ls ls' : mLs}, lsLe ls ls' → ∀ {i : Nat} {v : mV}, ls[i]? = some (some v) → ls'[i]? = some (some v)
  | [], [], _, i, v, h => by simp at h
  | a :: r, b :: s, hl, i, v, h => by
    cases i with
    | zero =>
      simp at h
      rcases hl.1 with q | q
      · simp [q, h]
      · rw [q.1] at h; cases h
    | succ i => simp at h ⊢; exact lsLe_at hl.2 h
theorem lsLe_long : ∀ {ls ls' : mLs}, lsLe ls ls' → ∀ {i : Nat} {x : Int64}, ls'[i]? = some (some (vl x)) → ls[i]? = some (some (vl x))
  | [], [], _, i, v, h => by simp at h
  | a :: r, b :: s, hl, i, v, h => by
    cases i with
    | zero =>
      simp at h
      rcases hl.1 with q | ⟨q, w, q2, q3⟩
      · simp [← q, h]
      · rw [q2] at h; cases h; cases q3
    | succ i => simp at h ⊢; exact lsLe_long hl.2 h
theorem lsLe_set : ∀ {ls ls' : mLs}, lsLe ls ls' → ∀ (i : Nat) (v : Option mV), lsLe (ls.set i v) (ls'.set i v)
  | [], [], _, i, v => trivial
  | a :: r, b :: s, hl, i, v => by
    cases i with
    | zero => exact ⟨Or.inl rfl, hl.2⟩
    | succ i => exact ⟨hl.1, lsLe_set hl.2 i v⟩
theorem gI_le {ls ls' : mLs} (hl : lsLe ls ls') {i : Nat} {f g : Int → Prop} (h : ∀ x, f x → g x) : gI ls i f → gI ls' i g := by
  intro q
  obtain ⟨x, hx, hf⟩ := gI_inv q
  unfold gI
  rw [lsLe_at hl hx]
  exact h x hf
theorem gL_le {ls ls' : mLs} (hl : lsLe ls ls') {i : Nat} {f g : Int64 → Prop} (h : ∀ x, f x → g x) : gL ls i f → gL ls' i g := by
  intro q
  obtain ⟨x, hx, hf⟩ := gL_inv q
  unfold gL
  rw [lsLe_at hl hx]
  exact h x hf
theorem gR_le {ls ls' : mLs} (hl : lsLe ls ls') {i : Nat} {f g : Option Nat → Prop} (h : ∀ x, f x → g x) : gR ls i f → gR ls' i g := by
  intro q
  obtain ⟨x, hx, hf⟩ := gR_inv q
  unfold gR
  rw [lsLe_at hl hx]
  exact h x hf
theorem putL_le {ls ls' : mLs} (hl : lsLe ls ls') {i : Nat} {v : mV} {f g : mLs → Prop} (h : ∀ (_ : Unit) {a b : mLs}, lsLe a b → f a → g b) : putL ls i v f → putL ls' i v g := by
  intro q
  obtain ⟨hn, hf⟩ := putL_inv q
  unfold putL
  split
  · exact h () (lsLe_set hl 0 _) hf
  · rename_i j
    split
    · rename_i x hx
      exact hn j x rfl (lsLe_long hl hx)
    · exact h () (lsLe_set hl _ _) hf
set_option maxHeartbeats 8000000 in
theorem step_le {n : Nat} {P P' : mJ} {C C' : mC} {K K' : mK} (hK : ∀ r H, K r H → K' r H) (hP : ∀ d y pc kc ks ls ls' st H, lsLe ls ls' → P d y pc kc ks ls st H K → P' d y pc kc ks ls' st H K') (hC : ∀ d y args H (Q Q' : mK), (∀ r H, Q r H → Q' r H) → C d y args H Q → C' d y args H Q') (d : Nat) (w : mRow) (kc ks : Nat) (ls ls' : mLs) (hle : lsLe ls ls') (st : List mV) (H : mH) : stepW n P C d w kc ks ls st H K → stepW n P' C' d w kc ks ls' st H K' := by
  obtain ⟨y, pc, ins, len, ⟨ia, ib, ic⟩, z, sw⟩ := w
  have hp : ∀ {d y pc kc ks ls ls' st H}, lsLe ls ls' → P d y pc kc ks ls st H K → P' d y pc kc ks ls' st H K' := fun {d y pc kc ks ls ls' st H} => hP d y pc kc ks ls ls' st H
  cases ins <;> dsimp only [stepW] <;> first
    | exact False.elim
    | exact id
    | exact (hp hle)
    | exact gI_le hle fun _ => hp hle
    | exact gL_le hle fun _ => hp hle
    | exact gR_le hle fun _ => hp hle
    | exact eI_mono fun _ _ => (hp hle)
    | exact eII_mono fun _ _ _ => (hp hle)
    | exact eL_mono fun _ _ => (hp hle)
    | exact eLL_mono fun _ _ _ => (hp hle)
    | exact eLI_mono fun _ _ _ => (hp hle)
    | exact eD_mono fun _ _ => (hp hle)
    | exact eDD_mono fun _ _ _ => (hp hle)
    | exact eI_mono fun _ _ => putL_le hle fun _ {_ _} h => hp h
    | exact eR_mono fun _ _ => drf_mono fun _ => putL_le hle fun _ {_ _} h => hp h
    | exact gI_le hle fun _ => putL_le hle fun _ {_ _} h => hp h
    | exact eII_mono fun _ _ _ => and_mono (hp hle)
    | exact eII_mono fun _ _ _ => nzW_mono (hp hle)
    | exact eI_mono fun _ _ => cbr_mono (hp hle) (hp hle)
    | exact eII_mono fun _ _ _ => cbr_mono (hp hle) (hp hle)
    | exact eR_mono fun _ _ => nbr_mono (hp hle) (hp hle)
    | exact eI_mono fun _ _ => swW_mono (fun _ => (hp hle)) _
    | exact eR_mono fun _ _ => drf_mono fun _ => chk_mono (hp hle)
    | exact eRI_mono fun _ _ _ => drf_mono fun _ => chk_mono (and_mono (hp hle))
    | exact eRII_mono fun _ _ _ _ => drf_mono fun _ => chk_mono (and_mono (hp hle))
    | exact eRII_mono fun _ _ _ _ => drf_mono fun _ => chk_mono (and_mono (b01W_mono (hp hle)))
    | exact eRIL_mono fun _ _ _ _ => drf_mono fun _ => chk_mono (and_mono (hp hle))
    | exact eRIR_mono fun _ _ _ _ => drf_mono fun _ => drf_mono fun _ => chk_mono (and_mono (hp hle))
    | exact recvW_mono fun _ _ => chk_mono (callW_mono hC fun _ _ _ _ => (hp hle))
    | exact hK _ _
    | exact chk_mono (hp hle)
    | exact and_mono (hK _ _)
    | exact drf_mono fun _ => hK _ _
    | exact eRR_mono fun _ _ _ => drf_mono fun _ => chk_mono (hp hle)
    | exact eRI_mono fun _ _ _ => drf_mono fun _ => chk_mono (b01W_mono (hp hle))
    | exact eRI_mono fun _ _ _ => drf_mono fun _ => chk_mono (hp hle)
    | exact eI_mono fun _ _ => chk_mono (and_mono (hp hle))
    | exact copyW_mono fun _ _ => (hp hle)
    | exact eII_mono fun _ _ _ => chk_mono (hp hle)
    | exact eI_mono fun _ _ => chk_mono (hp hle)
    | exact chkIdxW_mono fun _ => (hp hle)
    | exact callW_mono hC fun _ _ _ _ => (hp hle)
    | exact b01W_mono (hK _ _)
    | (split <;> (try dsimp only) <;> first | exact False.elim | exact id | exact (hp hle) | exact gI_le hle fun _ => hp hle | exact gL_le hle fun _ => hp hle | exact gR_le hle fun _ => hp hle | exact eI_mono fun _ _ => (hp hle) | exact eII_mono fun _ _ _ => (hp hle) | exact eL_mono fun _ _ => (hp hle) | exact eLL_mono fun _ _ _ => (hp hle) | exact eLI_mono fun _ _ _ => (hp hle) | exact eD_mono fun _ _ => (hp hle) | exact eDD_mono fun _ _ _ => (hp hle) | exact eI_mono fun _ _ => putL_le hle fun _ {_ _} h => hp h | exact eR_mono fun _ _ => drf_mono fun _ => putL_le hle fun _ {_ _} h => hp h | exact gI_le hle fun _ => putL_le hle fun _ {_ _} h => hp h | exact eII_mono fun _ _ _ => and_mono (hp hle) | exact eII_mono fun _ _ _ => nzW_mono (hp hle) | exact eI_mono fun _ _ => cbr_mono (hp hle) (hp hle) | exact eII_mono fun _ _ _ => cbr_mono (hp hle) (hp hle) | exact eR_mono fun _ _ => nbr_mono (hp hle) (hp hle) | exact eI_mono fun _ _ => swW_mono (fun _ => (hp hle)) _ | exact eR_mono fun _ _ => drf_mono fun _ => chk_mono (hp hle) | exact eRI_mono fun _ _ _ => drf_mono fun _ => chk_mono (and_mono (hp hle)) | exact eRII_mono fun _ _ _ _ => drf_mono fun _ => chk_mono (and_mono (hp hle)) | exact eRII_mono fun _ _ _ _ => drf_mono fun _ => chk_mono (and_mono (b01W_mono (hp hle))) | exact eRIL_mono fun _ _ _ _ => drf_mono fun _ => chk_mono (and_mono (hp hle)) | exact eRIR_mono fun _ _ _ _ => drf_mono fun _ => drf_mono fun _ => chk_mono (and_mono (hp hle)) | exact recvW_mono fun _ _ => chk_mono (callW_mono hC fun _ _ _ _ => (hp hle)) | exact hK _ _ | exact chk_mono (hp hle) | exact and_mono (hK _ _) | exact drf_mono fun _ => hK _ _ | exact eRR_mono fun _ _ _ => drf_mono fun _ => chk_mono (hp hle) | exact eRI_mono fun _ _ _ => drf_mono fun _ => chk_mono (b01W_mono (hp hle)) | exact eRI_mono fun _ _ _ => drf_mono fun _ => chk_mono (hp hle) | exact eI_mono fun _ _ => chk_mono (and_mono (hp hle)) | exact copyW_mono fun _ _ => (hp hle) | exact eII_mono fun _ _ _ => chk_mono (hp hle) | exact eI_mono fun _ _ => chk_mono (hp hle) | exact chkIdxW_mono fun _ => (hp hle) | exact callW_mono hC fun _ _ _ _ => (hp hle) | exact b01W_mono (hK _ _) | (exfalso; simp_all; done) | (split <;> (try dsimp only) <;> first | exact False.elim | exact id | exact (hp hle) | exact gI_le hle fun _ => hp hle | exact gL_le hle fun _ => hp hle | exact gR_le hle fun _ => hp hle | exact eI_mono fun _ _ => (hp hle) | exact eII_mono fun _ _ _ => (hp hle) | exact eL_mono fun _ _ => (hp hle) | exact eLL_mono fun _ _ _ => (hp hle) | exact eLI_mono fun _ _ _ => (hp hle) | exact eD_mono fun _ _ => (hp hle) | exact eDD_mono fun _ _ _ => (hp hle) | exact eI_mono fun _ _ => putL_le hle fun _ {_ _} h => hp h | exact eR_mono fun _ _ => drf_mono fun _ => putL_le hle fun _ {_ _} h => hp h | exact gI_le hle fun _ => putL_le hle fun _ {_ _} h => hp h | exact eII_mono fun _ _ _ => and_mono (hp hle) | exact eII_mono fun _ _ _ => nzW_mono (hp hle) | exact eI_mono fun _ _ => cbr_mono (hp hle) (hp hle) | exact eII_mono fun _ _ _ => cbr_mono (hp hle) (hp hle) | exact eR_mono fun _ _ => nbr_mono (hp hle) (hp hle) | exact eI_mono fun _ _ => swW_mono (fun _ => (hp hle)) _ | exact eR_mono fun _ _ => drf_mono fun _ => chk_mono (hp hle) | exact eRI_mono fun _ _ _ => drf_mono fun _ => chk_mono (and_mono (hp hle)) | exact eRII_mono fun _ _ _ _ => drf_mono fun _ => chk_mono (and_mono (hp hle)) | exact eRII_mono fun _ _ _ _ => drf_mono fun _ => chk_mono (and_mono (b01W_mono (hp hle))) | exact eRIL_mono fun _ _ _ _ => drf_mono fun _ => chk_mono (and_mono (hp hle)) | exact eRIR_mono fun _ _ _ _ => drf_mono fun _ => drf_mono fun _ => chk_mono (and_mono (hp hle)) | exact recvW_mono fun _ _ => chk_mono (callW_mono hC fun _ _ _ _ => (hp hle)) | exact hK _ _ | exact chk_mono (hp hle) | exact and_mono (hK _ _) | exact drf_mono fun _ => hK _ _ | exact eRR_mono fun _ _ _ => drf_mono fun _ => chk_mono (hp hle) | exact eRI_mono fun _ _ _ => drf_mono fun _ => chk_mono (b01W_mono (hp hle)) | exact eRI_mono fun _ _ _ => drf_mono fun _ => chk_mono (hp hle) | exact eI_mono fun _ _ => chk_mono (and_mono (hp hle)) | exact copyW_mono fun _ _ => (hp hle) | exact eII_mono fun _ _ _ => chk_mono (hp hle) | exact eI_mono fun _ _ => chk_mono (hp hle) | exact chkIdxW_mono fun _ => (hp hle) | exact callW_mono hC fun _ _ _ _ => (hp hle) | exact b01W_mono (hK _ _) | (exfalso; simp_all; done) | (split <;> (try dsimp only) <;> first | exact False.elim | exact id | exact (hp hle) | exact gI_le hle fun _ => hp hle | exact gL_le hle fun _ => hp hle | exact gR_le hle fun _ => hp hle | exact eI_mono fun _ _ => (hp hle) | exact eII_mono fun _ _ _ => (hp hle) | exact eL_mono fun _ _ => (hp hle) | exact eLL_mono fun _ _ _ => (hp hle) | exact eLI_mono fun _ _ _ => (hp hle) | exact eD_mono fun _ _ => (hp hle) | exact eDD_mono fun _ _ _ => (hp hle) | exact eI_mono fun _ _ => putL_le hle fun _ {_ _} h => hp h | exact eR_mono fun _ _ => drf_mono fun _ => putL_le hle fun _ {_ _} h => hp h | exact gI_le hle fun _ => putL_le hle fun _ {_ _} h => hp h | exact eII_mono fun _ _ _ => and_mono (hp hle) | exact eII_mono fun _ _ _ => nzW_mono (hp hle) | exact eI_mono fun _ _ => cbr_mono (hp hle) (hp hle) | exact eII_mono fun _ _ _ => cbr_mono (hp hle) (hp hle) | exact eR_mono fun _ _ => nbr_mono (hp hle) (hp hle) | exact eI_mono fun _ _ => swW_mono (fun _ => (hp hle)) _ | exact eR_mono fun _ _ => drf_mono fun _ => chk_mono (hp hle) | exact eRI_mono fun _ _ _ => drf_mono fun _ => chk_mono (and_mono (hp hle)) | exact eRII_mono fun _ _ _ _ => drf_mono fun _ => chk_mono (and_mono (hp hle)) | exact eRII_mono fun _ _ _ _ => drf_mono fun _ => chk_mono (and_mono (b01W_mono (hp hle))) | exact eRIL_mono fun _ _ _ _ => drf_mono fun _ => chk_mono (and_mono (hp hle)) | exact eRIR_mono fun _ _ _ _ => drf_mono fun _ => drf_mono fun _ => chk_mono (and_mono (hp hle)) | exact recvW_mono fun _ _ => chk_mono (callW_mono hC fun _ _ _ _ => (hp hle)) | exact hK _ _ | exact chk_mono (hp hle) | exact and_mono (hK _ _) | exact drf_mono fun _ => hK _ _ | exact eRR_mono fun _ _ _ => drf_mono fun _ => chk_mono (hp hle) | exact eRI_mono fun _ _ _ => drf_mono fun _ => chk_mono (b01W_mono (hp hle)) | exact eRI_mono fun _ _ _ => drf_mono fun _ => chk_mono (hp hle) | exact eI_mono fun _ _ => chk_mono (and_mono (hp hle)) | exact copyW_mono fun _ _ => (hp hle) | exact eII_mono fun _ _ _ => chk_mono (hp hle) | exact eI_mono fun _ _ => chk_mono (hp hle) | exact chkIdxW_mono fun _ => (hp hle) | exact callW_mono hC fun _ _ _ _ => (hp hle) | exact b01W_mono (hK _ _) | (exfalso; simp_all; done) | (split <;> (try dsimp only) <;> first | exact False.elim | exact id | exact (hp hle) | exact gI_le hle fun _ => hp hle | exact gL_le hle fun _ => hp hle | exact gR_le hle fun _ => hp hle | exact eI_mono fun _ _ => (hp hle) | exact eII_mono fun _ _ _ => (hp hle) | exact eL_mono fun _ _ => (hp hle) | exact eLL_mono fun _ _ _ => (hp hle) | exact eLI_mono fun _ _ _ => (hp hle) | exact eD_mono fun _ _ => (hp hle) | exact eDD_mono fun _ _ _ => (hp hle) | exact eI_mono fun _ _ => putL_le hle fun _ {_ _} h => hp h | exact eR_mono fun _ _ => drf_mono fun _ => putL_le hle fun _ {_ _} h => hp h | exact gI_le hle fun _ => putL_le hle fun _ {_ _} h => hp h | exact eII_mono fun _ _ _ => and_mono (hp hle) | exact eII_mono fun _ _ _ => nzW_mono (hp hle) | exact eI_mono fun _ _ => cbr_mono (hp hle) (hp hle) | exact eII_mono fun _ _ _ => cbr_mono (hp hle) (hp hle) | exact eR_mono fun _ _ => nbr_mono (hp hle) (hp hle) | exact eI_mono fun _ _ => swW_mono (fun _ => (hp hle)) _ | exact eR_mono fun _ _ => drf_mono fun _ => chk_mono (hp hle) | exact eRI_mono fun _ _ _ => drf_mono fun _ => chk_mono (and_mono (hp hle)) | exact eRII_mono fun _ _ _ _ => drf_mono fun _ => chk_mono (and_mono (hp hle)) | exact eRII_mono fun _ _ _ _ => drf_mono fun _ => chk_mono (and_mono (b01W_mono (hp hle))) | exact eRIL_mono fun _ _ _ _ => drf_mono fun _ => chk_mono (and_mono (hp hle)) | exact eRIR_mono fun _ _ _ _ => drf_mono fun _ => drf_mono fun _ => chk_mono (and_mono (hp hle)) | exact recvW_mono fun _ _ => chk_mono (callW_mono hC fun _ _ _ _ => (hp hle)) | exact hK _ _ | exact chk_mono (hp hle) | exact and_mono (hK _ _) | exact drf_mono fun _ => hK _ _ | exact eRR_mono fun _ _ _ => drf_mono fun _ => chk_mono (hp hle) | exact eRI_mono fun _ _ _ => drf_mono fun _ => chk_mono (b01W_mono (hp hle)) | exact eRI_mono fun _ _ _ => drf_mono fun _ => chk_mono (hp hle) | exact eI_mono fun _ _ => chk_mono (and_mono (hp hle)) | exact copyW_mono fun _ _ => (hp hle) | exact eII_mono fun _ _ _ => chk_mono (hp hle) | exact eI_mono fun _ _ => chk_mono (hp hle) | exact chkIdxW_mono fun _ => (hp hle) | exact callW_mono hC fun _ _ _ _ => (hp hle) | exact b01W_mono (hK _ _) | (exfalso; simp_all; done)))))
    | (refine eR_mono fun _ _ => drf_mono fun _ => chk_mono ?_; split <;> exact hp hle)
theorem Wm_le {n d y pc kc ks : Nat} {ls ls' : mLs} {st : List mV} {H : mH} {K : mK} (hle : lsLe ls ls') (h : Wm n d y pc kc ks ls st H K) : Wm n d y pc kc ks ls' st H K := by
  have hP := h (fun d y pc kc ks ls st H K => ∀ ls', lsLe ls ls' → Wm n d y pc kc ks ls' st H K) (fun d y pc kc ks ls st H K K' hk q ls' hl => Wm_mono n _ _ _ _ _ _ _ _ _ _ hk (q ls' hl)) (fun d w kc ks ls st H K hw q ls' hl => Wm_closed n d w kc ks ls' st H K hw (step_le (fun _ _ => id) (fun _ _ _ _ _ _ ls' _ _ hl q => q ls' hl) (fun d y args H Q Q' hq g => Wm_mono n _ _ _ _ _ _ _ _ _ _ hq (g _ (lsLe_rf _))) d w kc ks ls ls' hl st H q))
  exact hP ls' hle
