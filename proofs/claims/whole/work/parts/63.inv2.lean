/-! THE LAW'S INVARIANT, second half -/
def iv_kX (σ : gS) (K : mH) (tk : Nat) : Prop := (σ 10 8 = nI (h_nd K) ∧ σ 10 9 = nI (h_nv K) ∧ σ 10 10 = h_up K ∧ σ 10 11 = nI (h_hd K) ∧ σ 10 12 = h_so K ∧ σ 10 13 = nI tk) ∧ (∀ h, h < 24 → σ 11 h = h_ra K h) ∧ (∀ d, d < h_nd K → σ 12 d = h_kd K d ∧ σ 13 d = h_nu K d ∧ σ 14 d = h_rt K d ∧ σ 15 d = h_pl K d) ∧ ∀ v, v < h_nv K → σ 16 v = h_sz K v ∧ σ 17 v = h_st K v ∧ σ 18 v = h_w K v
def iv_kM (σ : gS) (K : mH) (tk : Nat) : Prop := (σ 63 54 = nI (h_nd K) ∧ σ 63 55 = nI (h_nv K) ∧ σ 63 56 = h_up K ∧ σ 63 57 = nI (h_hd K) ∧ σ 63 58 = h_so K ∧ σ 63 59 = nI tk) ∧ (∀ h, h < 24 → σ 83 h = h_ra K h) ∧ (∀ d, d < h_nd K → σ 84 d = h_nu K d ∧ σ 84 (6 + d) = h_rt K d ∧ σ 84 (12 + d) = h_pl K d) ∧ ∀ v, v < h_nv K → σ 85 v = h_st K v ∧ σ 85 (5 + v) = h_w K v
/-- the image: the kinds and the sizes are never lost -/
def iv_im (σ : gS) (H : mH) (nT : Nat) : Prop := (σ 0 2 = 0 ∧ σ 63 54 = -1) ∨ (σ 0 2 = 1 ∧ ∃ K tk, h_ok K ∧ tk < nT ∧ (h_nd K ≤ h_nd H ∧ h_nv K ≤ h_nv H) ∧ (∀ d, d < h_nd K → h_kd K d = h_kd H d) ∧ (∀ v, v < h_nv K → h_sz K v = h_sz H v) ∧ iv_kX σ K tk ∧ iv_kM σ K tk)
theorem iv_sh.zct {σ : gS} : iv_sh (ct σ) ↔ iv_sh σ := by
  have ea : ∀ t, t < 4 → ct σ (37 + 2 * t) = σ (37 + 2 * t) ∧ ct σ (38 + 2 * t) = σ (38 + 2 * t) := fun t ht => ⟨ct_at σ (by omega) (by omega), ct_at σ (by omega) (by omega)⟩
  have e86 : ct σ 86 = σ 86 := ct_at σ (by decide) (by decide)
  have e87 : ct σ 87 = σ 87 := ct_at σ (by decide) (by decide)
  have e88 : ct σ 88 = σ 88 := ct_at σ (by decide) (by decide)
  have e89 : ct σ 89 = σ 89 := ct_at σ (by decide) (by decide)
  have es : ∀ t, t < 4 → x_so (ct σ) t = x_so σ t ∧ x_sz (ct σ) t = x_sz σ t := fun t ht => by
    unfold x_so x_sz
    rw [(ea t ht).1]
    exact ⟨rfl, rfl⟩
  unfold iv_sh msh
  refine and_congr (forall_congr' (fun t => forall_congr' (fun ht => ?_))) (forall_congr' (fun t => forall_congr' (fun ht => ?_)))
  · dsimp only
    rw [(es t ht).1, (es t ht).2, e86, e87, e88, e89, (ea t ht).2]
  · rw [(es t ht).1, (es t ht).2]
theorem iv_im.zct {σ : gS} {H : mH} {nT : Nat} : iv_im (ct σ) H nT ↔ iv_im σ H nT := by
  have e : ∀ a, ¬ ((23 ≤ a ∧ a ≤ 36) ∨ (75 ≤ a ∧ a ≤ 82)) → a ≠ 63 → ct σ a = σ a := fun a h1 h2 => ct_at σ h1 h2
  unfold iv_im iv_kX iv_kM
  rw [e 0 (by decide) (by decide), e 10 (by decide) (by decide), e 11 (by decide) (by decide), e 12 (by decide) (by decide), e 13 (by decide) (by decide), e 14 (by decide) (by decide), e 15 (by decide) (by decide), e 16 (by decide) (by decide), e 17 (by decide) (by decide), e 18 (by decide) (by decide), e 83 (by decide) (by decide), e 84 (by decide) (by decide), e 85 (by decide) (by decide), ct_63 σ (j := 54) (by decide), ct_63 σ (j := 55) (by decide), ct_63 σ (j := 56) (by decide), ct_63 σ (j := 57) (by decide), ct_63 σ (j := 58) (by decide), ct_63 σ (j := 59) (by decide)]
/-- the invariant -/
def IV (σ : gS) (H : mH) (nT t : Nat) (TT : Nat → mT) (b : gF) (n : Nat) : Prop := iv_h σ H ∧ h_ok H ∧ iv_tx σ nT TT ∧ iv_t σ t ∧ t < nT ∧ iv_tp σ b n ∧ iv_sh σ ∧ iv_im σ H nT
theorem IV.zct {σ s : gS} {H : mH} {nT t : Nat} {TT : Nat → mT} {b : gF} {n : Nat} (h : IV σ H nT t TT b n) (e : ct s = ct σ) : IV s H nT t TT b n := by
  obtain ⟨h1, h2, h3, h4, h5, h6, h7, h8⟩ := h
  refine ⟨?_, h2, ?_, ?_, h5, ?_, ?_, ?_⟩
  · rw [← iv_h.zct, e, iv_h.zct]; exact h1
  · rw [← iv_tx.zct, e, iv_tx.zct]; exact h3
  · rw [← iv_t.zct, e, iv_t.zct]; exact h4
  · rw [← iv_tp.zct, e, iv_tp.zct]; exact h6
  · rw [← iv_sh.zct, e, iv_sh.zct]; exact h7
  · rw [← iv_im.zct, e, iv_im.zct]; exact h8
section IVQ
variable {σ : gS} {H : mH} {nT t : Nat} {TT : Nat → mT} {b : gF} {n : Nat}
theorem IV.zX (h : IV σ H nT t TT b n) : xok σ t (TT t) H := iv_xok h.1 h.2.2.1 h.2.2.2.1 h.2.2.2.2.1 h.2.1
theorem IV.zM (h : IV σ H nT t TT b n) : mok σ t (TT t) H := iv_mok h.1 h.2.2.1 h.2.2.2.1 h.2.2.2.2.1 h.2.1
theorem IV.zfx {s : gS} (h : IV σ H nT t TT b n) (e : xfr σ s) : IV s H nT t TT b n := h.zct e.zct
theorem IV.zfm {s : gS} (h : IV σ H nT t TT b n) (e : mxf σ s) : IV s H nT t TT b n := h.zct e.zct
theorem IV.qX {y : MethodName} {c : ByteArray} {nl h : Nat} {ret : Option FieldType} {av : List Value} {rv0 : Option Value} (h0 : IV σ H nT t TT b n) (k : g_Met y c nl ret h kX av σ (fun rv s => rv = rv0 ∧ xfr σ s)) : g_Met y c nl ret h kX av σ (fun rv s => rv = rv0 ∧ IV s H nT t TT b n ∧ xfr σ s) := k_mono k (fun _ _ hq => ⟨hq.1, h0.zfx hq.2, hq.2⟩)
theorem IV.qM {y : MethodName} {c : ByteArray} {nl h : Nat} {ret : Option FieldType} {av : List Value} {rv0 : Option Value} (h0 : IV σ H nT t TT b n) (k : g_Met y c nl ret h kM av σ (fun rv s => rv = rv0 ∧ mxf σ s)) : g_Met y c nl ret h kM av σ (fun rv s => rv = rv0 ∧ IV s H nT t TT b n ∧ mxf σ s) := k_mono k (fun _ _ hq => ⟨hq.1, h0.zfm hq.2, hq.2⟩)
end IVQ
