/-! WATER CHANGES -/
def hs_v (H : mH) (w : gF) : mH := (h_kd H, h_nu H, h_rt H, h_pl H, h_ra H, h_sz H, h_st H, w, h_nd H, h_nv H, h_up H, h_hd H, h_so H)
theorem IV.zv {σ s : gS} {H : mH} {nT t : Nat} {TT : Nat → mT} {b : gF} {n : Nat} (h : IV σ H nT t TT b n) {w : gF} (e : ∀ a, a ≠ 9 → a ≠ 74 → s a = σ a) (x : ∀ v, v < h_nv H → s 9 v = w v) (m : ∀ v, v < h_nv H → s 74 v = w v) (ok : ∀ v, v < h_nv H → ∃ W S, w v = nI W ∧ h_sz H v = nI S ∧ W ≤ S ∧ 1 ≤ S ∧ S ≤ 99) : IV s (hs_v H w) nT t TT b n := by
  have hh := h.1
  have hk := h.2.1
  obtain ⟨⟨y1, y2, y3, y4⟩, ⟨d1, d2, d3⟩, v1, v2, v3, v4⟩ := hh
  refine h.zh ⟨fun a z1 z2 z3 z4 => e a (by omega) (by omega), by rw [e 1 (by decide) (by decide)], fun j _ _ _ _ _ => by rw [e 63 (by decide) (by decide)]⟩ ⟨⟨?_, ?_, ?_, fun v hv => ⟨?_, ?_, x v hv⟩⟩, ⟨?_, ?_, ?_⟩, ?_, fun v hv => ⟨?_, ?_, m v hv⟩, ?_, ?_⟩ ⟨hk.1, hk.2.1, hk.2.2.1, fun v hv => ⟨ok v hv, (hk.2.2.2.1 v hv).2⟩, hk.2.2.2.2⟩ (Nat.le_refl _) (Nat.le_refl _) (fun _ _ => rfl) (fun _ _ => rfl)
  · rw [e 1 (by decide) (by decide)]; exact y1
  · rw [e 2 (by decide) (by decide)]; exact y2
  · rw [e 3 (by decide) (by decide), e 4 (by decide) (by decide), e 5 (by decide) (by decide), e 6 (by decide) (by decide)]; exact y3
  · rw [e 7 (by decide) (by decide)]; exact (y4 v hv).1
  · rw [e 8 (by decide) (by decide)]; exact (y4 v hv).2.1
  · rw [e 63 (by decide) (by decide)]; exact d1
  · rw [e 67 (by decide) (by decide)]; exact d2
  · rw [e 68 (by decide) (by decide), e 69 (by decide) (by decide), e 70 (by decide) (by decide), e 71 (by decide) (by decide)]; exact d3
  · rw [e 63 (by decide) (by decide)]; exact v1
  · rw [e 72 (by decide) (by decide)]; exact (v2 v hv).1
  · rw [e 73 (by decide) (by decide)]; exact (v2 v hv).2.1
  · rw [e 63 (by decide) (by decide)]; exact v3
  · rw [e 63 (by decide) (by decide)]; exact v4
/-- the reference doesn't see the class's cells -/
theorem mok.zlow {σ s : gS} {t : Nat} {T : mT} {H : mH} (h : mok σ t T H) (e : ∀ a, 63 ≤ a → s a = σ a) : mok s t T H := by
  obtain ⟨⟨h1, h2, h3, h4, h5, h6⟩, h7⟩ := h
  refine ⟨⟨h1.zfr (by rw [e 63 (by decide)]) (e 64 (by decide)) (e 65 (by decide)), h2.zfr (fun a x _ => e a (by omega)) (by rw [e 63 (by decide)]), by rw [e 63 (by decide)]; exact h3, fun v hv => ?_, by rw [e 63 (by decide)]; exact h5, by rw [e 63 (by decide)]; exact h6⟩, h7⟩
  rw [e 72 (by decide), e 73 (by decide), e 74 (by decide)]
  exact h4 v hv
