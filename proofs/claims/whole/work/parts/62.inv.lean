/-! THE LAW'S INVARIANT, first half: the memory without what the calls leave free -/
abbrev ctj (j : Nat) : Prop := (20 ≤ j ∧ j ≤ 34) ∨ (39 ≤ j ∧ j ≤ 43) ∨ (45 ≤ j ∧ j ≤ 49)
def ct (σ : gS) : gS := fun a => if (23 ≤ a ∧ a ≤ 36) ∨ (75 ≤ a ∧ a ≤ 82) then fun _ => 0 else if a = 63 then (fun j => if ctj j then 0 else σ 63 j) else σ a
theorem ct_at (σ : gS) {a : Nat} (h1 : ¬ ((23 ≤ a ∧ a ≤ 36) ∨ (75 ≤ a ∧ a ≤ 82))) (h2 : a ≠ 63) : ct σ a = σ a := by
  unfold ct
  rw [if_neg h1, if_neg h2]
theorem ct_63 (σ : gS) {j : Nat} (h : ¬ ctj j) : ct σ 63 j = σ 63 j := by
  have e : ct σ 63 = fun j => if ctj j then 0 else σ 63 j := by
    unfold ct
    rw [if_neg (by decide), if_pos rfl]
  rw [e]
  exact if_neg h
theorem ct_ext {σ s : gS} (h1 : ∀ a, ¬ ((23 ≤ a ∧ a ≤ 36) ∨ (75 ≤ a ∧ a ≤ 82)) → a ≠ 63 → s a = σ a) (h2 : ∀ j, ¬ ctj j → s 63 j = σ 63 j) : ct s = ct σ := by
  funext a
  unfold ct
  by_cases e1 : (23 ≤ a ∧ a ≤ 36) ∨ (75 ≤ a ∧ a ≤ 82)
  · rw [if_pos e1, if_pos e1]
  · rw [if_neg e1, if_neg e1]
    by_cases e2 : a = 63
    · rw [if_pos e2, if_pos e2]
      funext j
      by_cases e3 : ctj j
      · rw [if_pos e3, if_pos e3]
      · rw [if_neg e3, if_neg e3]
        exact h2 j e3
    · rw [if_neg e2, if_neg e2]
      exact h1 a e1 e2
theorem xfr.zct {σ s : gS} (h : xfr σ s) : ct s = ct σ := ct_ext (fun a h1 _ => h a (by omega)) (fun j _ => by rw [h 63 (by omega)])
theorem mxf.zct {σ s : gS} (h : mxf σ s) : ct s = ct σ := ct_ext (fun a h1 h2 => h.1 a h2 (by omega)) (fun j hj => h.2 j (by have hj' : ¬ ((20 ≤ j ∧ j ≤ 34) ∨ (39 ≤ j ∧ j ≤ 43) ∨ (45 ≤ j ∧ j ≤ 49)) := hj; omega))
/-- the texts that both know -/
def iv_tx (σ : gS) (nT : Nat) (TT : Nat → mT) : Prop := (σ 0 5 = nI nT ∧ σ 63 3 = nI nT ∧ 1 ≤ nT ∧ nT ≤ 6) ∧ ∀ i, i < nT → (m_tok σ i ∧ ∀ pa, pa < 3 → ∀ mo nm, m_tell σ i pa mo nm = TT i pa mo nm) ∧ ∃ b n, mtx b n i σ ∧ p_fa (p_end (q_l b n)) = none ∧ TT i = t_of (q_l b n)
/-- the tape -/
def iv_tp (σ : gS) (b : gF) (n : Nat) : Prop := σ 19 1 = nI n ∧ σ 63 6 = nI n ∧ n ≤ 160 ∧ ∀ i, i < n → σ 20 i = b i ∧ σ 66 i = b i ∧ g_in (b i) 0 255
/-- the house of both -/
def iv_h (σ : gS) (H : mH) : Prop := xh σ H ∧ md σ H (h_ra H) ∧ σ 63 19 = nI (h_nv H) ∧ (∀ v, v < h_nv H → σ 72 v = h_sz H v ∧ σ 73 v = h_st H v ∧ σ 74 v = h_w H v) ∧ (σ 63 8 = h_up H ∧ σ 63 10 = h_so H ∧ σ 63 9 = nI (h_hd H)) ∧ σ 63 44 = 0
/-- the rule's text -/
def iv_t (σ : gS) (t : Nat) : Prop := σ 1 13 = nI t ∧ σ 63 4 = nI t
/-- the sheets -/
def iv_sh (σ : gS) : Prop := msh σ (x_so σ) (x_sz σ) (fun t => σ (38 + 2 * t)) ∧ ∀ t, t < 4 → (∃ z, x_sz σ t = nI z ∧ z ≤ 40) ∧ (x_so σ t = -1 ∨ g_in (x_so σ t) 0 2)
theorem iv_h.zct {σ : gS} {H : mH} : iv_h (ct σ) H ↔ iv_h σ H := by
  have e : ∀ a, ¬ ((23 ≤ a ∧ a ≤ 36) ∨ (75 ≤ a ∧ a ≤ 82)) → a ≠ 63 → ct σ a = σ a := fun a h1 h2 => ct_at σ h1 h2
  have e15 : ct σ 63 15 = σ 63 15 := ct_63 σ (by decide)
  have e19 : ct σ 63 19 = σ 63 19 := ct_63 σ (by decide)
  have e8 : ct σ 63 8 = σ 63 8 := ct_63 σ (by decide)
  have e9 : ct σ 63 9 = σ 63 9 := ct_63 σ (by decide)
  have e10 : ct σ 63 10 = σ 63 10 := ct_63 σ (by decide)
  have e44 : ct σ 63 44 = σ 63 44 := ct_63 σ (by decide)
  have ex : xh (ct σ) H ↔ xh σ H := ⟨fun h => xh.same h (fun a ha => (e a (by omega) (by omega)).symm), fun h => xh.same h (fun a ha => e a (by omega) (by omega))⟩
  have em : md (ct σ) H (h_ra H) ↔ md σ H (h_ra H) := ⟨fun h => md.zfr h (fun a x y => (e a (by omega) (by omega)).symm) e15.symm, fun h => md.zfr h (fun a x y => e a (by omega) (by omega)) e15⟩
  unfold iv_h
  rw [ex, em, e19, e8, e9, e10, e44, e 72 (by decide) (by decide), e 73 (by decide) (by decide), e 74 (by decide) (by decide)]
theorem iv_t.zct {σ : gS} {t : Nat} : iv_t (ct σ) t ↔ iv_t σ t := by
  unfold iv_t
  rw [ct_at σ (a := 1) (by decide) (by decide), ct_63 σ (j := 4) (by decide)]
theorem iv_tp.zct {σ : gS} {b : gF} {n : Nat} : iv_tp (ct σ) b n ↔ iv_tp σ b n := by
  unfold iv_tp
  rw [ct_at σ (a := 19) (by decide) (by decide), ct_at σ (a := 20) (by decide) (by decide), ct_at σ (a := 66) (by decide) (by decide), ct_63 σ (j := 6) (by decide)]
theorem iv_tx.zct {σ : gS} {nT : Nat} {TT : Nat → mT} : iv_tx (ct σ) nT TT ↔ iv_tx σ nT TT := by
  have e0 : ct σ 0 = σ 0 := ct_at σ (by decide) (by decide)
  have e64 : ct σ 64 = σ 64 := ct_at σ (by decide) (by decide)
  have e65 : ct σ 65 = σ 65 := ct_at σ (by decide) (by decide)
  have e3 : ct σ 63 3 = σ 63 3 := ct_63 σ (by decide)
  have ek : ∀ i, i < 6 → ct σ (46 + 3 * i) = σ (46 + 3 * i) ∧ ct σ (47 + 3 * i) = σ (47 + 3 * i) := fun i hi => ⟨ct_at σ (by omega) (by omega), ct_at σ (by omega) (by omega)⟩
  have em : ∀ b n i, mtx b n i (ct σ) ↔ mtx b n i σ := fun b n i => by
    unfold mtx
    rw [e64, e65]
  unfold iv_tx
  rw [e0, e3]
  refine and_congr_right (fun h => forall_congr' (fun i => forall_congr' (fun hi => ?_)))
  obtain ⟨k1, k2⟩ := ek i (by omega)
  refine and_congr ⟨fun z => ?_, fun z => ?_⟩ (exists_congr (fun b => exists_congr (fun n => and_congr (em b n i) Iff.rfl)))
  · obtain ⟨m1, m2⟩ := z.1.same (s := σ) k1.symm k2.symm
    exact ⟨m1, fun pa hp mo nm => (m2 pa mo nm).trans (z.2 pa hp mo nm)⟩
  · obtain ⟨m1, m2⟩ := z.1.same (s := ct σ) k1 k2
    exact ⟨m1, fun pa hp mo nm => (m2 pa mo nm).trans (z.2 pa hp mo nm)⟩
theorem iv_xok {σ : gS} {H : mH} {nT t : Nat} {TT : Nat → mT} (h1 : iv_h σ H) (h2 : iv_tx σ nT TT) (h3 : iv_t σ t) (ht : t < nT) (hH : h_ok H) : xok σ t (TT t) H := by
  obtain ⟨⟨m1, m2⟩, b, n, m3, m4, m5⟩ := h2.2 t ht
  exact ⟨⟨h3.1, m1, m2⟩, h1.1, hH, by rw [m5]; exact t_of_ok _⟩
theorem iv_mok {σ : gS} {H : mH} {nT t : Nat} {TT : Nat → mT} (h1 : iv_h σ H) (h2 : iv_tx σ nT TT) (h3 : iv_t σ t) (ht : t < nT) (hH : h_ok H) : mok σ t (TT t) H := by
  obtain ⟨⟨m1, m2⟩, b, n, m3, m4, m5⟩ := h2.2 t ht
  exact ⟨⟨⟨b, n, m3, h3.2, m4, m5⟩, h1.2.1, h1.2.2.1, h1.2.2.2.1, h1.2.2.2.2.1, h1.2.2.2.2.2⟩, hH, by rw [m5]; exact t_of_ok _⟩
