/-! put ON BOTH SIDES -/
theorem k_M_put {h : Nat} (hh : 6 ≤ h) (σ : gS) (ve pl : Int32) {nv : Nat} (hv : σ 63 19 = nI nv) (hv5 : nv ≤ 5) : g_Met yX8_put cX8_put 5 (some .int) h kM [.ref 63, .int ve, .int pl] σ (fun rv s => rv = some (.int (if g_in ve 0 (σ 63 19 - 1) then (if pl = -1 ∨ g_in pl 0 7 then (if (if pl = -1 then -1 else g_fd (fun j => decide (σ 73 j = pl)) nv 0) = -1 ∨ (if pl = -1 then -1 else g_fd (fun j => decide (σ 73 j = pl)) nv 0) = ve then σ 73 (ix ve) else -3) else -2) else -2)) ∧ s = (if g_in ve 0 (σ 63 19 - 1) then (if pl = -1 ∨ g_in pl 0 7 then (if (if pl = -1 then -1 else g_fd (fun j => decide (σ 73 j = pl)) nv 0) = -1 ∨ (if pl = -1 then -1 else g_fd (fun j => decide (σ 73 j = pl)) nv 0) = ve then g_up σ 73 (ix ve) pl else σ) else σ) else σ)) := by
  refine w_X8_put hh ?_
  unfold P_X8_put
  refine ⟨fun c => ⟨pl = -1 ∨ g_in pl 0 7, ⟨fun z => Or.inl z, fun z => ⟨fun y => Or.inr y, fun y => ?_⟩⟩, fun hJ => ⟨fun v s => v = (if pl = -1 then -1 else g_fd (fun j => decide (σ 73 j = pl)) nv 0) ∧ s = σ, ⟨fun z => ⟨by rw [if_pos z], rfl⟩, fun z => ?_⟩, fun v s hvs => ?_⟩⟩, fun c => ?_⟩
  · have w : ¬ (pl = -1 ∨ g_in pl 0 7) := fun w => w.elim z y
    exact ⟨by rw [if_pos c, if_neg w], by rw [if_pos c, if_neg w]⟩
  · exact g_call.i (c_X8_vesselOn σ pl hv hv5) (by omega) (fun rv s hq => ⟨_, hq.1, by rw [if_neg z], hq.2⟩)
  · obtain ⟨evs, ess⟩ := hvs
    rw [ess]
    have c0 := c
    rw [hv] at c0
    obtain ⟨j, hj, ej⟩ := g_nat c0 rfl (by omega)
    have ij : ix ve = j := by rw [ej]; exact ix_nI (by omega)
    rw [if_pos c, if_pos hJ, if_pos c, if_pos hJ, ← evs, ij]
    refine ⟨fun z => ⟨j, ej, by omega, ?_⟩, fun z => ⟨fun y => ⟨j, ej, by omega, ?_⟩, fun y => ?_⟩⟩
    · have w : v = -1 ∨ v = ve := Or.inl z
      exact ⟨by rw [if_pos w], by rw [if_pos w]⟩
    · have w : v = -1 ∨ v = ve := Or.inr y
      exact ⟨by rw [if_pos w], by rw [if_pos w]⟩
    · have w : ¬ (v = -1 ∨ v = ve) := fun w => w.elim z y
      exact ⟨by rw [if_neg w], by rw [if_neg w]⟩
  · exact ⟨by rw [if_neg c], by rw [if_neg c]⟩
theorem g_ex_iff {P : Nat → Bool} : ∀ (k i : Nat), g_ex P k i = true ↔ ∃ j, i ≤ j ∧ j < i + k ∧ P j = true
  | 0, i => ⟨fun z => by (rw [g_ex] at z; cases z), fun ⟨j, h1, h2, _⟩ => absurd h2 (by omega)⟩
  | k + 1, i => by
    rw [g_ex, Bool.or_eq_true, g_ex_iff k (i + 1)]
    constructor
    · rintro (z | ⟨j, h1, h2, h3⟩)
      · exact ⟨i, Nat.le_refl i, by omega, z⟩
      · exact ⟨j, by omega, by omega, h3⟩
    · rintro ⟨j, h1, h2, h3⟩
      by_cases y : j = i
      · subst y; exact Or.inl h3
      · exact Or.inr ⟨j, by omega, by omega, h3⟩
/-- who stands there, asked one way and the other -/
theorem m_put_ex {f g : gF} {nv k : Nat} {pl : Int32} (hk : k < nv) (hv5 : nv ≤ 5) (efg : ∀ j, j < nv → f j = g j) (dj : ∀ u v, u < nv → v < nv → u ≠ v → g u = g v → g u = -1) : g_ex (fun j => decide (¬ nI j = nI k) && (decide (¬ pl = -1) && decide (f j = pl))) nv 0 = true ↔ ¬ ((if pl = -1 then -1 else g_fd (fun j => decide (g j = pl)) nv 0) = -1 ∨ (if pl = -1 then -1 else g_fd (fun j => decide (g j = pl)) nv 0) = nI k) := by
  rw [g_ex_iff]
  by_cases z : pl = -1
  · rw [if_pos z]
    constructor
    · rintro ⟨j, -, -, h3⟩
      simp [z] at h3
    · intro w
      exact absurd (Or.inl rfl) w
  · rw [if_neg z]
    have one : ∀ u v, u < nv → v < nv → g u = pl → g v = pl → u = v := fun u v hu hv h1 h2 => by
      by_cases y : u = v
      · exact y
      · exact absurd ((h1 ▸ dj u v hu hv y (h1.trans h2.symm)) : pl = -1) z
    have fst : ∀ u, u < nv → g u = pl → g_fd (fun j => decide (g j = pl)) nv 0 = nI u := fun u hu h1 => by
      refine g_fd_some (v := u) (by simp [h1]) (Nat.zero_le _) (by omega) (fun j _ hj => ?_)
      by_cases y : g j = pl
      · have := one j u (by omega) hu y h1; omega
      · simp [y]
    constructor
    · rintro ⟨j, -, hj, h3⟩
      have h4 : ¬ nI j = nI k ∧ ¬ pl = -1 ∧ f j = pl := by simpa using h3
      rw [fst j (by omega) ((efg j (by omega)) ▸ h4.2.2)]
      rintro (w | w)
      · exact nI_m1 (f := j) (by omega) w
      · exact h4.1 w
    · intro w
      by_cases y : ∃ u, u < nv ∧ g u = pl
      · obtain ⟨u, hu, hg⟩ := y
        rw [fst u hu hg] at w
        refine ⟨u, Nat.zero_le _, by omega, ?_⟩
        have h5 : ¬ nI u = nI k := fun q => w (Or.inr q)
        have h6 : f u = pl := (efg u hu).trans hg
        simp [h5, z, h6]
      · refine absurd (Or.inl (g_fd_none (fun j _ hj => ?_))) w
        have : ¬ g j = pl := fun q => y ⟨j, by omega, q⟩
        simp [this]
def hs_st (H : mH) (st : gF) : mH := (h_kd H, h_nu H, h_rt H, h_pl H, h_ra H, h_sz H, st, h_w H, h_nd H, h_nv H, h_up H, h_hd H, h_so H)
section JU
variable {σ : gS} {H : mH} {nT t : Nat} {TT : Nat → mT} {b : gF} {n : Nat}
theorem IV.zst {s : gS} (h : IV σ H nT t TT b n) {st : gF} (e : ∀ a, a ≠ 8 → a ≠ 73 → s a = σ a) (x : ∀ v, v < h_nv H → s 8 v = st v) (m : ∀ v, v < h_nv H → s 73 v = st v) (ok : ∀ v, v < h_nv H → st v = -1 ∨ ∃ q, st v = nI q ∧ q ≤ 7) (dj : ∀ u v, u < h_nv H → v < h_nv H → u ≠ v → st u = st v → st u = -1) : IV s (hs_st H st) nT t TT b n := by
  have hh := h.1
  have hk := h.2.1
  obtain ⟨⟨y1, y2, y3, y4⟩, ⟨d1, d2, d3⟩, v1, v2, v3, v4⟩ := hh
  refine h.zh ⟨fun a z1 z2 z3 z4 => e a (by omega) (by omega), by rw [e 1 (by decide) (by decide)], fun j _ _ _ _ _ => by rw [e 63 (by decide) (by decide)]⟩ ⟨⟨?_, ?_, ?_, fun v hv => ⟨?_, x v hv, ?_⟩⟩, ⟨?_, ?_, ?_⟩, ?_, fun v hv => ⟨?_, m v hv, ?_⟩, ?_, ?_⟩ ⟨hk.1, hk.2.1, hk.2.2.1, fun v hv => ⟨(hk.2.2.2.1 v hv).1, ok v hv⟩, dj⟩ (Nat.le_refl _) (Nat.le_refl _) (fun _ _ => rfl) (fun _ _ => rfl)
  · rw [e 1 (by decide) (by decide)]; exact y1
  · rw [e 2 (by decide) (by decide)]; exact y2
  · rw [e 3 (by decide) (by decide), e 4 (by decide) (by decide), e 5 (by decide) (by decide), e 6 (by decide) (by decide)]; exact y3
  · rw [e 7 (by decide) (by decide)]; exact (y4 v hv).1
  · rw [e 9 (by decide) (by decide)]; exact (y4 v hv).2.2
  · rw [e 63 (by decide) (by decide)]; exact d1
  · rw [e 67 (by decide) (by decide)]; exact d2
  · rw [e 68 (by decide) (by decide), e 69 (by decide) (by decide), e 70 (by decide) (by decide), e 71 (by decide) (by decide)]; exact d3
  · rw [e 63 (by decide) (by decide)]; exact v1
  · rw [e 72 (by decide) (by decide)]; exact (v2 v hv).1
  · rw [e 74 (by decide) (by decide)]; exact (v2 v hv).2.2
  · rw [e 63 (by decide) (by decide)]; exact v3
  · rw [e 63 (by decide) (by decide)]; exact v4
theorem jp_put (h : IV σ H nT t TT b n) (ve pl : Int32) : JP yX7_put cX7_put 4 yX8_put cX8_put 5 [.int ve, .int pl] σ := by
  obtain ⟨d1, d2, d5⟩ := h.znv
  have eo : ∀ a, a ≠ 8 → (if g_in ve 0 ((σ 1 9) - 1) then (if pl = -1 ∨ g_in pl 0 7 then (if g_ex (fun j => decide (¬ nI j = ve) && (decide (¬ pl = -1) && decide (σ 8 j = pl))) (h_nv H) 0 = true then σ else g_up σ 8 (ix ve) pl) else σ) else σ) a = σ a := fun a ha => by
    split
    · split
      · split
        · rfl
        · exact g_up_ne ha
      · rfl
    · rfl
  refine JP.zsz (hX := 4) (hM := 6) (by decide) (by decide) (c_X7_put σ ve pl d1 d5) (k_M_put (by decide) _ ve pl (nv := h_nv H) (by rw [eo 63 (by decide)]; exact d2) d5) ?_
  rw [eo 63 (by decide), eo 73 (by decide), d1, d2]
  have keep : IVx σ := ⟨H, nT, t, TT, b, n, h⟩
  by_cases c : g_in ve 0 (nI (h_nv H) - 1)
  · simp only [if_pos c]
    by_cases c2 : pl = -1 ∨ g_in pl 0 7
    · simp only [if_pos c2]
      obtain ⟨k, hk, rfl⟩ := g_nat c rfl (by omega)
      have X := m_put_ex (f := σ 8) (g := σ 73) (pl := pl) hk d5 (fun j hj => (h.zvv j hj).2.1) (fun u v hu hv hne heq => by
        rw [(h.1.2.2.2.1 u hu).2.1] at heq ⊢
        rw [(h.1.2.2.2.1 v hv).2.1] at heq
        exact h.2.1.2.2.2.2 u v hu hv hne heq)
      by_cases c3 : (if pl = -1 then -1 else g_fd (fun j => decide (σ 73 j = pl)) (h_nv H) 0) = -1 ∨ (if pl = -1 then -1 else g_fd (fun j => decide (σ 73 j = pl)) (h_nv H) 0) = nI k
      · have c4 : ¬ g_ex (fun j => decide (¬ nI j = nI k) && (decide (¬ pl = -1) && decide (σ 8 j = pl))) (h_nv H) 0 = true := fun z => X.mp z c3
        simp only [if_pos c3, if_neg c4]
        rw [ix_nI (by omega)]
        refine ⟨(h.zvv k hk).2.1, hs_st H (m_put (h_st H) k pl), nT, t, TT, b, n, h.zst (fun a z1 z2 => by rw [g_up_ne z2, g_up_ne z1]) (fun j hj => ?_) (fun j hj => ?_) (fun j hj => ?_) (fun u v hu hv hne heq => ?_)⟩
        · rw [g_up_ne (by decide)]
          by_cases z : j = k
          · subst z; rw [u_eq]; exact (if_pos rfl).symm
          · rw [u_ne z, (h.1.1.2.2.2 j hj).2.1]; exact (if_neg z).symm
        · by_cases z : j = k
          · subst z; rw [u_eq]; exact (if_pos rfl).symm
          · rw [u_ne z, g_up_ne (by decide), (h.1.2.2.2.1 j hj).2.1]; exact (if_neg z).symm
        · by_cases z : j = k
          · have e : m_put (h_st H) k pl j = pl := if_pos z
            rw [e]
            rcases c2 with y | y
            · exact Or.inl y
            · obtain ⟨q, hq, rfl⟩ := n_of (M := 7) y (by decide)
              exact Or.inr ⟨q, rfl, hq⟩
          · have e : m_put (h_st H) k pl j = h_st H j := if_neg z
            rw [e]
            exact (h.2.1.2.2.2.1 j hj).2
        · have far : ∀ w, w < h_nv H → w ≠ k → h_st H w = pl → pl = -1 := fun w hw hwk hst => by
            by_cases y : pl = -1
            · exact y
            · refine absurd ((g_ex_iff _ _).mpr ⟨w, Nat.zero_le _, by omega, ?_⟩) c4
              have h7 : ¬ nI w = nI k := fun q => hwk ((n_eq (a := w) (b := k) (by omega) (by omega)).mp q)
              have h8 : σ 8 w = pl := ((h.1.1.2.2.2 w hw).2.1).trans hst
              simp [h7, y, h8]
          by_cases zu : u = k
          · have eu : m_put (h_st H) k pl u = pl := if_pos zu
            have ev : m_put (h_st H) k pl v = h_st H v := if_neg (by omega)
            rw [eu, ev] at heq
            rw [eu]
            exact far v hv (by omega) heq.symm
          · have eu : m_put (h_st H) k pl u = h_st H u := if_neg zu
            rw [eu] at heq ⊢
            by_cases zv : v = k
            · have ev : m_put (h_st H) k pl v = pl := if_pos zv
              rw [ev] at heq
              rw [heq]
              exact far u hu zu heq
            · have ev : m_put (h_st H) k pl v = h_st H v := if_neg zv
              rw [ev] at heq
              exact h.2.1.2.2.2.2 u v hu hv hne heq
      · have c4 := X.mpr c3
        simp only [if_neg c3, if_pos c4]
        exact ⟨trivial, keep⟩
    · simp only [if_neg c2]
      exact ⟨trivial, keep⟩
  · simp only [if_neg c]
    exact ⟨trivial, keep⟩
end JU
