/-! THE REFERENCE'S CALLS OVER A DAY: gone .. chance -/
theorem mv.zup8 {s : gS} {t : Nat} {T : mT} {H : mH} {V : mV} (h : mv s t T H V) (x : Int32) : mv (g_up s 63 8 x) t T H (v_ra V, v_tm V, v_ld V, v_lt V, v_st V, x, v_so V, v_hd V) := by
  obtain ⟨h1, h2, h3, h4, h5, h6⟩ := h
  exact ⟨h1.zfr (u_ne (by decide)) (g_up_ne (by decide)) (g_up_ne (by decide)), h2.zfr (fun a x y => g_up_ne (by omega)) (u_ne (by decide)), by rw [u_ne (by decide)]; exact h3, fun a b => by rw [g_up_ne (by decide), g_up_ne (by decide), g_up_ne (by decide)]; exact h4 a b, ⟨u_eq _ _ _ _, by rw [u_ne (by decide)]; exact h5.2.1, by rw [u_ne (by decide)]; exact h5.2.2⟩, by rw [u_ne (by decide)]; exact h6⟩
theorem mv.zup10 {s : gS} {t : Nat} {T : mT} {H : mH} {V : mV} (h : mv s t T H V) (x : Int32) : mv (g_up s 63 10 x) t T H (v_ra V, v_tm V, v_ld V, v_lt V, v_st V, v_up V, x, v_hd V) := by
  obtain ⟨h1, h2, h3, h4, h5, h6⟩ := h
  exact ⟨h1.zfr (u_ne (by decide)) (g_up_ne (by decide)) (g_up_ne (by decide)), h2.zfr (fun a x y => g_up_ne (by omega)) (u_ne (by decide)), by rw [u_ne (by decide)]; exact h3, fun a b => by rw [g_up_ne (by decide), g_up_ne (by decide), g_up_ne (by decide)]; exact h4 a b, ⟨by rw [u_ne (by decide)]; exact h5.1, u_eq _ _ _ _, by rw [u_ne (by decide)]; exact h5.2.2⟩, by rw [u_ne (by decide)]; exact h6⟩
theorem mv.zup9 {s : gS} {t : Nat} {T : mT} {H : mH} {V : mV} (h : mv s t T H V) {x : Int32} {n : Nat} (e : x = nI n) : mv (g_up s 63 9 x) t T H (v_ra V, v_tm V, v_ld V, v_lt V, v_st V, v_up V, v_so V, n) := by
  obtain ⟨h1, h2, h3, h4, h5, h6⟩ := h
  exact ⟨h1.zfr (u_ne (by decide)) (g_up_ne (by decide)) (g_up_ne (by decide)), h2.zfr (fun a x y => g_up_ne (by omega)) (u_ne (by decide)), by rw [u_ne (by decide)]; exact h3, fun a b => by rw [g_up_ne (by decide), g_up_ne (by decide), g_up_ne (by decide)]; exact h4 a b, ⟨by rw [u_ne (by decide)]; exact h5.1, by rw [u_ne (by decide)]; exact h5.2.1, by rw [u_eq]; exact e⟩, by rw [u_ne (by decide)]; exact h6⟩
/-- a field that came back -/
theorem mxf.zback {σ s s1 : gS} {j : Nat} {v x : Int32} (h : mxf (g_up σ 63 j v) s) (hx : x = σ 63 j) (e : s1 = g_up s 63 j x) : mxf σ s1 := by
  subst e
  subst hx
  refine ⟨fun a b c => by rw [g_up_ne b, h.1 a b c, g_up_ne b], fun i hi => ?_⟩
  by_cases z : i = j
  · subst z; rw [u_eq]
  · rw [u_ne z, h.2 i hi, u_ne z]
theorem k_M_gone {h : Nat} (hh : 78 ≤ h) (σ : gS) {t : Nat} {T : mT} {H : mH} (hx : mok σ t T H) : g_Met yX8_gone cX8_gone 2 (some .int) h kM [.ref 63] σ (fun rv s => rv = some (.int (a_gone T H)) ∧ mxf σ s) := by
  obtain ⟨hm, hH, hT⟩ := hx
  have vo := m_v0_ok hH
  refine w_X8_gone (by omega) ?_
  unfold P_X8_gone
  refine g_call.i (k_costNow (h := 76) (by omega) _ (hm.zup8 0) hT hH ⟨vo.1, vo.2.1, vo.2.2⟩ (v0_dj hH) rfl rfl rfl) (by omega) (fun rv s hq => ?_)
  obtain ⟨rfl, hf, hp, ⟨-, d1, d2, d3, d4⟩, -⟩ := hq
  refine ⟨_, rfl, ?_, hf.zback rfl rfl⟩
  rw [d4]
  rfl
theorem m_bits2 {n d u : Nat} (hn : n ≤ 6) (hd : d < n) (hu : u < n) : ((((((1 : Int32) <<< (nI n &&& 31)) - 1) &&& (((1 : Int32) <<< (nI d &&& 31)) ^^^ (-1))) >>> (nI u &&& 31)) &&& 1) = 0 ↔ u = d := by
  have H : ∀ n : Fin 7, ∀ d u : Fin 6, d.val < n.val → u.val < n.val → (((((((1 : Int32) <<< (nI n.val &&& 31)) - 1) &&& (((1 : Int32) <<< (nI d.val &&& 31)) ^^^ (-1))) >>> (nI u.val &&& 31)) &&& 1) = 0 ↔ u.val = d.val) := by decide +kernel
  exact H ⟨n, by omega⟩ ⟨d, by omega⟩ ⟨u, by omega⟩ hd hu
theorem kp_but2 {H : mH} (hH : h_ok H) {d : Nat} (hd : d < h_nd H) : m_kp H ((((1 : Int32) <<< (nI (h_nd H) &&& 31)) - 1) &&& (((1 : Int32) <<< (nI d &&& 31)) ^^^ (-1))) = m_but H d := by
  funext u
  unfold m_kp m_but
  by_cases hu : u < h_nd H
  · have := m_bits2 hH.1.1 hd hu
    by_cases e : u = d
    · rw [if_neg (fun z => z.2 (this.mpr e)), if_neg (fun z => z.2 e)]
    · rw [if_pos ⟨hu, fun z => e (this.mp z)⟩, if_pos ⟨hu, e⟩]
  · rw [if_neg (fun z => hu z.1), if_neg (fun z => hu z.1)]
theorem but_put {H : mH} {d : Nat} (hd : d < h_nd H) : m_but H d = m_put (v_tm (m_v0 H)) d 0 := by
  funext u
  show m_but H d u = if u = d then 0 else if u < h_nd H then 1 else 0
  unfold m_but
  by_cases e : u = d
  · rw [if_pos e, if_neg (fun z => z.2 e)]
  · rw [if_neg e]
    by_cases hu : u < h_nd H
    · rw [if_pos hu, if_pos ⟨hu, e⟩]
    · rw [if_neg hu, if_neg (fun z => hu z.1)]
theorem k_M_tile {h : Nat} (hh : 78 ≤ h) (σ : gS) {t : Nat} {T : mT} {H : mH} (hx : mok σ t T H) (d : Int32) : g_Met yX8_tile cX8_tile 3 (some .int) h kM [.ref 63, .int d] σ (fun rv s => rv = some (.int (a_tile T H d)) ∧ mxf σ s) := by
  obtain ⟨hm, hH, hT⟩ := hx
  refine w_X8_tile (by omega) ?_
  unfold P_X8_tile
  rw [hm.2.1.1]
  refine ⟨fun h1 => ?_, fun h1 => ⟨by rw [a_tile, if_neg h1], mxf.zrefl σ⟩⟩
  rw [a_tile, if_pos h1]
  obtain ⟨d, hd, rfl⟩ := g_nat h1 rfl (by have := hH.1.1; omega)
  rw [ix_nI (by have := hH.1.1; omega)]
  refine g_call.i (k_costNow (h := 76) (by omega) σ hm hT hH (m_v0_ok hH) (v0_dj hH) rfl rfl rfl) (by omega) (fun rv s hq => ?_)
  obtain ⟨rfl, hf, hp, -, -⟩ := hq
  have hm1 := hm.zx hf
  refine ⟨_, rfl, g_call.i (k_allDrips (h := 6) (by omega) s hm1.2.1) (by omega) (fun rv s1 hq => ?_)⟩
  obtain ⟨rfl, rfl⟩ := hq
  refine ⟨_, rfl, g_call.i (k_pours (h := 72) (by omega) s1 hm1 hH _ (V2 := m_vt H d 0) rfl ((kp_but2 hH hd).trans (but_put hd)).symm rfl rfl) (by omega) (fun rv s2 hq => ?_)⟩
  obtain ⟨rfl, q1, q2⟩ := hq
  refine ⟨rfl, g_call.i (k_M_cost (h := 72) (by omega) s2 (V := m_vt H d 0) (hm1.zx q2.zx) q1 hT hH (m_vt_ok hH hd (q := 0) (by omega)) (v0_dj hH)) (by omega) (fun rv s3 hq => ?_)⟩
  obtain ⟨rfl, g1, -, -⟩ := hq
  exact ⟨_, rfl, rfl, (hf.ztrans q2.zx).ztrans g1.zx⟩
theorem m_sg_upd {f g : gF} {d : Nat} {e : Int32} (hd : g d = f d + e) : ∀ {k : Nat}, (∀ u, u < k → u ≠ d → g u = f u) → m_sg g k = if d < k then m_sg f k + e else m_sg f k
  | 0, _ => by rw [if_neg (Nat.not_lt_zero d)]; rfl
  | k + 1, h => by
    have ih := m_sg_upd hd (k := k) (fun u hu => h u (by omega))
    rw [m_sg, m_sg, ih]
    by_cases e1 : k = d
    · subst e1
      rw [if_neg (Nat.lt_irrefl k), if_pos (Nat.lt_succ_self k), hd, Int32.add_assoc]
    · rw [h k (by omega) e1]
      by_cases e2 : d < k
      · rw [if_pos e2, if_pos (by omega), Int32.add_assoc, Int32.add_comm e, Int32.add_assoc]
      · rw [if_neg e2, if_neg (by omega)]
theorem m_su_more {T : mT} {H : mH} (hH : h_ok H) {d n : Nat} (hd : d < h_nd H) (hn : n ≤ 9) {hr p : Nat} (hp : p < 8) : m_su T H (m_v0 H) (8 * hr + p) + m_pc T H (h_ra H) (-1) (nI n) d hr p = m_su T H (m_vt H d (nI (1 + n))) (8 * hr + p) := by
  have hd6 : d < 6 := by have := hH.1.1; omega
  have e1 : (8 * hr + p) / 8 = hr := by omega
  have e2 : (8 * hr + p) % 8 = p := by omega
  unfold m_su
  rw [e1, e2]
  have hdm : ¬ nI d = -1 := nI_m1 (by omega)
  have key := m_sg_upd (f := fun d => m_ct T (h_kd H) (h_nu H) (h_rt H) (h_pl H) (v_ra (m_v0 H)) (v_tm (m_v0 H)) (v_ld (m_v0 H)) (v_lt (m_v0 H)) hr p d) (g := fun u => m_ct T (h_kd H) (h_nu H) (h_rt H) (h_pl H) (v_ra (m_vt H d (nI (1 + n)))) (v_tm (m_vt H d (nI (1 + n)))) (v_ld (m_vt H d (nI (1 + n)))) (v_lt (m_vt H d (nI (1 + n)))) hr p u) (d := d) (e := m_pc T H (h_ra H) (-1) (nI n) d hr p) ?_ (k := 6) (fun u hu hne => ?_)
  · rw [if_pos hd6] at key
    exact key.symm
  · have t1 : v_tm (m_vt H d (nI (1 + n))) d = nI (1 + n) := if_pos rfl
    have t0 : v_tm (m_v0 H) d = 1 := if_pos hd
    show m_ct _ _ _ _ _ _ (v_tm (m_vt H d (nI (1 + n)))) _ _ hr p d = m_ct _ _ _ _ _ _ (v_tm (m_v0 H)) _ _ hr p d + _
    unfold m_ct m_pc m_W
    rw [t1, t0]
    have l1 : v_ld (m_vt H d (nI (1 + n))) = -1 := rfl
    have l0 : v_ld (m_v0 H) = -1 := rfl
    rw [l1, l0, if_neg hdm, if_neg hdm, if_pos rfl]
    have w1 : v_ra (m_vt H d (nI (1 + n))) = h_ra H := rfl
    have w0 : v_ra (m_v0 H) = h_ra H := rfl
    rw [w1, w0]
    by_cases w : m_wh (h_kd H) (h_nu H) (h_pl H) (h_ra H) d hr = nI p
    · rw [if_pos w, if_pos ⟨(n_lt (a := 0) (by omega) (by omega)).mpr (by omega), w⟩, if_pos ⟨by decide, w⟩, ← nI_add, Int32.add_mul]
      rfl
    · rw [if_neg w, if_neg (fun z => w z.2), if_neg (fun z => w z.2)]
      rfl
  · have t1 : v_tm (m_vt H d (nI (1 + n))) u = v_tm (m_v0 H) u := if_neg hne
    show m_ct _ _ _ _ _ _ (v_tm (m_vt H d (nI (1 + n)))) _ _ hr p u = m_ct _ _ _ _ _ _ (v_tm (m_v0 H)) _ _ hr p u
    unfold m_ct
    rw [t1]
    rfl
theorem k_M_more {h : Nat} (hh : 78 ≤ h) (σ : gS) {t : Nat} {T : mT} {H : mH} (hx : mok σ t T H) (d n : Int32) : g_Met yX8_more cX8_more 4 (some .int) h kM [.ref 63, .int d, .int n] σ (fun rv s => rv = some (.int (a_more T H d n)) ∧ mxf σ s) := by
  obtain ⟨hm, hH, hT⟩ := hx
  refine w_X8_more (by omega) ?_
  unfold P_X8_more
  rw [hm.2.1.1]
  refine ⟨fun h1 => ⟨fun h2 => ?_, fun h2 => ⟨by rw [a_more, if_neg (fun z => h2 z.2)], mxf.zrefl σ⟩⟩, fun h1 => ⟨by rw [a_more, if_neg (fun z => h1 z.1)], mxf.zrefl σ⟩⟩
  rw [a_more, if_pos ⟨h1, h2⟩]
  obtain ⟨d, hd, rfl⟩ := g_nat h1 rfl (by have := hH.1.1; omega)
  obtain ⟨n, hn1, hn9, rfl⟩ := n_of1 (M := 9) h2 (by decide)
  have e1n : (1 : Int32) + nI n = nI (1 + n) := nI_add 1 n
  rw [ix_nI (by have := hH.1.1; omega), e1n]
  refine g_call.i (k_costNow (h := 76) (by omega) σ hm hT hH (m_v0_ok hH) (v0_dj hH) rfl rfl rfl) (by omega) (fun rv s hq => ?_)
  obtain ⟨rfl, hf, hp, -, -⟩ := hq
  have hm1 := hm.zx hf
  refine ⟨_, rfl, g_call.i (k_M_pour (h := 70) (by omega) s hm1.1 hm1.2.1 hH hd (Or.inl rfl) (nI n)) (by omega) (fun rv s1 hq => ?_)⟩
  obtain ⟨rfl, q1, q2⟩ := hq
  have hp2 : mp s1 T H (m_vt H d (nI (1 + n))) := fun i hi => by
    have e : i = 8 * (i / 8) + i % 8 := by omega
    rw [e, q1 (i / 8) (i % 8) (by omega) (Nat.mod_lt _ (by decide)), ← m_su_more hH hd hn9 (Nat.mod_lt i (by decide)), hp _ (by omega)]
    rfl
  refine ⟨rfl, g_call.i (k_M_cost (h := 72) (by omega) s1 (V := m_vt H d (nI (1 + n))) (hm1.zx q2.zx) hp2 hT hH (m_vt_ok hH hd (q := 1 + n) (by omega)) (v0_dj hH)) (by omega) (fun rv s3 hq => ?_)⟩
  obtain ⟨rfl, g1, -, -⟩ := hq
  exact ⟨_, rfl, rfl, (hf.ztrans q2.zx).ztrans g1.zx⟩
theorem k_M_sorted {h : Nat} (hh : 78 ≤ h) (σ : gS) {t : Nat} {T : mT} {H : mH} (hx : mok σ t T H) (wh : Int32) : g_Met yX8_sorted cX8_sorted 6 (some .int) h kM [.ref 63, .int wh] σ (fun rv s => rv = some (.int (a_sorted T H wh)) ∧ mxf σ s) := by
  obtain ⟨hm, hH, hT⟩ := hx
  have vo := m_v0_ok hH
  refine w_X8_sorted (by omega) ?_
  unfold P_X8_sorted
  refine ⟨fun h1 => ?_, fun h1 => ⟨by rw [a_sorted, if_neg h1], mxf.zrefl σ⟩⟩
  rw [a_sorted, if_pos h1]
  refine g_call.i (k_costNow (h := 76) (by omega) σ hm hT hH vo (v0_dj hH) rfl rfl rfl) (by omega) (fun rv s hq => ?_)
  obtain ⟨rfl, hf, hp, -, -⟩ := hq
  have hm1 := hm.zx hf
  refine ⟨_, rfl, fun h2 => ?_, fun h2 => ?_⟩
  · rw [if_pos h2]
    have eso : s 63 10 = h_so H := hm1.2.2.2.2.1.2.1
    rw [eso]
    refine g_call.i (k_M_cost (h := 72) (by omega) _ (V := m_vs H (1 - h_so H)) (hm1.zup10 (1 - h_so H)) (fun i hi => by rw [g_up_ne (by decide)]; exact hp i hi) hT hH ⟨vo.1, vo.2.1, vo.2.2⟩ (v0_dj hH)) (by omega) (fun rv s1 hq => ?_)
    obtain ⟨rfl, g1, -, -⟩ := hq
    have e10 : s1 63 10 = 1 - h_so H := by rw [g1.2 10 (by omega), u_eq]
    refine ⟨_, rfl, rfl, hf.ztrans (g1.zx.zback ?_ rfl)⟩
    rw [e10, eso]
    rcases hH.1.2.2.2.2.1 with z | z
    · rw [z]; decide
    · rw [z]; decide
  · rw [if_neg h2]
    refine g_call.i (k_M_cost (h := 72) (by omega) _ (V := m_vh H 5) (hm1.zup9 (n := 5) rfl) (fun i hi => by rw [g_up_ne (by decide)]; exact hp i hi) hT hH ⟨vo.1, vo.2.1, Nat.le_refl 5⟩ (v0_dj hH)) (by omega) (fun rv s1 hq => ?_)
    obtain ⟨rfl, g1, -, -⟩ := hq
    have hm2 : mv s1 t T H (m_vh H 5) := (hm1.zup9 (n := 5) rfl).zx g1.zx
    have hp2 : mp s1 T H (m_v0 H) := fun i hi => by rw [g1.1 75 (by decide) (by decide) (by decide) (by decide) (by decide), g_up_ne (by decide)]; exact hp i hi
    refine ⟨_, rfl, fun k s => ∃ j, 1 ≤ j ∧ k + j = 5 ∧ mv s t T H (m_vh H j) ∧ mp s T H (m_v0 H) ∧ m_fh (fun n => m_cost (m_day T H (m_vh H n) 24)) (m_cost (m_day T H (m_vh H 5) 24)) k j = m_fh (fun n => m_cost (m_day T H (m_vh H n) 24)) (m_cost (m_day T H (m_vh H 5) 24)) 4 1 ∧ (∀ a, a ≠ 63 → (a < 75 ∨ 82 < a) → s a = σ a) ∧ ∀ j, j ≠ 9 → (j < 20 ∨ (34 < j ∧ j < 39) ∨ j = 44 ∨ 49 < j) → s 63 j = σ 63 j, ⟨4, 1, by omega, rfl, hm2.zup9 (n := 1) rfl, fun i hi => by rw [g_up_ne (by decide)]; exact hp2 i hi, rfl, fun a b c => by rw [g_up_ne b, g1.zx.1 a b c, g_up_ne b]; exact hf.1 a b c, fun j b c => by rw [u_ne b, g1.zx.2 j c, u_ne b]; exact hf.2 j c⟩, fun k s2 hI => ?_⟩
    obtain ⟨j, hj1, hk, hmj, hpj, hR, hfa, hfj⟩ := hI
    refine g_call.i (k_M_cost (h := 72) (by omega) s2 (V := m_vh H j) hmj hpj hT hH ⟨vo.1, vo.2.1, show j ≤ 5 by omega⟩ (v0_dj hH)) (by omega) (fun rv s3 hq => ?_)
    obtain ⟨rfl, g3, -, -⟩ := hq
    have hm3 := hmj.zx g3.zx
    have e9 : s3 63 9 = nI j := hm3.2.2.2.2.1.2.2
    refine ⟨_, rfl, fun h4 => ?_, fun h4 => ?_⟩
    · have hj5 : j ≠ 5 := fun z => by subst z; rw [Int32.lt_iff_toInt_lt] at h4; omega
      obtain ⟨k, rfl⟩ : ∃ k', k = k' + 1 := ⟨k - 1, by omega⟩
      rw [m_fh, if_pos h4] at hR
      rw [e9]
      exact ⟨k, by omega, j + 1, by omega, by omega, hm3.zup9 (n := j + 1) (nI_1 j), fun i hi => by rw [g_up_ne (by decide)]; exact (hpj.zg g3) i hi, hR, fun a b c => by rw [g_up_ne b, g3.zx.1 a b c]; exact hfa a b c, fun i b c => by rw [u_ne b, g3.zx.2 i c]; exact hfj i b c⟩
    · have hRj : m_fh (fun n => m_cost (m_day T H (m_vh H n) 24)) (m_cost (m_day T H (m_vh H 5) 24)) k j = j := by
        cases k with
        | zero => rfl
        | succ k => rw [m_fh, if_neg h4]
      refine ⟨by rw [e9, ← hR, hRj], ⟨fun a b c => by rw [g_up_ne b, g3.zx.1 a b c]; exact hfa a b c, fun i c => ?_⟩⟩
      by_cases z : i = 9
      · subst z; rw [u_eq]; exact hf.2 9 (by omega)
      · rw [u_ne z, g3.zx.2 i c]; exact hfj i z c
