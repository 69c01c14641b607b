/-! THE REFERENCE'S lead -/
theorem mv.zl {s : gS} {t : Nat} {T : mT} {H : mH} (h : mv s t T H (m_v0 H)) (q : Option (Nat × Nat)) : mv s t T H (m_vl H q) := h
theorem vl_dj {H : mH} (hH : h_ok H) (q : Option (Nat × Nat)) : v_dj H (m_vl H q) := fun a b c d e f => v0_dj hH a b c d e f
theorem m_su_lead {T : mT} {H : mH} (hH : h_ok H) {d q : Nat} (hd : d < h_nd H) (hq : q < 8) {hr p : Nat} (hp : p < 8) : m_su T H (m_vt2 H (m_but H d)) (8 * hr + p) + m_pc T H (h_ra H) (nI q) 1 d hr p = m_su T H (m_vl H (some (d, q))) (8 * hr + p) := by
  have hd6 : d < 6 := by have := hH.1.1; omega
  have e1 : (8 * hr + p) / 8 = hr := by omega
  have e2 : (8 * hr + p) % 8 = p := by omega
  unfold m_su
  rw [e1, e2]
  have hdm : ¬ nI d = -1 := nI_m1 (by omega)
  have hqm : ¬ nI q = -1 := nI_m1 (by omega)
  have key := m_sg_upd (f := fun u => m_ct T (h_kd H) (h_nu H) (h_rt H) (h_pl H) (h_ra H) (m_but H d) (-1) (-1) hr p u) (g := fun u => m_ct T (h_kd H) (h_nu H) (h_rt H) (h_pl H) (h_ra H) (v_tm (m_v0 H)) (nI d) (nI q) hr p u) (d := d) (e := m_pc T H (h_ra H) (nI q) 1 d hr p) ?_ (k := 6) (fun u hu hne => ?_)
  · rw [if_pos hd6] at key
    exact key.symm
  · have t1 : m_but H d d = 0 := if_neg (fun z => z.2 rfl)
    have t0 : v_tm (m_v0 H) d = 1 := if_pos hd
    show m_ct _ _ _ _ _ _ (v_tm (m_v0 H)) _ _ hr p d = m_ct _ _ _ _ _ _ (m_but H d) _ _ hr p d + _
    unfold m_ct m_pc m_W
    rw [t1, t0, if_pos rfl, if_neg hqm, if_neg (show ¬ ((0 : Int32) < 0 ∧ _) from fun z => absurd z.1 (by decide)), Int32.zero_add]
    by_cases w : nI q = nI p
    · rw [if_pos w, if_pos ⟨by decide, w⟩]
    · rw [if_neg w, if_neg (fun z => w z.2)]
  · have hnu : ¬ nI u = nI d := fun z => hne ((n_eq (by omega) (by omega)).mp z)
    have hum : ¬ nI u = -1 := nI_m1 (by omega)
    have t1 : m_but H d u = v_tm (m_v0 H) u := by
      show (if u < h_nd H ∧ u ≠ d then (1 : Int32) else 0) = if u < h_nd H then 1 else 0
      by_cases z : u < h_nd H
      · rw [if_pos z, if_pos ⟨z, hne⟩]
      · rw [if_neg z, if_neg (fun w => z w.1)]
    show m_ct _ _ _ _ _ _ (v_tm (m_v0 H)) _ _ hr p u = m_ct _ _ _ _ _ _ (m_but H d) _ _ hr p u
    unfold m_ct m_W
    rw [t1, if_neg hnu, if_neg hum]
theorem k_M_lead {h : Nat} (hh : 78 ≤ h) (σ : gS) {t : Nat} {T : mT} {H : mH} (hx : mok σ t T H) (wh : Int32) : g_Met yX8_lead cX8_lead 7 (some .int) h kM [.ref 63, .int wh] σ (fun rv s => rv = some (.int (a_lead T H wh)) ∧ mxf σ s) := by
  obtain ⟨hm, hH, hT⟩ := hx
  refine w_X8_lead (by omega) ?_
  unfold P_X8_lead
  refine ⟨fun h1 => ?_, fun h1 => ⟨by rw [a_lead, if_neg h1], mxf.zrefl σ⟩⟩
  rw [a_lead, if_pos h1]
  have hnd := hH.1.1
  refine g_call.i (k_costNow (h := 76) (by omega) σ hm hT hH (m_v0_ok hH) (v0_dj hH) rfl rfl rfl) (by omega) (fun rv s3 hq => ?_)
  obtain ⟨rfl, hf, -, -, -⟩ := hq
  have e0 : m_cost (m_day T H (m_v0 H) 24) = f_ld T H none := rfl
  rw [e0]
  refine ⟨_, rfl, fun k c b v s => ∃ d q, v = nI d ∧ k + d = h_nd H ∧ b = m_lc q ∧ m_fl (f_ld T H) (m_ll d) (some (f_ld T H none, none)) = some (c, q) ∧ mxf σ s, ⟨h_nd H, 0, none, rfl, rfl, rfl, rfl, hf⟩, fun k c b v s hI => ?_⟩
  obtain ⟨d, q, rfl, hk, rfl, ho, hfs⟩ := hI
  have hms := hm.zx hfs
  rw [hms.2.1.1]
  refine ⟨fun h2 => ?_, fun h2 => ?_⟩
  · have hd := (n_lt (by omega) (by omega)).mp h2
    refine ⟨fun k2 c2 b2 v u => ∃ p q2, v = nI p ∧ k2 + p = 8 ∧ b2 = m_lc q2 ∧ m_fl (f_ld T H) ((List.range p).map (fun p => some (d, p))) (some (c, q)) = some (c2, q2) ∧ mxf σ u, ⟨8, 0, q, rfl, rfl, rfl, rfl, hfs⟩, fun k2 c2 b2 v u hI2 => ?_⟩
    obtain ⟨p, q2, rfl, hk2, rfl, ho2, hfu⟩ := hI2
    have hmu := hm.zx hfu
    refine ⟨fun h3 => ?_, fun h3 => ?_⟩
    · have hp := (n_lt (b := 8) (by omega) (by omega)).mp h3
      refine g_call.i (k_allDrips (h := 6) (by omega) u hmu.2.1) (by omega) (fun rv u1 hq => ?_)
      obtain ⟨rfl, rfl⟩ := hq
      refine ⟨_, rfl, g_call.i (k_pours (h := 72) (by omega) u1 hmu hH _ (V2 := m_vt2 H (m_but H d)) rfl (kp_but2 hH hd).symm rfl rfl) (by omega) (fun rv u2 hq => ?_)⟩
      obtain ⟨rfl, hp2, q2f⟩ := hq
      have hmu2 := hmu.zx q2f.zx
      refine ⟨rfl, g_call.i (k_M_pour (h := 70) (by omega) u2 hmu2.1 hmu2.2.1 hH hd (Or.inr ⟨p, hp, rfl⟩) 1) (by omega) (fun rv u3 hq => ?_)⟩
      obtain ⟨rfl, hp3, q3f⟩ := hq
      have hmu3 := hmu2.zx q3f.zx
      have hpl : mp u3 T H (m_vl H (some (d, p))) := fun i hi => by
        have e : i = 8 * (i / 8) + i % 8 := by omega
        rw [e, hp3 (i / 8) (i % 8) (by omega) (Nat.mod_lt _ (by decide)), ← m_su_lead hH hd hp (Nat.mod_lt i (by decide)), hp2 _ (by omega)]
        rfl
      have kc := k_M_cost (h := 72) (by omega) u3 (hmu3.zl (some (d, p))) hpl hT hH (m_vl_ok hH _) (vl_dj hH _)
      refine ⟨rfl, g_call.i kc (by omega) (fun rv u4 hq => ?_)⟩
      obtain ⟨rfl, g4, -, -⟩ := hq
      have hf4 := ((hfu.ztrans q2f.zx).ztrans q3f.zx).ztrans g4.zx
      have ech : 10 * nI d + nI p = m_lc (some (d, p)) := by
        have e : 10 * nI d = nI (10 * d) := pk_mul 10 d
        rw [e, nI_add]
        rfl
      have ef : m_cost (m_day T H (m_vl H (some (d, p))) 24) = f_ld T H (some (d, p)) := rfl
      rw [ech, ef]
      have nx : m_fl (f_ld T H) ((List.range (p + 1)).map (fun p => some (d, p))) (some (c, q)) = m_stp (f_ld T H) (some (d, p)) (some (c2, q2)) := by
        rw [List.range_succ, List.map_append, m_fl_app, ho2]
        rfl
      refine ⟨_, rfl, fun h4 => ⟨k2 - 1, by omega, p + 1, some (d, p), nI_1 p, by omega, rfl, ?_, hf4⟩, fun h4 => ⟨k2 - 1, by omega, p + 1, q2, nI_1 p, by omega, rfl, ?_, hf4⟩⟩
      · rw [nx, m_stp, if_pos h4]
      · rw [nx, m_stp, if_neg h4]
    · have : p = 8 := by
        rcases Nat.lt_or_ge p 8 with z | z
        · exact absurd ((n_lt (b := 8) (by omega) (by omega)).mpr z) h3
        · omega
      subst this
      refine ⟨k - 1, by omega, d + 1, q2, nI_1 d, by omega, rfl, ?_, hfu⟩
      have e : m_ll (d + 1) = m_ll d ++ m_lp d := by
        rw [m_ll, List.range_succ, List.flatMap_append]
        simp [m_ll]
      rw [e, m_fl_app, ho]
      exact ho2
  · have : d = h_nd H := by
      rcases Nat.lt_or_ge d (h_nd H) with z | z
      · exact absurd ((n_lt (by omega) (by omega)).mpr z) h2
      · omega
    subst this
    have eq : m_fl (f_ld T H) (none :: m_ll (h_nd H)) none = some (c, q) := ho
    rw [eq]
    exact ⟨rfl, hfs⟩
