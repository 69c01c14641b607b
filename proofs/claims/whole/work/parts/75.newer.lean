/-! drip AND vessel ON BOTH SIDES -/
section JV
variable {σ : gS} {H : mH} {nT t : Nat} {TT : Nat → mT} {b : gF} {n : Nat}
theorem n_q10 {w : Nat} (hw : w ≤ 99) : (∃ q, nI w / 10 = nI q ∧ q ≤ 9) ∧ ∃ q, nI w - nI w / 10 * 10 = nI q ∧ q ≤ 9 := by
  have e1 : nI w / 10 = nI (w / 10) := n_div (a := w) (d := 10) (by omega) (by omega) (by omega)
  have e2 : nI w - nI w / 10 * 10 = nI (w % 10) := pk_rem (a := w) (d := 10) (by omega) (by omega) (by omega)
  exact ⟨⟨w / 10, e1, by omega⟩, w % 10, e2, by omega⟩
def hs_nd (H : mH) (kd nu rt pl : Int32) : mH := (m_put (h_kd H) (h_nd H) kd, m_put (h_nu H) (h_nd H) nu, m_put (h_rt H) (h_nd H) rt, m_put (h_pl H) (h_nd H) pl, h_ra H, h_sz H, h_st H, h_w H, h_nd H + 1, h_nv H, h_up H, h_hd H, h_so H)
def hs_nv (H : mH) (sz : Int32) : mH := (h_kd H, h_nu H, h_rt H, h_pl H, h_ra H, m_put (h_sz H) (h_nv H) sz, m_put (h_st H) (h_nv H) (-1), m_put (h_w H) (h_nv H) 0, h_nd H, h_nv H + 1, h_up H, h_hd H, h_so H)
theorem n_0to {a M : Nat} (ha : a ≤ 1000000) (hM : M ≤ 1000000) : g_in (nI a) 0 (nI M) ↔ a ≤ M := by
  have := n_in (a := a) (lo := 0) (hi := M) ha hM (by omega)
  exact this.trans (by omega)
theorem jp_drip (h : IV σ H nT t TT b n) (kd wh pl : Int32) : JP yX7_drip cX7_drip 5 yX8_drip cX8_drip 4 [.int kd, .int wh, .int pl] σ := by
  obtain ⟨d1, d2, d6⟩ := h.znd
  have keep : IVx σ := ⟨H, nT, t, TT, b, n, h⟩
  have eo : (if g_in kd 0 5 then (if g_in wh 0 99 then (if g_in pl 0 7 then (if g_in (σ 1 8) 0 5 then (g_up (g_up (g_up (g_up (g_up σ 3 (Int32.toNatClampNeg (σ 1 8)) kd) 4 (Int32.toNatClampNeg (σ 1 8)) (wh / 10)) 5 (Int32.toNatClampNeg (σ 1 8)) (wh - wh / 10 * 10)) 6 (Int32.toNatClampNeg (σ 1 8)) pl) 1 8 ((σ 1 8) + 1)) else σ) else σ) else σ) else σ) 63 = σ 63 := by
    split
    · split
      · split
        · split
          · rw [g_up_ne (by decide), g_up_ne (by decide), g_up_ne (by decide), g_up_ne (by decide), g_up_ne (by decide)]
          · rfl
        · rfl
      · rfl
    · rfl
  refine JP.zsz (hX := 3) (hM := 3) (by decide) (by decide) (c_X7_drip σ kd wh pl) (c_X8_drip _ kd wh pl (nd := h_nd H) (by rw [eo]; exact d2) d6) ?_
  rw [eo, d1, d2]
  by_cases ck : g_in kd 0 5
  · simp only [if_pos ck]
    by_cases cw : g_in wh 0 99
    · simp only [if_pos cw]
      by_cases cp : g_in pl 0 7
      · simp only [if_pos cp]
        by_cases c6 : h_nd H = 6
        · have c3 : ¬ g_in (nI (h_nd H)) 0 5 := fun z => by have := (n_0to (a := h_nd H) (M := 5) (by omega) (by omega)).mp z; omega
          have c4 : nI (h_nd H) = 6 := by rw [c6]; rfl
          simp only [if_neg c3, if_pos c4]
          exact ⟨trivial, keep⟩
        · have c3 : g_in (nI (h_nd H)) 0 5 := (n_0to (a := h_nd H) (M := 5) (by omega) (by omega)).mpr (by omega)
          have c4 : ¬ nI (h_nd H) = 6 := fun z => c6 ((n_eq (a := h_nd H) (b := 6) (by omega) (by omega)).mp z)
          have ei : Int32.toNatClampNeg (nI (h_nd H)) = h_nd H := nI_clamp (by omega)
          simp only [if_pos c3, if_neg c4, ei]
          rw [nI_1, nI_pred]
          refine ⟨rfl, ?_⟩
          obtain ⟨qk, hqk, rfl⟩ := n_of (M := 5) ck (by decide)
          obtain ⟨qw, hqw, rfl⟩ := n_of (M := 99) cw (by decide)
          obtain ⟨qp, hqp, rfl⟩ := n_of (M := 7) cp (by decide)
          obtain ⟨w1, w2⟩ := n_q10 hqw
          generalize nI qw / 10 = nu at w1 w2 ⊢
          generalize nI qw - nu * 10 = rt at w2 ⊢
          have hh := h.1
          have hk := h.2.1
          obtain ⟨⟨y1, y2, y3, y4⟩, ⟨dd1, dd2, dd3⟩, v1, v2, v3, v4⟩ := hh
          refine ⟨hs_nd H (nI qk) nu rt (nI qp), nT, t, TT, b, n, h.zh ⟨fun a z1 z2 z3 z4 => by rw [g_up_ne (by omega), g_up_ne (by omega), g_up_ne (by omega), g_up_ne (by omega), g_up_ne (by omega), g_up_ne (by omega), g_up_ne (by omega), g_up_ne (by omega), g_up_ne (by omega), g_up_ne (by omega)], by rw [g_up_ne (by decide), g_up_ne (by decide), g_up_ne (by decide), g_up_ne (by decide), g_up_ne (by decide), u_ne (by decide), g_up_ne (by decide), g_up_ne (by decide), g_up_ne (by decide), g_up_ne (by decide)], fun j z1 z2 z3 z4 z5 => by rw [u_ne z4, g_up_ne (by decide), g_up_ne (by decide), g_up_ne (by decide), g_up_ne (by decide), g_up_ne (by decide), g_up_ne (by decide), g_up_ne (by decide), g_up_ne (by decide), g_up_ne (by decide)]⟩ ⟨⟨⟨?_, ?_, ?_, ?_, ?_⟩, ?_, fun d hd => ?_, ?_⟩, ⟨?_, ?_, fun d hd => ?_⟩, ?_, ?_, ⟨?_, ?_, ?_⟩, ?_⟩ ⟨⟨?_, hk.1.2⟩, fun d hd => ?_, hk.2.2⟩ (Nat.le_succ _) (Nat.le_refl _) (fun d hd => if_neg (by omega)) (fun _ _ => rfl)⟩
          · simp [g_up]; rfl
          · simp [g_up]; exact y1.2.1
          · simp [g_up]; exact y1.2.2.1
          · simp [g_up]; exact y1.2.2.2.1
          · simp [g_up]; exact y1.2.2.2.2
          · intro i hi; simp [g_up]; exact y2 i hi
          · have hd' : d < h_nd H + 1 := hd
            by_cases z : d = h_nd H
            · subst z
              refine ⟨?_, ?_, ?_, ?_⟩
              · simp [g_up]; exact (if_pos rfl).symm
              · simp [g_up]; exact (if_pos rfl).symm
              · simp [g_up]; exact (if_pos rfl).symm
              · simp [g_up]; exact (if_pos rfl).symm
            · obtain ⟨a1, a2, a3, a4⟩ := y3 d (by omega)
              refine ⟨?_, ?_, ?_, ?_⟩
              · simp [g_up, z]; exact a1.trans (if_neg z).symm
              · simp [g_up, z]; exact a2.trans (if_neg z).symm
              · simp [g_up, z]; exact a3.trans (if_neg z).symm
              · simp [g_up, z]; exact a4.trans (if_neg z).symm
          · intro i hi; simp [g_up]; exact y4 i hi
          · simp [g_up]; rfl
          · intro i hi; simp [g_up]; exact dd2 i hi
          · have hd' : d < h_nd H + 1 := hd
            by_cases z : d = h_nd H
            · subst z
              refine ⟨?_, ?_, ?_, ?_⟩
              · simp [g_up]; exact (if_pos rfl).symm
              · simp [g_up]; exact (if_pos rfl).symm
              · simp [g_up]; exact (if_pos rfl).symm
              · simp [g_up]; exact (if_pos rfl).symm
            · obtain ⟨a1, a2, a3, a4⟩ := dd3 d (by omega)
              refine ⟨?_, ?_, ?_, ?_⟩
              · simp [g_up, z]; exact a1.trans (if_neg z).symm
              · simp [g_up, z]; exact a2.trans (if_neg z).symm
              · simp [g_up, z]; exact a3.trans (if_neg z).symm
              · simp [g_up, z]; exact a4.trans (if_neg z).symm
          · simp [g_up]; exact v1
          · intro i hi; simp [g_up]; exact v2 i hi
          · simp [g_up]; exact v3.1
          · simp [g_up]; exact v3.2.1
          · simp [g_up]; exact v3.2.2
          · simp [g_up]; exact v4
          · show h_nd H + 1 ≤ 6
            omega
          · have hd' : d < h_nd H + 1 := hd
            by_cases z : d = h_nd H
            · exact ⟨⟨qk, if_pos z, hqk⟩, by obtain ⟨q, e, l⟩ := w1; exact ⟨q, (if_pos z).trans e, l⟩, by obtain ⟨q, e, l⟩ := w2; exact ⟨q, (if_pos z).trans e, l⟩, ⟨qp, if_pos z, hqp⟩⟩
            · obtain ⟨⟨q1, e1, l1⟩, ⟨q2, e2, l2⟩, ⟨q3, e3, l3⟩, ⟨q4, e4, l4⟩⟩ := hk.2.1 d (by omega)
              exact ⟨⟨q1, (if_neg z).trans e1, l1⟩, ⟨q2, (if_neg z).trans e2, l2⟩, ⟨q3, (if_neg z).trans e3, l3⟩, ⟨q4, (if_neg z).trans e4, l4⟩⟩
      · simp only [if_neg cp]
        exact ⟨trivial, keep⟩
    · simp only [if_neg cw]
      exact ⟨trivial, keep⟩
  · simp only [if_neg ck]
    exact ⟨trivial, keep⟩
theorem jp_vessel (h : IV σ H nT t TT b n) (sz : Int32) : JP yX7_vessel cX7_vessel 3 yX8_vessel cX8_vessel 2 [.int sz] σ := by
  obtain ⟨d1, d2, d5⟩ := h.znv
  have keep : IVx σ := ⟨H, nT, t, TT, b, n, h⟩
  have eo : (if g_in sz 1 99 then (if g_in (σ 1 9) 0 4 then (g_up (g_up (g_up (g_up σ 7 (Int32.toNatClampNeg (σ 1 9)) sz) 8 (Int32.toNatClampNeg (σ 1 9)) (-1)) 9 (Int32.toNatClampNeg (σ 1 9)) 0) 1 9 ((σ 1 9) + 1)) else σ) else σ) 63 = σ 63 := by
    split
    · split
      · rw [g_up_ne (by decide), g_up_ne (by decide), g_up_ne (by decide), g_up_ne (by decide)]
      · rfl
    · rfl
  refine JP.zsz (hX := 3) (hM := 3) (by decide) (by decide) (c_X7_vessel σ sz d1 d5) (c_X8_vessel _ sz (nv := h_nv H) (by rw [eo]; exact d2) d5) ?_
  rw [eo, d1, d2]
  by_cases ck : g_in sz 1 99
  · simp only [if_pos ck]
    by_cases c5 : h_nv H = 5
    · have c3 : ¬ g_in (nI (h_nv H)) 0 4 := fun z => by have := (n_0to (a := h_nv H) (M := 4) (by omega) (by omega)).mp z; omega
      have c4 : nI (h_nv H) = 5 := by rw [c5]; rfl
      simp only [if_neg c3, if_pos c4]
      exact ⟨trivial, keep⟩
    · have c3 : g_in (nI (h_nv H)) 0 4 := (n_0to (a := h_nv H) (M := 4) (by omega) (by omega)).mpr (by omega)
      have c4 : ¬ nI (h_nv H) = 5 := fun z => c5 ((n_eq (a := h_nv H) (b := 5) (by omega) (by omega)).mp z)
      have ei : Int32.toNatClampNeg (nI (h_nv H)) = h_nv H := nI_clamp (by omega)
      simp only [if_pos c3, if_neg c4, ei]
      rw [nI_1, nI_pred]
      refine ⟨rfl, ?_⟩
      obtain ⟨qz, hqz1, hqz, rfl⟩ := n_of1 (M := 99) ck (by decide)
      have hh := h.1
      have hk := h.2.1
      obtain ⟨⟨y1, y2, y3, y4⟩, ⟨dd1, dd2, dd3⟩, v1, v2, v3, v4⟩ := hh
      refine ⟨hs_nv H (nI qz), nT, t, TT, b, n, h.zh ⟨fun a z1 z2 z3 z4 => by rw [g_up_ne (by omega), g_up_ne (by omega), g_up_ne (by omega), g_up_ne (by omega), g_up_ne (by omega), g_up_ne (by omega), g_up_ne (by omega), g_up_ne (by omega)], by rw [g_up_ne (by decide), g_up_ne (by decide), g_up_ne (by decide), g_up_ne (by decide), u_ne (by decide), g_up_ne (by decide), g_up_ne (by decide), g_up_ne (by decide)], fun j z1 z2 z3 z4 z5 => by rw [u_ne z5, g_up_ne (by decide), g_up_ne (by decide), g_up_ne (by decide), g_up_ne (by decide), g_up_ne (by decide), g_up_ne (by decide), g_up_ne (by decide)]⟩ ⟨⟨⟨?_, ?_, ?_, ?_, ?_⟩, ?_, ?_, fun d hd => ?_⟩, ⟨?_, ?_, ?_⟩, ?_, fun d hd => ?_, ⟨?_, ?_, ?_⟩, ?_⟩ ⟨⟨hk.1.1, ?_, hk.1.2.2⟩, hk.2.1, hk.2.2.1, fun d hd => ?_, fun u v hu hv hne heq => ?_⟩ (Nat.le_refl _) (Nat.le_succ _) (fun _ _ => rfl) (fun d hd => if_neg (by omega))⟩
      · simp [g_up]; exact y1.1
      · simp [g_up]; rfl
      · simp [g_up]; exact y1.2.2.1
      · simp [g_up]; exact y1.2.2.2.1
      · simp [g_up]; exact y1.2.2.2.2
      · intro i hi; simp [g_up]; exact y2 i hi
      · intro i hi; simp [g_up]; exact y3 i hi
      · have hd' : d < h_nv H + 1 := hd
        by_cases z : d = h_nv H
        · subst z
          refine ⟨?_, ?_, ?_⟩
          · simp [g_up]; exact (if_pos rfl).symm
          · simp [g_up]; exact (if_pos rfl).symm
          · simp [g_up]; exact (if_pos rfl).symm
        · obtain ⟨a1, a2, a3⟩ := y4 d (by omega)
          refine ⟨?_, ?_, ?_⟩
          · simp [g_up, z]; exact a1.trans (if_neg z).symm
          · simp [g_up, z]; exact a2.trans (if_neg z).symm
          · simp [g_up, z]; exact a3.trans (if_neg z).symm
      · simp [g_up]; exact dd1
      · intro i hi; simp [g_up]; exact dd2 i hi
      · intro i hi; simp [g_up]; exact dd3 i hi
      · simp [g_up]; rfl
      · have hd' : d < h_nv H + 1 := hd
        by_cases z : d = h_nv H
        · subst z
          refine ⟨?_, ?_, ?_⟩
          · simp [g_up]; exact (if_pos rfl).symm
          · simp [g_up]; exact (if_pos rfl).symm
          · simp [g_up]; exact (if_pos rfl).symm
        · obtain ⟨a1, a2, a3⟩ := v2 d (by omega)
          refine ⟨?_, ?_, ?_⟩
          · simp [g_up, z]; exact a1.trans (if_neg z).symm
          · simp [g_up, z]; exact a2.trans (if_neg z).symm
          · simp [g_up, z]; exact a3.trans (if_neg z).symm
      · simp [g_up]; exact v3.1
      · simp [g_up]; exact v3.2.1
      · simp [g_up]; exact v3.2.2
      · simp [g_up]; exact v4
      · show h_nv H + 1 ≤ 5
        omega
      · have hd' : d < h_nv H + 1 := hd
        by_cases z : d = h_nv H
        · exact ⟨⟨0, qz, if_pos z, if_pos z, by omega, hqz1, hqz⟩, Or.inl (if_pos z)⟩
        · obtain ⟨⟨W, S, e1, e2, l1⟩, e3⟩ := hk.2.2.2.1 d (by omega)
          refine ⟨⟨W, S, (if_neg z).trans e1, (if_neg z).trans e2, l1⟩, ?_⟩
          have em : m_put (h_st H) (h_nv H) (-1) d = h_st H d := if_neg z
          show m_put (h_st H) (h_nv H) (-1) d = -1 ∨ ∃ q, m_put (h_st H) (h_nv H) (-1) d = nI q ∧ q ≤ 7
          rw [em]
          exact e3
      · have hu' : u < h_nv H + 1 := hu
        have hv' : v < h_nv H + 1 := hv
        have heq' : m_put (h_st H) (h_nv H) (-1) u = m_put (h_st H) (h_nv H) (-1) v := heq
        show m_put (h_st H) (h_nv H) (-1) u = -1
        by_cases zu : u = h_nv H
        · exact if_pos zu
        · by_cases zv : v = h_nv H
          · rw [heq']
            exact if_pos zv
          · have eu : m_put (h_st H) (h_nv H) (-1) u = h_st H u := if_neg zu
            have ev : m_put (h_st H) (h_nv H) (-1) v = h_st H v := if_neg zv
            rw [eu, ev] at heq'
            rw [eu]
            exact hk.2.2.2.2 u v (by omega) (by omega) hne heq'
  · simp only [if_neg ck]
    exact ⟨trivial, keep⟩
end JV
