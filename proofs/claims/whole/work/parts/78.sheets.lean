/-! sheet, cell, copy, taken ON BOTH SIDES -/
section JY
variable {σ : gS} {H : mH} {nT t : Nat} {TT : Nat → mT} {b : gF} {n : Nat}
theorem IV.zshs {s : gS} (h : IV σ H nT t TT b n) (e : ∀ a, (a < 37 ∨ 44 < a) → (a < 86 ∨ 89 < a) → s a = σ a) (hs : iv_sh s) : IV s H nT t TT b n := by
  obtain ⟨h1, h2, h3, h4, h5, h6, h7, h8⟩ := h
  refine ⟨h1.zs (fun a _ _ => e a (by omega) (by omega)) (fun j _ _ => by rw [e 1 (by decide) (by decide)]) (fun j _ => by rw [e 63 (by decide) (by decide)]) (fun a _ _ => e a (by omega) (by omega)), h2, ?_, ?_, h5, ?_, hs, ?_⟩
  · exact h3.zs (by rw [e 0 (by decide) (by decide)]) (by rw [e 63 (by decide) (by decide)]) (fun i hi => ⟨e _ (by omega) (by omega), e _ (by omega) (by omega)⟩) (e 64 (by decide) (by decide)) (e 65 (by decide) (by decide))
  · exact h4.zs (by rw [e 1 (by decide) (by decide)]) (by rw [e 63 (by decide) (by decide)])
  · exact h6.zs (by rw [e 19 (by decide) (by decide)]) (by rw [e 63 (by decide) (by decide)]) (e 20 (by decide) (by decide)) (e 66 (by decide) (by decide))
  · exact h8.zs (by rw [e 0 (by decide) (by decide)]) (fun a _ _ => e a (by omega) (by omega)) (fun j _ _ => by rw [e 63 (by decide) (by decide)]) (fun a _ _ => e a (by omega) (by omega))
/-- one sheet becomes another; the others stay -/
theorem iv_sh.zone {s : gS} {k : Nat} (h : iv_sh σ) (hk : k < 4) (e1 : ∀ j, j < 4 → j ≠ k → s (37 + 2 * j) = σ (37 + 2 * j) ∧ s (38 + 2 * j) = σ (38 + 2 * j)) (e2 : ∀ j, j ≠ k → s 86 j = σ 86 j ∧ s 87 j = σ 87 j ∧ s 88 j = σ 88 j) (e3 : ∀ j i, j < 4 → j ≠ k → i < 40 → s 89 (40 * j + i) = σ 89 (40 * j + i)) (o1 : (s 86 k = 0 ∧ x_so s k = -1) ∨ (s 86 k = 1 ∧ ¬ x_so s k = -1 ∧ s 87 k = x_so s k ∧ s 88 k = x_sz s k ∧ ∃ z, x_sz s k = nI z ∧ z ≤ 40 ∧ ∀ i, i < z → s 89 (40 * k + i) = s (38 + 2 * k) i)) (o2 : ∃ z, x_sz s k = nI z ∧ z ≤ 40) (o3 : x_so s k = -1 ∨ g_in (x_so s k) 0 2) : iv_sh s := by
  have es : ∀ j, j < 4 → j ≠ k → x_so s j = x_so σ j ∧ x_sz s j = x_sz σ j := fun j hj hjk => by
    unfold x_so x_sz
    rw [(e1 j hj hjk).1]
    exact ⟨rfl, rfl⟩
  obtain ⟨p1, p2⟩ := h
  refine ⟨fun j hj => ?_, fun j hj => ?_⟩
  · by_cases z : j = k
    · rw [z]
      exact o1
    · have := p1 j hj
      dsimp only at this ⊢
      rw [(es j hj z).1, (es j hj z).2, (e1 j hj z).2, (e2 j z).1, (e2 j z).2.1, (e2 j z).2.2]
      rcases this with y | ⟨y1, y2, y3, y4, z0, y5, y6, y7⟩
      · exact Or.inl y
      · exact Or.inr ⟨y1, y2, y3, y4, z0, y5, y6, fun i hi => (e3 j i hj z (by omega)).trans (y7 i hi)⟩
  · by_cases z : j = k
    · rw [z]
      exact ⟨o2, o3⟩
    · rw [(es j hj z).1, (es j hj z).2]
      exact p2 j hj
theorem so_pos {so : Int32} (c1 : g_in so (-1) 2) (c2 : ¬ so = -1) : ¬ so < 0 ∧ g_in so 0 2 := by
  have a : ¬ so < 0 := fun z => by
    have z1 := c1.1
    rw [Int32.lt_iff_toInt_lt] at z z1
    have e0 : (0 : Int32).toInt = 0 := rfl
    have em : (-1 : Int32).toInt = -1 := rfl
    have : so.toInt = (-1 : Int32).toInt := by omega
    exact c2 (Int32.toInt_inj.mp this)
  exact ⟨a, a, c1.2⟩
theorem jp_sheet (h : IV σ H nT t TT b n) (tt so m : Int32) : JP yX7_sheet cX7_sheet 4 yX8_sheet cX8_sheet 5 [.int tt, .int so, .int m] σ := by
  have keep : IVx σ := ⟨H, nT, t, TT, b, n, h⟩
  by_cases c : g_in tt 0 3
  · obtain ⟨k, hk, rfl⟩ := n_of (M := 3) c (by decide)
    have hk4 : k < 4 := by omega
    refine ⟨3, _, by decide, c_X7_sheet σ hk4 so m, fun rv s1 hq => ?_⟩
    obtain ⟨r, q1, q2, q3⟩ := hq
    by_cases c1 : g_in so (-1) 2
    · rw [if_pos c1] at q2
      by_cases c2 : so = -1
      · rw [if_pos c2] at q2
        rw [if_pos q2, if_pos c2] at q3
        subst c2
        subst q2
        refine ⟨3, _, 1, by decide, q1, c_X8_sheetNone s1 hk4 m, fun rv2 s2 hr => ⟨hr.1, H, nT, t, TT, b, n, ?_⟩⟩
        obtain ⟨-, hr⟩ := hr
        obtain ⟨f1, f2⟩ := q3
        have A : ∀ a, a ≠ 86 → a ≠ 87 → a ≠ 88 → s2 a = s1 a := fun a z1 z2 z3 => by rw [hr, g_up_ne z3, g_up_ne z2, g_up_ne z1]
        have B : ∀ a, a ≠ 37 + 2 * k → a ≠ 38 + 2 * k → s1 a = σ a := fun a z1 z2 => by rw [f1 a z2, g_up_ne z1, g_up_ne z1]
        have e37 : s2 (37 + 2 * k) = g_up (g_up σ (37 + 2 * k) 0 (-1)) (37 + 2 * k) 1 0 (37 + 2 * k) := (A _ (by omega) (by omega) (by omega)).trans (f1 _ (by omega))
        have eso : x_so s2 k = -1 := by
          show s2 (37 + 2 * k) 0 = -1
          rw [e37, u_ne (by decide), u_eq]
        have esz : x_sz s2 k = 0 := by
          show s2 (37 + 2 * k) 1 = 0
          rw [e37, u_eq]
        refine h.zshs (fun a z1 z2 => (A a (by omega) (by omega) (by omega)).trans (B a (by omega) (by omega))) (h.2.2.2.2.2.2.1.zone hk4 (fun j hj hjk => ⟨(A _ (by omega) (by omega) (by omega)).trans (B _ (by omega) (by omega)), (A _ (by omega) (by omega) (by omega)).trans (B _ (by omega) (by omega))⟩) (fun j hjk => ⟨?_, ?_, ?_⟩) (fun j i hj hjk hi => ?_) (Or.inl ⟨?_, eso⟩) ⟨0, esz, by omega⟩ (Or.inl eso))
        · rw [hr, g_up_ne (by decide), g_up_ne (by decide), u_ne hjk, B 86 (by omega) (by omega)]
        · rw [hr, g_up_ne (by decide), u_ne hjk, g_up_ne (by decide), B 87 (by omega) (by omega)]
        · rw [hr, u_ne hjk, g_up_ne (by decide), g_up_ne (by decide), B 88 (by omega) (by omega)]
        · rw [A 89 (by decide) (by decide) (by decide), B 89 (by omega) (by omega)]
        · rw [hr, g_up_ne (by decide), g_up_ne (by decide), u_eq]
      · rw [if_neg c2] at q2
        obtain ⟨c0, c02⟩ := so_pos c1 c2
        by_cases c3 : 40 < m
        · rw [if_pos c3] at q2
          rw [if_neg (by rw [q2]; decide)] at q3
          subst q2
          rw [q3]
          exact ⟨3, _, _, by decide, q1, c_X8_sheetBig σ hk4 so m c1 c0 (Or.inl c3), fun rv2 s2 hr => ⟨by rw [hr.1, if_pos c3], by rw [hr.2]; exact keep⟩⟩
        · rw [if_neg c3] at q2
          by_cases c4 : m < 0
          · rw [if_pos c4] at q2
            rw [if_neg (by rw [q2]; decide)] at q3
            subst q2
            rw [q3]
            exact ⟨3, _, _, by decide, q1, c_X8_sheetBig σ hk4 so m c1 c0 (Or.inr c4), fun rv2 s2 hr => ⟨by rw [hr.1, if_neg c3], by rw [hr.2]; exact keep⟩⟩
          · rw [if_neg c4] at q2
            rw [if_pos q2, if_neg c2] at q3
            subst q2
            obtain ⟨z, hz, rfl⟩ := n_of (M := 40) (x := m) ⟨c4, c3⟩ (by decide)
            refine ⟨3, _, 1, by decide, q1, c_X8_sheetOk s1 hk4 hz so c1 c0, fun rv2 s2 hr => ⟨hr.1, H, nT, t, TT, b, n, ?_⟩⟩
            obtain ⟨-, r1, r2, r3⟩ := hr
            obtain ⟨f1, f2⟩ := q3
            have A : ∀ a, a ≠ 86 → a ≠ 87 → a ≠ 88 → a ≠ 89 → s2 a = s1 a := fun a z1 z2 z3 z4 => by rw [r1 a z4, g_up_ne z3, g_up_ne z2, g_up_ne z1]
            have B : ∀ a, a ≠ 37 + 2 * k → a ≠ 38 + 2 * k → s1 a = σ a := fun a z1 z2 => by rw [f1 a z2, g_up_ne z1, g_up_ne z1]
            have e37 : s2 (37 + 2 * k) = g_up (g_up σ (37 + 2 * k) 0 so) (37 + 2 * k) 1 (nI z) (37 + 2 * k) := (A _ (by omega) (by omega) (by omega) (by omega)).trans (f1 _ (by omega))
            have eso : x_so s2 k = so := by
              show s2 (37 + 2 * k) 0 = so
              rw [e37, u_ne (by decide), u_eq]
            have esz : x_sz s2 k = nI z := by
              show s2 (37 + 2 * k) 1 = nI z
              rw [e37, u_eq]
            refine h.zshs (fun a z1 z2 => (A a (by omega) (by omega) (by omega) (by omega)).trans (B a (by omega) (by omega))) (h.2.2.2.2.2.2.1.zone hk4 (fun j hj hjk => ⟨(A _ (by omega) (by omega) (by omega) (by omega)).trans (B _ (by omega) (by omega)), (A _ (by omega) (by omega) (by omega) (by omega)).trans (B _ (by omega) (by omega))⟩) (fun j hjk => ⟨?_, ?_, ?_⟩) (fun j i hj hjk hi => ?_) (Or.inr ⟨?_, by rw [eso]; exact c2, ?_, ?_, z, esz, hz, fun i hi => ?_⟩) ⟨z, esz, hz⟩ (Or.inr (by rw [eso]; exact c02)))
            · rw [r1 86 (by decide), g_up_ne (by decide), g_up_ne (by decide), u_ne hjk, B 86 (by omega) (by omega)]
            · rw [r1 87 (by decide), g_up_ne (by decide), u_ne hjk, g_up_ne (by decide), B 87 (by omega) (by omega)]
            · rw [r1 88 (by decide), u_ne hjk, g_up_ne (by decide), g_up_ne (by decide), B 88 (by omega) (by omega)]
            · rw [r2 _ (by omega), B 89 (by omega) (by omega)]
            · rw [r1 86 (by decide), g_up_ne (by decide), g_up_ne (by decide), u_eq]
            · rw [r1 87 (by decide), g_up_ne (by decide), u_eq, eso]
            · rw [r1 88 (by decide), u_eq, esz]
            · rw [r3 i hi, A _ (by omega) (by omega) (by omega) (by omega), f2 i (by omega)]
    · rw [if_neg c1] at q2
      rw [if_neg (by rw [q2]; decide)] at q3
      subst q2
      rw [q3]
      exact ⟨3, _, _, by decide, q1, c_X8_sheetBad σ hk4 so m c1, fun rv2 s2 hr => ⟨hr.1, by rw [hr.2]; exact keep⟩⟩
  · exact JP.znz h (hX := 3) (hM := 3) (by decide) (by decide) (c_X7_sheetOut σ tt so m c) (c_X8_sheetOut σ tt so m c) rfl
theorem if_up {P1 P2 : Prop} [Decidable P1] [Decidable P2] {k j : Nat} {x y z : Int32} : (if P1 then g_up σ k j x else if P2 then g_up σ k j y else g_up σ k j z) = g_up σ k j (if P1 then x else if P2 then y else z) := by
  split
  · rfl
  · split
    · rfl
    · rfl
theorem k_M_cellNone {h : Nat} (hh : 6 ≤ h) (σ : gS) {k : Nat} (hk : k < 4) (e : σ 86 k = 0) (i v : Int32) : g_Met yX8_cell cX8_cell 4 (some .int) h kM [.ref 63, .int (nI k), .int i, .int v] σ (fun rv s => rv = some (.int (-11)) ∧ s = σ) := by
  refine w_X8_cell hh ?_
  unfold P_X8_cell
  exact ⟨fun _ => ⟨k, rfl, hk, fun _ => ⟨rfl, rfl⟩, fun z => absurd e z⟩, fun z => absurd ((n_0to (a := k) (M := 3) (by omega) (by omega)).mpr (by omega)) z⟩
theorem jp_cell (h : IV σ H nT t TT b n) (tt i v : Int32) : JP yX7_cell cX7_cell 4 yX8_cell cX8_cell 4 [.int tt, .int i, .int v] σ := by
  have keep : IVx σ := ⟨H, nT, t, TT, b, n, h⟩
  by_cases c : g_in tt 0 3
  · obtain ⟨k, hk, rfl⟩ := n_of (M := 3) c (by decide)
    have hk4 : k < 4 := by omega
    have hsh := h.2.2.2.2.2.2.1
    obtain ⟨⟨z, hz, hz40⟩, -⟩ := hsh.2 k hk4
    have hz' : σ (37 + 2 * k) 1 = nI z := hz
    rcases hsh.1 k hk4 with ⟨a1, a2⟩ | ⟨a1, a2, a3, a4, z', a5, a6, a7⟩
    · have a2' : σ (37 + 2 * k) 0 = -1 := a2
      refine JP.zsz (hX := 4) (hM := 6) (by decide) (by decide) (c_X7_cell σ hk4 i v hz' hz40) (r2 := -11) (S2 := σ) ?_ ⟨by rw [if_pos a2'], keep⟩
      rw [if_pos a2']
      exact k_M_cellNone (by decide) σ hk4 a1 i v
    · have a2' : ¬ σ (37 + 2 * k) 0 = -1 := a2
      have a3' : σ 87 k = σ (37 + 2 * k) 0 := a3
      have a4' : σ 88 k = nI z := a4.trans hz
      have hzz : z' = z := (n_eq (a := z') (b := z) (by omega) (by omega)).mp (a5.symm.trans hz)
      subst hzz
      by_cases c2 : g_in i 0 (nI z' - 1)
      · obtain ⟨a, ha, rfl⟩ := g_nat c2 rfl (by omega)
        have K1 := c_X7_cell σ hk4 (nI a) v hz' hz40
        rw [if_neg a2', if_neg a2', hz', if_pos c2, if_pos c2, if_up, ix_nI (by omega)] at K1
        refine JP.zsz (hX := 4) (hM := 4) (by decide) (by decide) K1 (c_X8_cell _ hk4 (nI a) v (z := z') (by rw [g_up_ne (by omega)]; exact a4') hz40) ?_
        generalize hw : (if σ (37 + 2 * k) 0 = 0 then Int8.toInt32 (Int32.toInt8 v) else if σ (37 + 2 * k) 0 = 1 then Int16.toInt32 (Int32.toInt16 v) else v) = w
        rw [if_up, g_up_ne (a := 86) (by omega), g_up_ne (a := 87) (by omega), g_up_ne (a := 88) (by omega), a1, a3', a4', hw]
        have e1 : ¬ (1 : Int32) = 0 := by decide
        rw [if_neg e1, if_neg e1, if_pos c2, if_pos c2, show ix (40 * nI k + nI a) = 40 * k + a from (g_im (t := k) (v := a) (m := 40) hk4 (by omega) (by omega)).2]
        refine ⟨rfl, H, nT, t, TT, b, n, h.zshs (fun x z1 z2 => by rw [g_up_ne (by omega), g_up_ne (by omega)]) (hsh.zone hk4 (fun j hj hjk => ⟨by rw [g_up_ne (by omega), g_up_ne (by omega)], by rw [g_up_ne (by omega), g_up_ne (by omega)]⟩) (fun j hjk => ⟨by rw [g_up_ne (by decide), g_up_ne (by omega)], by rw [g_up_ne (by decide), g_up_ne (by omega)], by rw [g_up_ne (by decide), g_up_ne (by omega)]⟩) (fun j x hj hjk hx => by rw [u_ne (by omega), g_up_ne (by omega)]) ?_ ?_ ?_)⟩
        · have e37 : g_up (g_up σ (38 + 2 * k) a w) 89 (40 * k + a) w (37 + 2 * k) = σ (37 + 2 * k) := by rw [g_up_ne (by omega), g_up_ne (by omega)]
          unfold x_so x_sz
          rw [e37, g_up_ne (a := 86) (by decide), g_up_ne (a := 86) (by omega), g_up_ne (a := 87) (by decide), g_up_ne (a := 87) (by omega), g_up_ne (a := 88) (by decide), g_up_ne (a := 88) (by omega), g_up_ne (a := 38 + 2 * k) (by omega)]
          refine Or.inr ⟨a1, a2', a3', a4'.trans hz'.symm, z', hz', hz40, fun x hx => ?_⟩
          by_cases y : x = a
          · subst y
            rw [u_eq, u_eq]
          · rw [u_ne (by omega), u_ne y, g_up_ne (by omega)]
            exact a7 x hx
        · refine ⟨z', ?_, hz40⟩
          unfold x_sz
          rw [g_up_ne (by omega), g_up_ne (by omega)]
          exact hz'
        · unfold x_so
          rw [g_up_ne (by omega), g_up_ne (by omega)]
          exact (hsh.2 k hk4).2
      · refine JP.zsz (hX := 4) (hM := 4) (by decide) (by decide) (c_X7_cell σ hk4 i v hz' hz40) (r2 := -12) (S2 := σ) ?_ ⟨by rw [if_neg a2', hz', if_neg c2], keep⟩
        rw [if_neg a2', hz', if_neg c2]
        have K2 := c_X8_cell σ hk4 i v a4' hz40
        have e1 : ¬ (1 : Int32) = 0 := by decide
        rw [a1, a4', if_neg e1, if_neg e1, if_neg c2, if_neg c2] at K2
        exact K2
  · exact JP.znz h (hX := 4) (hM := 4) (by decide) (by decide) (c_X7_cellOut σ tt i v c) (c_X8_cellOut σ tt i v c) rfl
theorem IV.zt13 (h : IV σ H nT t TT b n) (d : Int32) : (if g_in d 0 (σ 1 8 - 1) then (-13 : Int32) else -11) = if g_in d 0 (σ 63 15 - 1) then -13 else -11 := by
  obtain ⟨d1, d2, -⟩ := h.znd
  rw [d1, d2]
theorem jp_takenNo (h : IV σ H nT t TT b n) (d k : Int32) (ck : g_in k 0 5) (cd : ¬ g_in d 0 (nI (h_nd H) - 1)) : JP yX7_taken cX7_taken 3 yX8_taken cX8_taken 4 [.int d, .int k] σ := by
  obtain ⟨d1, d2, d6⟩ := h.znd
  refine JP.znz h (r1 := -11) (r2 := -11) (hX := 6) (hM := 6) (by decide) (by decide) (w_X7_taken (by decide) ?_) (w_X8_taken (by decide) ?_) rfl
  · unfold P_X7_taken
    rw [d1]
    exact ⟨fun _ => ⟨fun z => absurd z cd, fun _ => ⟨rfl, rfl⟩⟩, fun z => absurd ck z⟩
  · unfold P_X8_taken
    rw [d2]
    exact ⟨fun _ => ⟨fun z => absurd z cd, fun _ => ⟨rfl, rfl⟩⟩, fun z => absurd ck z⟩
theorem jp_taken (h : IV σ H nT t TT b n) (d k : Int32) : JP yX7_taken cX7_taken 3 yX8_taken cX8_taken 4 [.int d, .int k] σ := by
  obtain ⟨d1, d2, d6⟩ := h.znd
  by_cases ck : g_in k 0 5
  · by_cases cd : g_in d 0 (nI (h_nd H) - 1)
    · obtain ⟨j, hj, ej⟩ := g_nat cd rfl (by omega)
      have ixj : ix d = j := by rw [ej]; exact ix_nI (by omega)
      obtain ⟨⟨q, eq, hq⟩, -⟩ := h.2.1.2.1 j hj
      have e3 : σ 3 (ix d) = nI q := by rw [ixj]; exact ((h.1.1.2.2.1 j hj).1).trans eq
      have e68 : σ 68 (ix d) = nI q := by rw [ixj]; exact ((h.1.2.1.2.2 j hj).1).trans eq
      obtain ⟨k', hk', rfl⟩ := n_of (M := 5) ck (by decide)
      rcases (show q = 0 ∨ q = 1 ∨ q = 2 ∨ q = 3 ∨ q = 4 ∨ q = 5 by omega) with rfl | rfl | rfl | rfl | rfl | rfl
      · rcases (show k' = 0 ∨ k' = 1 ∨ k' = 2 ∨ k' = 3 ∨ k' = 4 ∨ k' = 5 by omega) with rfl | rfl | rfl | rfl | rfl | rfl
        · exact JP.znz h (hX := 4) (hM := 4) (by decide) (by decide) (c_X7_taken_0_0 σ d d1 d6 e3) (c_X8_taken_0_0 σ d d2 d6 e68) (h.zdr d (fun x hx => (h.zdd x hx).2.1) _)
        · exact JP.znz h (hX := 4) (hM := 4) (by decide) (by decide) (c_X7_taken_0_1 σ d d1 d6 e3) (c_X8_taken_0_1 σ d d2 d6 e68) (h.zt13 d)
        · exact JP.znz h (hX := 4) (hM := 4) (by decide) (by decide) (c_X7_taken_0_2 σ d d1 d6 e3) (c_X8_taken_0_2 σ d d2 d6 e68) (h.zt13 d)
        · exact JP.znz h (hX := 4) (hM := 4) (by decide) (by decide) (c_X7_taken_0_3 σ d d1 d6 e3) (c_X8_taken_0_3 σ d d2 d6 e68) (h.zt13 d)
        · exact JP.znz h (hX := 4) (hM := 4) (by decide) (by decide) (c_X7_taken_0_4 σ d d1 d6 e3) (c_X8_taken_0_4 σ d d2 d6 e68) (h.zt13 d)
        · exact JP.znz h (hX := 4) (hM := 4) (by decide) (by decide) (c_X7_taken_0_5 σ d d1 d6 e3) (c_X8_taken_0_5 σ d d2 d6 e68) (h.zt13 d)
      · rcases (show k' = 0 ∨ k' = 1 ∨ k' = 2 ∨ k' = 3 ∨ k' = 4 ∨ k' = 5 by omega) with rfl | rfl | rfl | rfl | rfl | rfl
        · exact JP.znz h (hX := 4) (hM := 4) (by decide) (by decide) (c_X7_taken_1_0 σ d d1 d6 e3) (c_X8_taken_1_0 σ d d2 d6 e68) (h.zdr d (fun x hx => (h.zdd x hx).2.1) _)
        · exact JP.znz h (hX := 4) (hM := 4) (by decide) (by decide) (c_X7_taken_1_1 σ d d1 d6 e3) (c_X8_taken_1_1 σ d d2 d6 e68) (h.zdr d (fun x hx => (h.zdd x hx).2.1) _)
        · exact JP.znz h (hX := 4) (hM := 4) (by decide) (by decide) (c_X7_taken_1_2 σ d d1 d6 e3) (c_X8_taken_1_2 σ d d2 d6 e68) (h.zt13 d)
        · exact JP.znz h (hX := 4) (hM := 4) (by decide) (by decide) (c_X7_taken_1_3 σ d d1 d6 e3) (c_X8_taken_1_3 σ d d2 d6 e68) (h.zt13 d)
        · exact JP.znz h (hX := 4) (hM := 4) (by decide) (by decide) (c_X7_taken_1_4 σ d d1 d6 e3) (c_X8_taken_1_4 σ d d2 d6 e68) (h.zt13 d)
        · exact JP.znz h (hX := 4) (hM := 4) (by decide) (by decide) (c_X7_taken_1_5 σ d d1 d6 e3) (c_X8_taken_1_5 σ d d2 d6 e68) (h.zt13 d)
      · rcases (show k' = 0 ∨ k' = 1 ∨ k' = 2 ∨ k' = 3 ∨ k' = 4 ∨ k' = 5 by omega) with rfl | rfl | rfl | rfl | rfl | rfl
        · exact JP.znz h (hX := 4) (hM := 4) (by decide) (by decide) (c_X7_taken_2_0 σ d d1 d6 e3) (c_X8_taken_2_0 σ d d2 d6 e68) (h.zdr d (fun x hx => (h.zdd x hx).2.1) _)
        · exact JP.znz h (hX := 4) (hM := 4) (by decide) (by decide) (c_X7_taken_2_1 σ d d1 d6 e3) (c_X8_taken_2_1 σ d d2 d6 e68) (h.zt13 d)
        · exact JP.znz h (hX := 4) (hM := 4) (by decide) (by decide) (c_X7_taken_2_2 σ d d1 d6 e3) (c_X8_taken_2_2 σ d d2 d6 e68) (h.zdr d (fun x hx => (h.zdd x hx).2.1) _)
        · exact JP.znz h (hX := 4) (hM := 4) (by decide) (by decide) (c_X7_taken_2_3 σ d d1 d6 e3) (c_X8_taken_2_3 σ d d2 d6 e68) (h.zt13 d)
        · exact JP.znz h (hX := 4) (hM := 4) (by decide) (by decide) (c_X7_taken_2_4 σ d d1 d6 e3) (c_X8_taken_2_4 σ d d2 d6 e68) (h.zt13 d)
        · exact JP.znz h (hX := 4) (hM := 4) (by decide) (by decide) (c_X7_taken_2_5 σ d d1 d6 e3) (c_X8_taken_2_5 σ d d2 d6 e68) (h.zt13 d)
      · rcases (show k' = 0 ∨ k' = 1 ∨ k' = 2 ∨ k' = 3 ∨ k' = 4 ∨ k' = 5 by omega) with rfl | rfl | rfl | rfl | rfl | rfl
        · exact JP.znz h (hX := 4) (hM := 4) (by decide) (by decide) (c_X7_taken_3_0 σ d d1 d6 e3) (c_X8_taken_3_0 σ d d2 d6 e68) (h.zdr d (fun x hx => (h.zdd x hx).2.1) _)
        · exact JP.znz h (hX := 4) (hM := 4) (by decide) (by decide) (c_X7_taken_3_1 σ d d1 d6 e3) (c_X8_taken_3_1 σ d d2 d6 e68) (h.zdr d (fun x hx => (h.zdd x hx).2.1) _)
        · exact JP.znz h (hX := 4) (hM := 4) (by decide) (by decide) (c_X7_taken_3_2 σ d d1 d6 e3) (c_X8_taken_3_2 σ d d2 d6 e68) (h.zt13 d)
        · exact JP.znz h (hX := 4) (hM := 4) (by decide) (by decide) (c_X7_taken_3_3 σ d d1 d6 e3) (c_X8_taken_3_3 σ d d2 d6 e68) (h.zdr d (fun x hx => (h.zdd x hx).2.1) _)
        · exact JP.znz h (hX := 4) (hM := 4) (by decide) (by decide) (c_X7_taken_3_4 σ d d1 d6 e3) (c_X8_taken_3_4 σ d d2 d6 e68) (h.zt13 d)
        · exact JP.znz h (hX := 4) (hM := 4) (by decide) (by decide) (c_X7_taken_3_5 σ d d1 d6 e3) (c_X8_taken_3_5 σ d d2 d6 e68) (h.zt13 d)
      · rcases (show k' = 0 ∨ k' = 1 ∨ k' = 2 ∨ k' = 3 ∨ k' = 4 ∨ k' = 5 by omega) with rfl | rfl | rfl | rfl | rfl | rfl
        · exact JP.znz h (hX := 4) (hM := 4) (by decide) (by decide) (c_X7_taken_4_0 σ d d1 d6 e3) (c_X8_taken_4_0 σ d d2 d6 e68) (h.zdr d (fun x hx => (h.zdd x hx).2.1) _)
        · exact JP.znz h (hX := 4) (hM := 4) (by decide) (by decide) (c_X7_taken_4_1 σ d d1 d6 e3) (c_X8_taken_4_1 σ d d2 d6 e68) (h.zt13 d)
        · exact JP.znz h (hX := 4) (hM := 4) (by decide) (by decide) (c_X7_taken_4_2 σ d d1 d6 e3) (c_X8_taken_4_2 σ d d2 d6 e68) (h.zdr d (fun x hx => (h.zdd x hx).2.1) _)
        · exact JP.znz h (hX := 4) (hM := 4) (by decide) (by decide) (c_X7_taken_4_3 σ d d1 d6 e3) (c_X8_taken_4_3 σ d d2 d6 e68) (h.zt13 d)
        · exact JP.znz h (hX := 4) (hM := 4) (by decide) (by decide) (c_X7_taken_4_4 σ d d1 d6 e3) (c_X8_taken_4_4 σ d d2 d6 e68) (h.zdr d (fun x hx => (h.zdd x hx).2.1) _)
        · exact JP.znz h (hX := 4) (hM := 4) (by decide) (by decide) (c_X7_taken_4_5 σ d d1 d6 e3) (c_X8_taken_4_5 σ d d2 d6 e68) (h.zt13 d)
      · rcases (show k' = 0 ∨ k' = 1 ∨ k' = 2 ∨ k' = 3 ∨ k' = 4 ∨ k' = 5 by omega) with rfl | rfl | rfl | rfl | rfl | rfl
        · exact JP.znz h (hX := 4) (hM := 4) (by decide) (by decide) (c_X7_taken_5_0 σ d d1 d6 e3) (c_X8_taken_5_0 σ d d2 d6 e68) (h.zdr d (fun x hx => (h.zdd x hx).2.1) _)
        · exact JP.znz h (hX := 4) (hM := 4) (by decide) (by decide) (c_X7_taken_5_1 σ d d1 d6 e3) (c_X8_taken_5_1 σ d d2 d6 e68) (h.zdr d (fun x hx => (h.zdd x hx).2.1) _)
        · exact JP.znz h (hX := 4) (hM := 4) (by decide) (by decide) (c_X7_taken_5_2 σ d d1 d6 e3) (c_X8_taken_5_2 σ d d2 d6 e68) (h.zt13 d)
        · exact JP.znz h (hX := 4) (hM := 4) (by decide) (by decide) (c_X7_taken_5_3 σ d d1 d6 e3) (c_X8_taken_5_3 σ d d2 d6 e68) (h.zt13 d)
        · exact JP.znz h (hX := 4) (hM := 4) (by decide) (by decide) (c_X7_taken_5_4 σ d d1 d6 e3) (c_X8_taken_5_4 σ d d2 d6 e68) (h.zt13 d)
        · exact JP.znz h (hX := 4) (hM := 4) (by decide) (by decide) (c_X7_taken_5_5 σ d d1 d6 e3) (c_X8_taken_5_5 σ d d2 d6 e68) (h.zdr d (fun x hx => (h.zdd x hx).2.1) _)
    · exact jp_takenNo h d k ck cd
  · exact JP.znz h (hX := 4) (hM := 4) (by decide) (by decide) (c_X7_takenOut σ d k ck) (c_X8_takenOut σ d k ck) rfl
end JY
