/-! ONE CALL ON BOTH SIDES: the class first, then the reference; like answers, and the invariant again -/
def IVx (s : gS) : Prop := ∃ (H : mH) (nT t : Nat) (TT : Nat → mT) (b : gF) (n : Nat), IV s H nT t TT b n
def JP (yX : MethodName) (cX : ByteArray) (lX : Nat) (yM : MethodName) (cM : ByteArray) (lM : Nat) (As : List Value) (σ : gS) : Prop :=
  ∃ (hX : Nat) (Q1 : Option Value → gS → Prop), hX ≤ 200 ∧ g_Met yX cX lX (some .int) hX kX (.ref 0 :: As) σ Q1 ∧ ∀ rv s1, Q1 rv s1 → ∃ (hM : Nat) (Q2 : Option Value → gS → Prop) (r : Int32), hM ≤ 200 ∧ rv = some (.int r) ∧ g_Met yM cM lM (some .int) hM kM (.ref 63 :: As) s1 Q2 ∧ ∀ rv2 s2, Q2 rv2 s2 → rv2 = some (.int r) ∧ IVx s2
/-- a call that answers a long -/
def JPL (yX : MethodName) (cX : ByteArray) (lX : Nat) (yM : MethodName) (cM : ByteArray) (lM : Nat) (As : List Value) (σ : gS) : Prop :=
  ∃ (hX : Nat) (Q1 : Option Value → gS → Prop), hX ≤ 200 ∧ g_Met yX cX lX (some .long) hX kX (.ref 0 :: As) σ Q1 ∧ ∀ rv s1, Q1 rv s1 → ∃ (hM : Nat) (Q2 : Option Value → gS → Prop) (r : Int64), hM ≤ 200 ∧ rv = some (.long r) ∧ g_Met yM cM lM (some .long) hM kM (.ref 63 :: As) s1 Q2 ∧ ∀ rv2 s2, Q2 rv2 s2 → rv2 = some (.long r) ∧ IVx s2
theorem JP.zez {P : Prop} {s : gS} {nT t : Nat} {TT : Nat → mT} {b : gF} {n : Nat} (h : P ∧ ∃ H', IV s H' nT t TT b n) : P ∧ IVx s := ⟨h.1, by obtain ⟨H', z⟩ := h.2; exact ⟨H', nT, t, TT, b, n, z⟩⟩
section JPS
variable {σ : gS} {H : mH} {nT t : Nat} {TT : Nat → mT} {b : gF} {n : Nat} {yX yM : MethodName} {cX cM : ByteArray} {lX lM hX hM : Nat} {As : List Value}
theorem JP.zqz (h : IV σ H nT t TT b n) {r : Int32} (hh : hX ≤ 200) (hm : hM ≤ 200) (k1 : g_Met yX cX lX (some .int) hX kX (.ref 0 :: As) σ (fun rv s => rv = some (.int r) ∧ xfr σ s)) (k2 : ∀ s, xfr σ s → IV s H nT t TT b n → g_Met yM cM lM (some .int) hM kM (.ref 63 :: As) s (fun rv s' => rv = some (.int r) ∧ mxf s s')) : JP yX cX lX yM cM lM As σ :=
  ⟨hX, _, hh, k1, fun _ s1 hq => ⟨hM, _, r, hm, hq.1, k2 s1 hq.2 (h.zfx hq.2), fun _ _ hq2 => ⟨hq2.1, H, nT, t, TT, b, n, (h.zfx hq.2).zfm hq2.2⟩⟩⟩
theorem JP.zsz {r1 r2 : Int32} {S1 S2 : gS} (hh : hX ≤ 200) (hm : hM ≤ 200) (k1 : g_Met yX cX lX (some .int) hX kX (.ref 0 :: As) σ (fun rv s => rv = some (.int r1) ∧ s = S1)) (k2 : g_Met yM cM lM (some .int) hM kM (.ref 63 :: As) S1 (fun rv s => rv = some (.int r2) ∧ s = S2)) (e : r1 = r2 ∧ IVx S2) : JP yX cX lX yM cM lM As σ :=
  ⟨hX, _, hh, k1, fun _ s1 hq => ⟨hM, (fun rv s => rv = some (.int r2) ∧ s = S2), r1, hm, hq.1, by rw [hq.2]; exact k2, fun _ _ hq2 => ⟨by rw [e.1]; exact hq2.1, by rw [hq2.2]; exact e.2⟩⟩⟩
/-- two answers that change nothing -/
theorem JP.znz (h : IV σ H nT t TT b n) {r1 r2 : Int32} (hh : hX ≤ 200) (hm : hM ≤ 200) (k1 : g_Met yX cX lX (some .int) hX kX (.ref 0 :: As) σ (fun rv s => rv = some (.int r1) ∧ s = σ)) (k2 : g_Met yM cM lM (some .int) hM kM (.ref 63 :: As) σ (fun rv s => rv = some (.int r2) ∧ s = σ)) (e : r1 = r2) : JP yX cX lX yM cM lM As σ := JP.zsz hh hm k1 k2 ⟨e, H, nT, t, TT, b, n, h⟩
end JPS
section JQ
variable {σ : gS} {H : mH} {nT t : Nat} {TT : Nat → mT} {b : gF} {n : Nat}
theorem jp_falls (h : IV σ H nT t TT b n) (d hr wh : Int32) : JP yX7_falls cX7_falls 6 yX8_falls cX8_falls 4 [.int d, .int hr, .int wh] σ := JP.zqz h (hX := 14) (hM := 72) (by decide) (by decide) (k_falls (by decide) σ h.zX d hr wh) (fun s _ i => k_M_falls (by decide) s i.zM d hr wh)
theorem jp_day (h : IV σ H nT t TT b n) (wh : Int32) : JP yX7_day cX7_day 3 yX8_day cX8_day 5 [.int wh] σ := JP.zqz h (hX := 18) (hM := 78) (by decide) (by decide) (k_day (by decide) σ h.zX wh) (fun s _ i => k_M_day (by decide) s i.zM wh)
theorem jp_water (h : IV σ H nT t TT b n) (o hr wh : Int32) : JP yX7_water cX7_water 4 yX8_water cX8_water 4 [.int o, .int hr, .int wh] σ := JP.zqz h (hX := 18) (hM := 78) (by decide) (by decide) (k_water (by decide) σ h.zX o hr wh) (fun s _ i => k_M_water (by decide) s i.zM o hr wh)
theorem jp_stand (h : IV σ H nT t TT b n) (wh : Int32) : JP yX7_stand cX7_stand 5 yX8_stand cX8_stand 3 [.int wh] σ := JP.zqz h (hX := 20) (hM := 86) (by decide) (by decide) (k_stand (by decide) σ h.zX wh) (fun s _ i => k_M_stand (by decide) s i.zM wh)
theorem jp_rise (h : IV σ H nT t TT b n) (k wh : Int32) : JP yX7_rise cX7_rise 5 yX8_rise cX8_rise 7 [.int k, .int wh] σ := JP.zqz h (hX := 26) (hM := 78) (by decide) (by decide) (k_rise (by decide) σ h.zX k wh) (fun s _ i => k_M_rise (by decide) s i.zM k wh)
theorem jp_lead (h : IV σ H nT t TT b n) (wh : Int32) : JP yX7_lead cX7_lead 6 yX8_lead cX8_lead 7 [.int wh] σ := JP.zqz h (hX := 20) (hM := 78) (by decide) (by decide) (k_lead (by decide) σ h.zX wh) (fun s _ i => k_M_lead (by decide) s i.zM wh)
theorem jp_gone (h : IV σ H nT t TT b n) : JP yX7_gone cX7_gone 1 yX8_gone cX8_gone 2 [] σ := JP.zqz h (hX := 18) (hM := 78) (by decide) (by decide) (k_gone (by decide) σ h.zX) (fun s _ i => k_M_gone (by decide) s i.zM)
theorem jp_tile (h : IV σ H nT t TT b n) (d : Int32) : JP yX7_tile cX7_tile 3 yX8_tile cX8_tile 3 [.int d] σ := JP.zqz h (hX := 18) (hM := 78) (by decide) (by decide) (k_tile (by decide) σ h.zX d) (fun s _ i => k_M_tile (by decide) s i.zM d)
theorem jp_more (h : IV σ H nT t TT b n) (d m : Int32) : JP yX7_more cX7_more 4 yX8_more cX8_more 4 [.int d, .int m] σ := JP.zqz h (hX := 18) (hM := 78) (by decide) (by decide) (k_more (by decide) σ h.zX d m) (fun s _ i => k_M_more (by decide) s i.zM d m)
theorem jp_sorted (h : IV σ H nT t TT b n) (wh : Int32) : JP yX7_sorted cX7_sorted 4 yX8_sorted cX8_sorted 6 [.int wh] σ := JP.zqz h (hX := 18) (hM := 78) (by decide) (by decide) (k_sorted (by decide) σ h.zX wh) (fun s _ i => k_M_sorted (by decide) s i.zM wh)
theorem jp_drawn (h : IV σ H nT t TT b n) (sd : Int32) : JP yX7_drawn cX7_drawn 2 yX8_drawn cX8_drawn 2 [.int sd] σ := JP.zqz h (hX := 18) (hM := 80) (by decide) (by decide) (k_drawn (by decide) σ h.zX sd) (fun s _ i => k_M_drawn (by decide) s i.zM sd)
theorem xfr.zsh {s : gS} (e : xfr σ s) : x_so s = x_so σ ∧ x_sz s = x_sz σ ∧ (fun j => s (38 + 2 * j)) = fun j => σ (38 + 2 * j) := by
  refine ⟨funext fun j => ?_, funext fun j => ?_, funext fun j => e _ (by omega)⟩
  · unfold x_so
    rw [e _ (by omega)]
  · unfold x_sz
    rw [e _ (by omega)]
theorem IV.zms {s : gS} (i : IV s H nT t TT b n) (e : xfr σ s) : msh s (x_so σ) (x_sz σ) (fun j => σ (38 + 2 * j)) := by
  have z := i.2.2.2.2.2.2.1.1
  rw [e.zsh.1, e.zsh.2.1, e.zsh.2.2] at z
  exact z
theorem jp_seen (h : IV σ H nT t TT b n) (sh hr wh : Int32) : JP yX7_seen cX7_seen 8 yX8_seen cX8_seen 8 [.int sh, .int hr, .int wh] σ := JP.zqz h (hX := 20) (hM := 78) (by decide) (by decide) (k_seen (by decide) σ h.zX sh hr wh) (fun s e i => k_M_seen (by decide) s i.zM (i.zms e) sh hr wh)
theorem jp_strange (h : IV σ H nT t TT b n) (sh hr : Int32) : JP yX7_strange cX7_strange 6 yX8_strange cX8_strange 5 [.int sh, .int hr] σ := JP.zqz h (hX := 20) (hM := 78) (by decide) (by decide) (k_strange (by decide) σ h.zX sh hr) (fun s e i => k_M_strange (by decide) s i.zM (i.zms e) sh hr)
theorem jp_chance (h : IV σ H nT t TT b n) (sd m pa : Int32) : JPL yX7_chance cX7_chance 6 yX8_chance cX8_chance 12 [.int sd, .int m, .int pa] σ :=
  ⟨18, _, by decide, k_chance (by decide) σ h.zX sd m pa, fun _ s1 hq => ⟨80, _, _, by decide, hq.1, k_M_chance (by decide) s1 (h.zfx hq.2).zM sd m pa, fun _ _ hq2 => ⟨hq2.1, H, nT, t, TT, b, n, (h.zfx hq.2).zfm hq2.2⟩⟩⟩
/-! set, fill, rains -/
theorem IV.znd (h : IV σ H nT t TT b n) : σ 1 8 = nI (h_nd H) ∧ σ 63 15 = nI (h_nd H) ∧ h_nd H ≤ 6 := ⟨h.1.1.1.1, h.1.2.1.1, h.2.1.1.1⟩
theorem IV.znv (h : IV σ H nT t TT b n) : σ 1 9 = nI (h_nv H) ∧ σ 63 19 = nI (h_nv H) ∧ h_nv H ≤ 5 := ⟨h.1.1.1.2.1, h.1.2.2.1, h.2.1.1.2.1⟩
theorem g_up_if {P : Prop} [Decidable P] {k j : Nat} {v : Int32} {a : Nat} (ha : a ≠ k) : (if P then g_up σ k j v else σ) a = σ a := by
  split
  · exact g_up_ne ha
  · rfl
theorem jp_set (h : IV σ H nT t TT b n) (w o v : Int32) : JP yX7_set cX7_set 4 yX8_set cX8_set 5 [.int w, .int o, .int v] σ := by
  obtain ⟨d1, d2, d6⟩ := h.znd
  by_cases c : g_in w 0 6
  · obtain ⟨q, hq, rfl⟩ := n_of (M := 6) c (by decide)
    rcases (show q = 0 ∨ q = 1 ∨ q = 2 ∨ q = 3 ∨ q = 4 ∨ q = 5 ∨ q = 6 by omega) with rfl | rfl | rfl | rfl | rfl | rfl | rfl
    · exact JP.zsz (hX := 3) (hM := 3) (by decide) (by decide) (c_X7_set0 σ o v) (c_X8_set0 _ o v) (JP.zez (j_set0 h o v rfl rfl))
    · exact JP.zsz (hX := 3) (hM := 3) (by decide) (by decide) (c_X7_set1 σ o v) (c_X8_set1 _ o v) (JP.zez (j_set1 h v rfl rfl))
    · exact JP.zsz (hX := 3) (hM := 3) (by decide) (by decide) (c_X7_set2 σ o v) (c_X8_set2 _ o v) (JP.zez (j_set2 h v rfl rfl))
    · exact JP.zsz (hX := 3) (hM := 3) (by decide) (by decide) (c_X7_set3 σ o v) (c_X8_set3 _ o v) (JP.zez (j_set3 h v rfl rfl))
    · exact JP.zsz (hX := 3) (hM := 3) (by decide) (by decide) (c_X7_set4 σ o v d1 d6) (c_X8_set4 _ o v (by rw [g_up_if (by decide)]; exact d2) d6) (JP.zez (j_set4 h o v rfl rfl))
    · exact JP.zsz (hX := 3) (hM := 3) (by decide) (by decide) (c_X7_set5 σ o v d1 d6) (c_X8_set5 _ o v (by rw [g_up_if (by decide)]; exact d2) d6) (JP.zez (j_set5 h o v rfl rfl))
    · exact JP.zsz (hX := 3) (hM := 3) (by decide) (by decide) (c_X7_set6 σ o v d1 d6) (c_X8_set6 _ o v (by rw [g_up_if (by decide)]; exact d2) d6) (JP.zez (j_set6 h o v rfl rfl))
  · exact JP.znz h (hX := 3) (hM := 3) (by decide) (by decide) (c_X7_setOut σ w o v c) (c_X8_setOut σ w o v c) rfl
theorem jp_fill (h : IV σ H nT t TT b n) (o v : Int32) : JP yX7_fill cX7_fill 3 yX8_fill cX8_fill 4 [.int o, .int v] σ := by
  obtain ⟨d1, d2, d5⟩ := h.znv
  refine JP.zsz (hX := 3) (hM := 3) (by decide) (by decide) (c_X7_fill σ o v d1 d5) (c_X8_fill _ o v (nv := h_nv H) ?_ d5) (JP.zez (j_fill h o v rfl rfl))
  split
  · rw [g_up_if (by decide)]; exact d2
  · exact d2
theorem jp_rains (h : IV σ H nT t TT b n) (sh so fr m : Int32) : JP yX7_rains cX7_rains 6 yX8_rains cX8_rains 8 [.int sh, .int so, .int fr, .int m] σ :=
  ⟨8, _, by decide, j_rainsX h (by decide) sh so fr m, fun _ s1 hq => ⟨6, _, _, by decide, hq.1, j_rainsM h (by decide) sh so fr m hq.2.1 hq.2.2, fun _ _ hq2 => ⟨hq2.1, _, nT, t, TT, b, n, hq2.2⟩⟩⟩
/-! told, count -/
theorem IV.zdr (h : IV σ H nT t TT b n) (o : Int32) {kx km : Nat} (e : ∀ d, d < h_nd H → σ kx d = σ km d) (w : Int32) : (if g_in o 0 (σ 1 8 - 1) then σ kx (ix o) else w) = if g_in o 0 (σ 63 15 - 1) then σ km (ix o) else w := by
  obtain ⟨d1, d2, d6⟩ := h.znd
  rw [d1, d2]
  by_cases c : g_in o 0 (nI (h_nd H) - 1)
  · rw [if_pos c, if_pos c]
    obtain ⟨k, hk, rfl⟩ := g_nat c rfl (by omega)
    rw [ix_nI (by omega)]
    exact e k hk
  · rw [if_neg c, if_neg c]
theorem IV.zve (h : IV σ H nT t TT b n) (o : Int32) {kx km : Nat} (e : ∀ d, d < h_nv H → σ kx d = σ km d) (w : Int32) : (if g_in o 0 (σ 1 9 - 1) then σ kx (ix o) else w) = if g_in o 0 (σ 63 19 - 1) then σ km (ix o) else w := by
  obtain ⟨d1, d2, d6⟩ := h.znv
  rw [d1, d2]
  by_cases c : g_in o 0 (nI (h_nv H) - 1)
  · rw [if_pos c, if_pos c]
    obtain ⟨k, hk, rfl⟩ := g_nat c rfl (by omega)
    rw [ix_nI (by omega)]
    exact e k hk
  · rw [if_neg c, if_neg c]
theorem IV.zdd (h : IV σ H nT t TT b n) (d : Nat) (hd : d < h_nd H) : σ 3 d = σ 68 d ∧ σ 4 d = σ 69 d ∧ σ 5 d = σ 70 d ∧ σ 6 d = σ 71 d := by
  obtain ⟨a1, a2, a3, a4⟩ := h.1.1.2.2.1 d hd
  obtain ⟨b1, b2, b3, b4⟩ := h.1.2.1.2.2 d hd
  exact ⟨a1.trans b1.symm, a2.trans b2.symm, a3.trans b3.symm, a4.trans b4.symm⟩
theorem IV.zvv (h : IV σ H nT t TT b n) (d : Nat) (hd : d < h_nv H) : σ 7 d = σ 72 d ∧ σ 8 d = σ 73 d ∧ σ 9 d = σ 74 d := by
  obtain ⟨a1, a2, a3⟩ := h.1.1.2.2.2 d hd
  obtain ⟨b1, b2, b3⟩ := h.1.2.2.2.1 d hd
  exact ⟨a1.trans b1.symm, a2.trans b2.symm, a3.trans b3.symm⟩
theorem jp_told (h : IV σ H nT t TT b n) (o w : Int32) : JP yX7_told cX7_told 3 yX8_told cX8_told 3 [.int o, .int w] σ := by
  obtain ⟨d1, d2, d6⟩ := h.znd
  obtain ⟨v1, v2, v5⟩ := h.znv
  by_cases c : g_in w 0 6
  · obtain ⟨q, hq, rfl⟩ := n_of (M := 6) c (by decide)
    rcases (show q = 0 ∨ q = 1 ∨ q = 2 ∨ q = 3 ∨ q = 4 ∨ q = 5 ∨ q = 6 by omega) with rfl | rfl | rfl | rfl | rfl | rfl | rfl
    · exact JP.znz h (hX := 3) (hM := 3) (by decide) (by decide) (c_X7_told0 σ o d1 d6) (c_X8_told0 σ o d2 d6) (h.zdr o (fun d hd => (h.zdd d hd).1) _)
    · exact JP.znz h (hX := 3) (hM := 3) (by decide) (by decide) (c_X7_told1 σ o d1 d6) (c_X8_told1 σ o d2 d6) (h.zdr o (fun d hd => (h.zdd d hd).2.1) _)
    · exact JP.znz h (hX := 3) (hM := 3) (by decide) (by decide) (c_X7_told2 σ o d1 d6) (c_X8_told2 σ o d2 d6) (h.zdr o (fun d hd => (h.zdd d hd).2.2.1) _)
    · exact JP.znz h (hX := 3) (hM := 3) (by decide) (by decide) (c_X7_told3 σ o d1 d6) (c_X8_told3 σ o d2 d6) (h.zdr o (fun d hd => (h.zdd d hd).2.2.2) _)
    · exact JP.znz h (hX := 3) (hM := 3) (by decide) (by decide) (c_X7_told4 σ o v1 v5) (c_X8_told4 σ o v2 v5) (h.zve o (fun d hd => (h.zvv d hd).1) _)
    · exact JP.znz h (hX := 3) (hM := 3) (by decide) (by decide) (c_X7_told5 σ o v1 v5) (c_X8_told5 σ o v2 v5) (h.zve o (fun d hd => (h.zvv d hd).2.1) _)
    · exact JP.znz h (hX := 3) (hM := 3) (by decide) (by decide) (c_X7_told6 σ o v1 v5) (c_X8_told6 σ o v2 v5) (h.zve o (fun d hd => (h.zvv d hd).2.2) _)
  · exact JP.znz h (hX := 3) (hM := 3) (by decide) (by decide) (c_X7_toldOut σ o w c) (c_X8_toldOut σ o w c) rfl
theorem g_sm_ext {f g : Nat → Int32} : ∀ (k v : Nat) (a : Int32), (∀ j, v ≤ j → j < v + k → f j = g j) → g_sm f k v a = g_sm g k v a
  | 0, _, _, _ => by rw [g_sm, g_sm]
  | k + 1, v, a, e => by
    rw [g_sm, g_sm, e v (Nat.le_refl v) (by omega)]
    exact g_sm_ext k (v + 1) _ (fun j h1 h2 => e j (by omega) (by omega))
theorem jp_count (h : IV σ H nT t TT b n) (w : Int32) : JP yX7_count cX7_count 2 yX8_count cX8_count 4 [.int w] σ := by
  obtain ⟨d1, d2, d6⟩ := h.znd
  obtain ⟨v1, v2, v5⟩ := h.znv
  obtain ⟨u1, u2, u3⟩ := h.1.1.1.2.2
  obtain ⟨w1, w2, w3⟩ := h.1.2.2.2.2.1
  by_cases c : g_in w 0 8
  · obtain ⟨q, hq, rfl⟩ := n_of (M := 8) c (by decide)
    rcases (show q = 0 ∨ q = 1 ∨ q = 2 ∨ q = 3 ∨ q = 4 ∨ q = 5 ∨ q = 6 ∨ q = 7 ∨ q = 8 by omega) with rfl | rfl | rfl | rfl | rfl | rfl | rfl | rfl | rfl
    · exact JP.znz h (hX := 3) (hM := 3) (by decide) (by decide) (c_X7_count0 σ) (c_X8_count0 σ) (d1.trans d2.symm)
    · exact JP.znz h (hX := 3) (hM := 3) (by decide) (by decide) (c_X7_count1 σ) (c_X8_count1 σ) (v1.trans v2.symm)
    · exact JP.znz h (hX := 3) (hM := 3) (by decide) (by decide) (c_X7_count2 σ) (c_X8_count2 σ) (u1.trans w1.symm)
    · exact JP.znz h (hX := 3) (hM := 3) (by decide) (by decide) (c_X7_count3 σ) (c_X8_count3 σ) (u2.trans w3.symm)
    · exact JP.znz h (hX := 3) (hM := 3) (by decide) (by decide) (c_X7_count4 σ) (c_X8_count4 σ) (u3.trans w2.symm)
    · exact JP.znz h (hX := 3) (hM := 3) (by decide) (by decide) (c_X7_count5 σ) (c_X8_count5 σ) (h.2.2.1.1.1.trans h.2.2.1.1.2.1.symm)
    · exact JP.znz h (hX := 3) (hM := 3) (by decide) (by decide) (c_X7_count6 σ) (c_X8_count6 σ) (h.2.2.2.2.2.1.1.trans h.2.2.2.2.2.1.2.1.symm)
    · exact JP.znz h (hX := 3) (hM := 3) (by decide) (by decide) (c_X7_count7 σ) (c_X8_count7 σ) (h.2.2.2.1.1.trans h.2.2.2.1.2.symm)
    · exact JP.znz h (hX := 3) (hM := 3) (by decide) (by decide) (c_X7_count8 σ v1 v5) (c_X8_count8 σ v2 v5) (g_sm_ext _ _ _ (fun j _ hj => (h.zvv j (by omega)).2.2))
  · exact JP.znz h (hX := 3) (hM := 3) (by decide) (by decide) (c_X7_countOut σ w c) (c_X8_countOut σ w c) rfl
end JQ
