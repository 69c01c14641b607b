/-! THE CLASS READER: one -/
theorem r_next2 {b : Nat → Int32} {n t : Nat} {σ s : gS} {p : pS} (h : g_rx b n t σ p) (haf : p_af p ≤ n) (hl : r_lex (q_l (σ 20) n) (p_af p) σ s) : g_rx b n t s (p_next (q_l b n) p) ∧ r_fr t σ s := by
  obtain ⟨⟨hn, ht, m1, m2, hb⟩, ⟨k1, k2, k3, k4, k5, k6⟩, ⟨a, a1, a2, a3⟩, ⟨f1, f2⟩, ⟨len, l1, l2, l3⟩⟩ := h
  rw [q_l_congr hb] at hl
  obtain ⟨r1, r2, r3, ⟨a', r4, r5, r6⟩, r7, r8⟩ := hl
  have hpos := q_lex_pos (b := b) hn haf
  refine ⟨⟨⟨hn, ht, (r8 1 (by decide) (by decide) (by decide) (by decide)).trans m1, (r8 2 (by decide) (by decide) (by decide) (by decide)).trans m2, fun i hi => by rw [r7 20 (by decide)]; exact hb i hi⟩, ⟨r1, r2, ?_, (r8 8 (by decide) (by decide) (by decide) (by decide)).trans k4, k5, r3⟩, ⟨a', r4, by omega, r6⟩, ⟨fun z => (r8 9 (by decide) (by decide) (by decide) (by decide)).trans (f1 z), fun f hf => ⟨(r8 9 (by decide) (by decide) (by decide) (by decide)).trans (f2 f hf).1, (f2 f hf).2⟩⟩, ⟨len, (r8 3 (by decide) (by decide) (by decide) (by decide)).trans l1, l2, fun z => ⟨(l3 z).1, fun i hi => by rw [r7 (46 + 3 * t) (by omega)]; exact (l3 z).2 i hi⟩⟩⟩, fun x e1 e2 => r7 x e1⟩
  show (q_lex (q_l b n) (p_af p)).2.2.1 ≤ 200
  omega
theorem k_X2_next {b : Nat → Int32} {n t : Nat} {p : pS} (σ : gS) (hx : g_rx b n t σ p) (haf : p_af p ≤ n) (h2 : ¬ p_tk p = 2) (hbb : ∀ k, k < n → g_in (b k) 0 255) : g_Met yX2_next cX2_next 2 none 7 kR [.ref 19] σ (fun rv s => rv = none ∧ g_rx b n t s (p_next (q_l b n) p) ∧ r_fr t σ s) :=
  k_mono (c_X2_next0 σ hx.1.2.2.1 hx.1.1 (fun k hk => by rw [hx.1.2.2.2.2 k hk]; exact hbb k hk) haf (hx.at h2)) (fun rv s hq => ⟨hq.1, r_next2 hx haf hq.2⟩)
theorem k_X2_one {b : Nat → Int32} {n t d hO hE H : Nat} (h9 : 9 ≤ H) (hH : hO + 1 ≤ H ∧ hE + 1 ≤ H) {z : Bool} {rO rE : pS → pS} (hz : z = true ↔ d = 0) (hR : z = false → ∃ d', d = d' + 1 ∧ r_met yX2_one cX2_one 1 hO b n t d' rO ∧ p_fine n rO ∧ r_met yX2_either cX2_either 2 hE b n t d' rE ∧ p_fine n rE) (hn : n ≤ 160) (hbb : ∀ k, k < n → g_in (b k) 0 255) : r_met yX2_one cX2_one 1 H b n t d (p_one (q_l b n) z rO rE) := by
  intro σ p hx hp hop
  refine w_X2_one (by omega) ?_
  unfold P_X2_one
  have htk := hx.2.1.1
  rw [htk]
  have base : ¬ p_tk p = 1 → ¬ p_tk p = 2 → p_fa p = none ∧ p_af p ≤ n ∧ (p_cd p).length < 160 := fun e1 e2 => by
    have h0 : p_fa p = none := Decidable.of_not_not (fun y => e2 (hp.2 y))
    obtain ⟨a1, a2, a3, a4⟩ := hp.1 h0
    have := a4 e1 e2
    exact ⟨h0, a3, by omega⟩
  refine ⟨fun g3 => ?_, fun g3 => ⟨fun gn => ?_, fun gn => ⟨fun g45 => ?_, fun g45 => ⟨fun g40 => ?_, fun g40 => ?_⟩⟩⟩⟩
  · obtain ⟨-, haf, hl⟩ := base (by rw [g3]; decide) (by rw [g3]; decide)
    rw [hx.2.1.2.2.2.2.2 g3]
    refine g_call.i (c_X2_write σ hx (p_num p) (fun _ => hl)) (by omega) (fun rv s hq => ?_)
    obtain ⟨rfl, hx1, hf1⟩ := hq
    refine ⟨rfl, g_call.i (k_X2_next s hx1 haf (show ¬ p_tk p = 2 by rw [g3]; decide) hbb) (by omega) (fun rv s2 hq => ?_)⟩
    obtain ⟨rfl, hx2, hf2⟩ := hq
    rw [p_one_3 g3]
    exact ⟨rfl, rfl, hx2, hf1.trans hf2⟩
  · have e1 : ¬ p_tk p = 1 := fun y => by rw [y] at gn; exact absurd gn (by decide)
    have e2 : ¬ p_tk p = 2 := fun y => by rw [y] at gn; exact absurd gn (by decide)
    obtain ⟨-, haf, hl⟩ := base e1 e2
    refine g_call.i (c_X2_write σ hx _ (fun _ => hl)) (by omega) (fun rv s hq => ?_)
    obtain ⟨rfl, hx1, hf1⟩ := hq
    refine ⟨rfl, g_call.i (k_X2_next s hx1 haf e2 hbb) (by omega) (fun rv s2 hq => ?_)⟩
    obtain ⟨rfl, hx2, hf2⟩ := hq
    rw [p_one_n gn]
    exact ⟨rfl, rfl, hx2, hf1.trans hf2⟩
  · have e1 : ¬ p_tk p = 1 := by rw [g45]; decide
    have e2 : ¬ p_tk p = 2 := by rw [g45]; decide
    obtain ⟨h0, haf, hl⟩ := base e1 e2
    rw [p_one_45 g45]
    refine g_call.i (c_X2_isOpened σ hx) (by omega) (fun rv s hq => ?_)
    obtain ⟨rfl, hx1, hf1⟩ := hq
    cases z with
    | true =>
      have hd0 := hz.mp rfl
      have hno : ¬ p_op p < 5 := by omega
      rw [if_neg hno] at hx1
      rw [if_neg hno]
      exact ⟨_, rfl, fun _ => ⟨rfl, hx1, hf1⟩, fun y => absurd rfl y⟩
    | false =>
      obtain ⟨d', rfl, m1, q1, -, -⟩ := hR rfl
      have hlt : p_op p < 5 := by omega
      rw [if_pos hlt] at hx1
      rw [if_pos hlt]
      have hp1 : p_ok n (p_open p (p_op p + 1)) := hp
      refine ⟨_, rfl, fun y => absurd y (by decide), fun _ => ?_⟩
      refine g_call.i (k_X2_next s hx1 haf e2 hbb) (by omega) (fun rv s2 hq => ?_)
      obtain ⟨rfl, hx2, hf2⟩ := hq
      have hpn := p_next_ok (b := b) hn hp1 e1 e2
      refine ⟨rfl, g_call.i (m1 s2 _ hx2 hpn.2.1 (show p_op p + 1 + d' = 5 by omega)) (by omega) (fun rv s3 hq => ?_)⟩
      obtain ⟨rfl, hx3, hf3⟩ := hq
      have hr := q1 _ hpn.2.1
      refine ⟨rfl, g_call.i (c_X2_write s3 hx3 (-15) (r_room (b := b) hn q1 hp1 e1 e2)) (by omega) (fun rv s4 hq => ?_)⟩
      obtain ⟨rfl, hx4, hf4⟩ := hq
      have hop4 : p_op (p_emit (rO (p_next (q_l b n) (p_open p (p_op p + 1)))) (-15)) = p_op p + 1 := hr.2.2.2
      obtain ⟨hx5, hf5⟩ := r_close hx4 (by omega)
      exact ⟨rfl, rfl, hx5, (((hf1.trans hf2).trans hf3).trans hf4).trans hf5⟩
  · have e1 : ¬ p_tk p = 1 := by rw [g40]; decide
    have e2 : ¬ p_tk p = 2 := by rw [g40]; decide
    obtain ⟨h0, haf, hl⟩ := base e1 e2
    rw [p_one_40 g40]
    refine g_call.i (c_X2_isOpened σ hx) (by omega) (fun rv s hq => ?_)
    obtain ⟨rfl, hx1, hf1⟩ := hq
    cases z with
    | true =>
      have hd0 := hz.mp rfl
      have hno : ¬ p_op p < 5 := by omega
      rw [if_neg hno] at hx1
      rw [if_neg hno]
      exact ⟨_, rfl, fun _ => ⟨rfl, hx1, hf1⟩, fun y => absurd rfl y⟩
    | false =>
      obtain ⟨d', rfl, -, -, m1, q1⟩ := hR rfl
      have hlt : p_op p < 5 := by omega
      rw [if_pos hlt] at hx1
      rw [if_pos hlt]
      have hp1 : p_ok n (p_open p (p_op p + 1)) := hp
      refine ⟨_, rfl, fun y => absurd y (by decide), fun _ => ?_⟩
      refine g_call.i (k_X2_next s hx1 haf e2 hbb) (by omega) (fun rv s2 hq => ?_)
      obtain ⟨rfl, hx2, hf2⟩ := hq
      have hpn := p_next_ok (b := b) hn hp1 e1 e2
      refine ⟨rfl, g_call.i (m1 s2 _ hx2 hpn.2.1 (show p_op p + 1 + d' = 5 by omega)) (by omega) (fun rv s3 hq => ?_)⟩
      obtain ⟨rfl, hx3, hf3⟩ := hq
      have hr := q1 _ hpn.2.1
      refine ⟨rfl, g_call.i (c_X2_need s3 hx3 hr.1 hbb 41 (by decide)) (by omega) (fun rv s4 hq => ?_)⟩
      obtain ⟨rfl, hx4, hf4⟩ := hq
      have hr2 := p_need_fine (b := b) hn (w := 41) (by decide) (by decide) _ hr.1
      have hop4 : p_op (p_need (q_l b n) 41 (rE (p_next (q_l b n) (p_open p (p_op p + 1))))) = p_op p + 1 := hr2.2.2.2.trans hr.2.2.2
      obtain ⟨hx5, hf5⟩ := r_close hx4 (by omega)
      exact ⟨rfl, rfl, hx5, (((hf1.trans hf2).trans hf3).trans hf4).trans hf5⟩
  · rw [p_one_f g3 gn g45 g40]
    refine g_call.i (c_X2_spoil σ hx) (by omega) (fun rv s hq => ?_)
    obtain ⟨rfl, hx1, hf1⟩ := hq
    exact ⟨rfl, rfl, hx1, hf1⟩
