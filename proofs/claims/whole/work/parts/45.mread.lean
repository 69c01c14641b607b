/-! THE REFERENCE'S READER: part, read, says -/
theorem k_M_all {b nm : gF} {n t : Nat} (hn : n ≤ 160) : ∀ d, m_met yX8_atom cX8_atom 2 (14 + 8 * d) b n t nm d (p_lv (q_l b n) d).1 ∧ m_met yX8_not cX8_not 4 (17 + 8 * d) b n t nm d (p_lv (q_l b n) d).2.1 ∧ m_met yX8_either cX8_either 3 (19 + 8 * d) b n t nm d (p_lv (q_l b n) d).2.2
  | 0 => by
    have f1 := p_one_fine (b := b) hn true (rO := id) (rE := id) (fun z => by cases z) (fun z => by cases z)
    have f2 := p_term_fine (b := b) hn f1
    have f3 := p_sum_fine (b := b) hn f2
    have f4 := p_den_fine (b := b) hn true (rD := id) (fun z => by cases z) f3
    have f5 := p_both_fine (b := b) hn f4
    have m1 := k_atom (b := b) (nm := nm) (n := n) (t := t) (d := 0) (hO := 12) (hE := 12) (H := 14) (z := true) (rO := id) (rE := id) (by omega) (by omega) (by omega) ⟨fun _ => rfl, fun _ => rfl⟩ (fun z => by cases z) hn
    have m2 := k_term (H := 15) (by omega) (by omega) m1 f1 hn
    have m3 := k_added (H := 16) (by omega) (by omega) m2 f2 hn
    have m4 := k_not (hD := 12) (H := 17) (z := true) (rD := id) (by omega) (by omega) (by omega) ⟨fun _ => rfl, fun _ => rfl⟩ (fun z => by cases z) m3 f3 hn
    have m5 := k_both (H := 18) (by omega) (by omega) m4 f4 hn
    have m6 := k_either (H := 19) (by omega) (by omega) m5 f5 hn
    exact ⟨m1, m4, m6⟩
  | d + 1 => by
    obtain ⟨i1, i2, i3⟩ := k_M_all (b := b) (nm := nm) (t := t) hn d
    obtain ⟨j1, j2, j3⟩ := p_lv_fine (b := b) hn d
    have f1 := p_one_fine (b := b) hn false (fun _ => j1) (fun _ => j3)
    have f2 := p_term_fine (b := b) hn f1
    have f3 := p_sum_fine (b := b) hn f2
    have f4 := p_den_fine (b := b) hn false (fun _ => j2) f3
    have f5 := p_both_fine (b := b) hn f4
    have m1 := k_atom (d := d + 1) (H := 14 + 8 * (d + 1)) (z := false) (by omega) (by omega) (by omega) ⟨fun z => by (cases z), fun z => by omega⟩ (fun _ => ⟨d, rfl, i1, j1, i3, j3⟩) hn
    have m2 := k_term (H := 15 + 8 * (d + 1)) (by omega) (by omega) m1 f1 hn
    have m3 := k_added (H := 16 + 8 * (d + 1)) (by omega) (by omega) m2 f2 hn
    have m4 := k_not (d := d + 1) (H := 17 + 8 * (d + 1)) (z := false) (by omega) (by omega) (by omega) ⟨fun z => by (cases z), fun z => by omega⟩ (fun _ => ⟨d, rfl, i2, j2⟩) m3 f3 hn
    have m5 := k_both (H := 18 + 8 * (d + 1)) (by omega) (by omega) m4 f4 hn
    have m6 := k_either (H := 19 + 8 * (d + 1)) (by omega) (by omega) m5 f5 hn
    exact ⟨m1, m4, m6⟩
/-- behind a fault nothing more changes -/
theorem g_mx.zbad {b nm : gF} {n t : Nat} {s : gS} {p q : pS} (h : g_mx b n t nm s p) (h0 : ¬ p_fa p = none) (e : p_fa q = p_fa p) (eo : p_op q = p_op p) : g_mx b n t nm s q := by
  obtain ⟨h1, h2, h3, h4⟩ := h
  exact ⟨h1, by rw [eo]; exact h2, fun z => absurd (e.symm.trans z) h0, fun f z => h4 f (e.symm.trans z)⟩
theorem p_need_bad {l : Nat → Int32} {w : Int32} {p : pS} {n : Nat} (hp : p_ok n p) (h0 : ¬ p_fa p = none) (w2 : ¬ w = 2) : p_need l w p = p_fail p := by
  unfold p_need
  rw [if_neg (fun z => w2 (by rw [← z]; exact hp.2 h0))]
theorem p_fail_keep {p : pS} (h0 : ¬ p_fa p = none) : p_fa (p_fail p) = p_fa p := by
  show (match p_fa p with | none => some (p_st p) | some f => some f) = p_fa p
  cases hf : p_fa p with
  | none => exact absurd hf h0
  | some f => rfl
theorem g_mx.bad1 {b nm : gF} {n t : Nat} {s : gS} {p : pS} (h : g_mx b n t nm s p) (h0 : ¬ p_fa p = none) : s 63 33 = 1 := by
  cases hf : p_fa p with
  | none => exact absurd hf h0
  | some f => exact (h.2.2.2 f hf).1
theorem g_mx.bad0 {b nm : gF} {n t : Nat} {s : gS} {p : pS} (h : g_mx b n t nm s p) : s 63 33 = 0 ↔ p_fa p = none := by
  constructor
  · intro z
    cases hf : p_fa p with
    | none => rfl
    | some f =>
      have := (h.2.2.2 f hf).1
      rw [this] at z
      exact absurd z (by decide)
  · intro z
    exact (h.2.2.1 z).1
theorem k_part {b nm : gF} {n t : Nat} (hn : n ≤ 160) {h : Nat} (hh : 62 ≤ h) (σ : gS) {p : pS} (hx : g_mx b n t nm σ p) (hp : p_ok n p) (hop : p_op p = 0) (h0 : p_fa p = none) {key : Int32} (key1 : ¬ key = 1) (key2 : ¬ key = 2) {ik : Int32} (hik : ik = if p_tk p = key then 1 else 0) : g_Met yX8_part cX8_part 3 (some .int) h kM [.ref 63, .int ik] σ (fun rv s => ∃ r, rv = some (.int r) ∧ g_mx b n t nm s (p_part (q_l b n) key p) ∧ mrf σ s ∧ (p_fa (p_part (q_l b n) key p) = none → p_val nm p (p_part (q_l b n) key p) r)) := by
  subst hik
  refine w_X8_part (by omega) ?_
  unfold P_X8_part
  have mE := (k_M_all (b := b) (nm := nm) (t := t) hn 5).2.2
  have fE := (p_lv_fine (b := b) hn 5).2.2
  have e1 : p_part (q_l b n) key p = p_need (q_l b n) 59 ((p_lv (q_l b n) 5).2.2 (p_need (q_l b n) key p)) := rfl
  have nf := p_need_fine (b := b) hn key1 key2 p hp
  refine ⟨fun s => (p_tk p = key ∧ s = σ) ∨ (¬ p_tk p = key ∧ g_mx b n t nm s (p_fail p) ∧ mrf σ s), ⟨fun z => ?_, fun z => ?_⟩, fun s1 hJ => ?_⟩
  · have ek : ¬ p_tk p = key := fun e => by rw [if_pos e] at z; exact absurd z (by decide)
    refine g_call.i (k_fail (h := 6) (by omega) σ hx) (by omega) (fun rv s hq => ?_)
    obtain ⟨rfl, q1, q2⟩ := hq
    exact ⟨rfl, Or.inr ⟨ek, q1, q2⟩⟩
  · exact Or.inl ⟨Decidable.of_not_not (fun e => z (by rw [if_neg e])), rfl⟩
  have hneed : p_need (q_l b n) key p = if p_tk p = key then p_next (q_l b n) p else p_fail p := rfl
  refine ⟨fun s => g_mx b n t nm s (p_need (q_l b n) key p) ∧ mrf σ s, ⟨fun z => ?_, fun z => ?_⟩, fun s8 hJ8 => ?_⟩
  · rcases hJ with ⟨ek, rfl⟩ | ⟨ek, q1, q2⟩
    · refine g_call.i (k_nextx (h := 8) (by omega) s1 hx hp (by rw [ek]; exact key1) (by rw [ek]; exact key2)) (by omega) (fun rv s hq => ?_)
      obtain ⟨rfl, q1, q2⟩ := hq
      exact ⟨rfl, by rw [hneed, if_pos ek]; exact q1, q2⟩
    · exact absurd (q1.bad0.mp z) (p_fail_fa p)
  · rcases hJ with ⟨ek, rfl⟩ | ⟨ek, q1, q2⟩
    · exact absurd (hx.bad0.mpr h0) z
    · exact ⟨by rw [hneed, if_neg ek]; exact q1, q2⟩
  obtain ⟨g8, m8⟩ := hJ8
  generalize hQ1 : p_need (q_l b n) key p = Q1 at e1 nf g8
  have fE1 := fE Q1 nf.1
  generalize hQ2 : (p_lv (q_l b n) 5).2.2 Q1 = Q2 at e1 fE1
  have opQ1 : p_op Q1 = 0 := nf.2.2.2.trans hop
  refine ⟨fun v s => g_mx b n t nm s Q2 ∧ mrf σ s ∧ (p_fa Q2 = none → p_val nm Q1 Q2 v), ⟨fun z => ?_, fun z => ?_⟩, fun v s16 hJ16 => ?_⟩
  · refine g_call.i (mE s8 Q1 g8 nf.1 (by rw [opQ1])) (by omega) (fun rv s hq => ?_)
    obtain ⟨r, rfl, q1, q2, q3⟩ := hq
    rw [hQ2] at q1 q3
    exact ⟨r, rfl, q1, m8.ztrans q2, q3⟩
  · have hb : ¬ p_fa Q1 = none := fun y => z (g8.bad0.mpr y)
    have ef := fE1.2.1 hb
    exact ⟨g8.zbad hb ef fE1.2.2.2, m8, fun y => absurd (ef.symm.trans y) hb⟩
  obtain ⟨g16, m16, v16⟩ := hJ16
  have cdv : p_fa Q2 = none → p_val nm p Q2 v := fun y => by
    obtain ⟨c, hc1, hc2⟩ := v16 y
    refine ⟨c, ?_, hc2⟩
    rw [hc1]
    have yq1 := (fE1.2.2.1 y).1
    rw [← hQ1] at yq1 ⊢
    rw [(p_need_gv (b := b) hn key1 key2 p).2 yq1]
  refine g_call.i (k_isSign (h := 6) (by omega) s16 g16 fE1.1 (sg := 59) (by decide)) (by omega) (fun rv s hq => ?_)
  obtain ⟨rfl, rfl⟩ := hq
  have e2 : p_need (q_l b n) 59 Q2 = if p_tk Q2 = 59 then p_next (q_l b n) Q2 else p_fail Q2 := rfl
  rw [e1, e2]
  refine ⟨_, rfl, fun s4 => (p_tk Q2 = 59 ∧ s4 = s) ∨ (¬ p_tk Q2 = 59 ∧ g_mx b n t nm s4 (p_fail Q2) ∧ mrf s s4), ⟨fun y => ?_, fun y => ?_⟩, fun s4 hJ4 => ?_⟩
  · have t59 : ¬ p_tk Q2 = 59 := fun e => by rw [if_pos e] at y; exact absurd y (by decide)
    refine g_call.i (k_fail (h := 6) (by omega) s g16) (by omega) (fun rv s5 hq => ?_)
    obtain ⟨rfl, q1, q2⟩ := hq
    exact ⟨rfl, Or.inr ⟨t59, q1, q2⟩⟩
  · exact Or.inl ⟨Decidable.of_not_not (fun e => y (by rw [if_neg e])), rfl⟩
  · rcases hJ4 with ⟨t59, rfl⟩ | ⟨t59, q1, q2⟩
    · have m1 : ¬ p_tk Q2 = 1 := by rw [t59]; decide
      have m2 : ¬ p_tk Q2 = 2 := by rw [t59]; decide
      have h0' := (g16.at fE1.1 m1 m2).1
      rw [if_pos t59]
      refine ⟨fun _ => ?_, fun y => absurd (g16.bad0.mpr h0') y⟩
      refine g_call.i (k_nextx (h := 8) (by omega) s4 g16 fE1.1 m1 m2) (by omega) (fun rv s5 hq => ?_)
      obtain ⟨rfl, q1, q2⟩ := hq
      exact ⟨rfl, v, rfl, q1, m16.ztrans q2, fun _ => cdv h0'⟩
    · rw [if_neg t59]
      refine ⟨fun y => absurd (q1.bad0.mp y) (p_fail_fa Q2), fun _ => ⟨v, rfl, q1, m16.ztrans q2, fun y => absurd y (p_fail_fa Q2)⟩⟩
theorem p_part_fine {b : gF} {n : Nat} (hn : n ≤ 160) {key : Int32} (key1 : ¬ key = 1) (key2 : ¬ key = 2) : p_fine n (p_part (q_l b n) key) := by
  intro p hp
  have r1 := p_need_fine (b := b) hn key1 key2 p hp
  have r2 := r1.trans ((p_lv_fine (b := b) hn 5).2.2 _ r1.1)
  exact r2.trans (p_need_fine (b := b) hn (w := 59) (by decide) (by decide) _ r2.1)
theorem p_start_ok {b : gF} {n : Nat} (hn : n ≤ 160) : p_ok n (p_start (q_l b n)) := by
  obtain ⟨c1, c2, c3, c4⟩ := q_lex_pos (b := b) hn (Nat.zero_le n)
  exact ⟨fun _ => ⟨Nat.zero_le _, c2, c3, c4⟩, fun z => absurd rfl z⟩
theorem e_p1 (l : Nat → Int32) : p_part l 103 (p_start l) = p_1 l := rfl
theorem e_p2 (l : Nat → Int32) : p_part l 104 (p_1 l) = p_2 l := rfl
theorem e_p3 (l : Nat → Int32) : p_part l 105 (p_2 l) = p_3 l := rfl
theorem e_pe (l : Nat → Int32) : p_end l = if p_tk (p_3 l) = 1 then p_next l (p_3 l) else p_fail (p_3 l) := rfl
theorem p_next_fa (l : Nat → Int32) (p : pS) : p_fa (p_next l p) = p_fa p := rfl
theorem p_parts {b : gF} {n : Nat} (hn : n ≤ 160) : p_rel n (p_start (q_l b n)) (p_1 (q_l b n)) ∧ p_rel n (p_1 (q_l b n)) (p_2 (q_l b n)) ∧ p_rel n (p_2 (q_l b n)) (p_3 (q_l b n)) := by
  have a1 := p_part_fine (b := b) hn (key := 103) (by decide) (by decide) _ (p_start_ok (b := b) hn)
  have a2 := p_part_fine (b := b) hn (key := 104) (by decide) (by decide) _ a1.1
  have a3 := p_part_fine (b := b) hn (key := 105) (by decide) (by decide) _ a2.1
  rw [e_p1] at a1 a2 a3
  rw [e_p2] at a2 a3
  rw [e_p3] at a3
  exact ⟨a1, a2, a3⟩
/-- what read() leaves alone -/
def mfr (σ s : gS) : Prop := (∀ a, a ≠ 63 → s a = σ a) ∧ ∀ j, (j < 20 ∨ 34 < j) → s 63 j = σ 63 j
theorem mfr.zrefl (σ : gS) : mfr σ σ := ⟨fun _ _ => rfl, fun _ _ => rfl⟩
theorem mfr.ztrans {σ s u : gS} (h1 : mfr σ s) (h2 : mfr s u) : mfr σ u := ⟨fun a b => (h2.1 a b).trans (h1.1 a b), fun j b => (h2.2 j b).trans (h1.2 j b)⟩
theorem mfr.zup {σ s : gS} (h : mfr σ s) {j : Nat} (v : Int32) (hj : 20 ≤ j ∧ j ≤ 34) : mfr σ (g_up s 63 j v) := ⟨fun a ha => by rw [g_up_ne ha]; exact h.1 a ha, fun i hi => by rw [u_ne (by omega)]; exact h.2 i hi⟩
theorem mrf.zm {σ s : gS} (h : mrf σ s) : mfr σ s := ⟨h.1, fun j hj => h.2 j (by omega)⟩
/-- the bytes of text t -/
def mtx (b : gF) (n t : Nat) (s : gS) : Prop := t < 6 ∧ n ≤ 160 ∧ s 65 t = nI n ∧ (∀ i, i < n → s 64 (160 * t + i) = b i) ∧ ∀ i, i < n → g_in (b i) 0 255
theorem k_M_read {b nm : gF} {n t : Nat} {h : Nat} (hh : 64 ≤ h) (σ : gS) (hb : mtx b n t σ) (hnm : σ 63 20 = nm 0 ∧ σ 63 21 = nm 1 ∧ σ 63 22 = nm 2 ∧ σ 63 23 = nm 3 ∧ σ 63 24 = nm 4 ∧ σ 63 25 = nm 5) {te : Int32} (hte : te = nI t) {w : Nat} (hw : w < 3) : g_Met yX8_read cX8_read 6 (some .int) h kM [.ref 63, .int te, .int (nI w)] σ (fun rv s => ∃ r, rv = some (.int r) ∧ mfr σ s ∧ (p_fa (p_end (q_l b n)) = none → s 63 33 = 0 ∧ ∃ v0 v1 v2, p_val nm (p_start (q_l b n)) (p_1 (q_l b n)) v0 ∧ p_val nm (p_1 (q_l b n)) (p_2 (q_l b n)) v1 ∧ p_val nm (p_2 (q_l b n)) (p_3 (q_l b n)) v2 ∧ r = if w = 0 then v0 else if w = 1 then v1 else v2) ∧ ∀ f, p_fa (p_end (q_l b n)) = some f → s 63 33 = 1 ∧ s 63 34 = nI f) := by
  subst hte
  obtain ⟨ht6, hn, hsz, hby, h255⟩ := hb
  obtain ⟨r1, r2, r3⟩ := p_parts (b := b) hn
  have ok0 := p_start_ok (b := b) hn
  have e1 := e_p1 (q_l b n)
  have e2 := e_p2 (q_l b n)
  have e3 := e_p3 (q_l b n)
  have eend := e_pe (q_l b n)
  generalize p_end (q_l b n) = PE at eend ⊢
  generalize p_3 (q_l b n) = P3 at *
  generalize p_2 (q_l b n) = P2 at *
  generalize p_1 (q_l b n) = P1 at *
  refine w_X8_read (by omega) ?_
  unfold P_X8_read
  have m0 : mfr σ (g_up (g_up (g_up (g_up (g_up σ 63 26 (160 * nI t)) 63 27 (σ 65 t)) 63 28 0) 63 32 0) 63 33 0) := (((((mfr.zrefl σ).zup _ (by omega)).zup _ (by omega)).zup _ (by omega)).zup _ (by omega)).zup _ (by omega)
  refine ⟨t, rfl, ht6, ?_⟩
  have e160 : 160 * nI t = nI (160 * t) := pk_mul 160 t
  have hmb : mb b n t nm (g_up (g_up (g_up (g_up (g_up σ 63 26 (160 * nI t)) 63 27 (σ 65 t)) 63 28 0) 63 32 0) 63 33 0) := by
    refine ⟨⟨ht6, hn, by rw [u_ne (by decide), u_ne (by decide), u_ne (by decide), u_ne (by decide), u_eq, e160], by rw [u_ne (by decide), u_ne (by decide), u_ne (by decide), u_eq, hsz], fun i hi => by rw [m0.1 64 (by decide)]; exact hby i hi, h255⟩, ?_⟩
    obtain ⟨n0, n1, n2, n3, n4, n5⟩ := hnm
    have E : ∀ j, j < 26 → (g_up (g_up (g_up (g_up (g_up σ 63 26 (160 * nI t)) 63 27 (σ 65 t)) 63 28 0) 63 32 0) 63 33 0) 63 j = σ 63 j := fun j hj => by rw [u_ne (by omega), u_ne (by omega), u_ne (by omega), u_ne (by omega), u_ne (by omega)]
    exact ⟨by rw [E 20 (by decide)]; exact n0, by rw [E 21 (by decide)]; exact n1, by rw [E 22 (by decide)]; exact n2, by rw [E 23 (by decide)]; exact n3, by rw [E 24 (by decide)]; exact n4, by rw [E 25 (by decide)]; exact n5⟩
  refine g_call.i (k_M_next (h := 8) (by omega) _ hmb (A := 0) (by rw [u_ne (by decide), u_ne (by decide), u_eq]; rfl) (Nat.zero_le n)) (by omega) (fun rv s5 hq => ?_)
  obtain ⟨rfl, q1, q2, q3, q4, q5⟩ := hq
  have g0 : g_mx b n t nm s5 (p_start (q_l b n)) := ⟨hmb.zfr q2, ⟨q3.trans (by rw [u_ne (by decide), u_eq]; rfl), Nat.zero_le 5⟩, fun _ => ⟨q4.trans (u_eq _ _ _ _), q1⟩, fun f z => by cases z⟩
  have m5 := m0.ztrans q2.zm
  refine ⟨rfl, g_call.i (k_isWord (h := 10) (by omega) s5 g0 ok0 (j := 6) (by decide) rfl rfl rfl rfl rfl rfl rfl rfl) (by omega) (fun rv s6 hq => ?_)⟩
  obtain ⟨rfl, rfl⟩ := hq
  refine ⟨_, rfl, g_call.i (k_part hn (h := 62) (by omega) s6 g0 ok0 rfl rfl (key := 103) (by decide) (by decide) rfl) (by omega) (fun rv s7 hq => ?_)⟩
  obtain ⟨v0, rfl, g1', mm1, va1⟩ := hq
  rw [e1] at g1' va1
  have m7 := m5.ztrans mm1.zm
  have opr1 : p_op P1 = 0 := r1.2.2.2
  have opr2 : p_op P2 = 0 := r2.2.2.2.trans opr1
  have opr3 : p_op P3 = 0 := r3.2.2.2.trans opr2
  refine ⟨v0, rfl, fun v s => g_mx b n t nm s P2 ∧ mfr σ s ∧ (p_fa P2 = none → p_val nm P1 P2 v), ⟨fun z => ?_, fun z => ?_⟩, fun v1 s14 hJ => ?_⟩
  · have h0 := g1'.bad0.mp z
    refine g_call.i (k_isWord (h := 10) (by omega) s7 g1' r1.1 (j := 7) (by decide) rfl rfl rfl rfl rfl rfl rfl rfl) (by omega) (fun rv s8 hq => ?_)
    obtain ⟨rfl, rfl⟩ := hq
    refine ⟨_, rfl, g_call.i (k_part hn (h := 62) (by omega) s8 g1' r1.1 opr1 h0 (key := 104) (by decide) (by decide) rfl) (by omega) (fun rv s9 hq => ?_)⟩
    obtain ⟨v, rfl, g2, mm2, va2⟩ := hq
    rw [e2] at g2 va2
    exact ⟨v, rfl, g2, m7.ztrans mm2.zm, va2⟩
  · have hb : ¬ p_fa P1 = none := fun y => z (g1'.bad0.mpr y)
    have ef := r2.2.1 hb
    exact ⟨g1'.zbad hb ef r2.2.2.2, m7, fun y => absurd (ef.symm.trans y) hb⟩
  obtain ⟨g2, m14, va2⟩ := hJ
  refine ⟨fun v s => g_mx b n t nm s P3 ∧ mfr σ s ∧ (p_fa P3 = none → p_val nm P2 P3 v), ⟨fun z => ?_, fun z => ?_⟩, fun v2 s22 hJ => ?_⟩
  · have h0 := g2.bad0.mp z
    refine g_call.i (k_isWord (h := 10) (by omega) s14 g2 r2.1 (j := 8) (by decide) rfl rfl rfl rfl rfl rfl rfl rfl) (by omega) (fun rv s8 hq => ?_)
    obtain ⟨rfl, rfl⟩ := hq
    refine ⟨_, rfl, g_call.i (k_part hn (h := 62) (by omega) s8 g2 r2.1 opr2 h0 (key := 105) (by decide) (by decide) rfl) (by omega) (fun rv s9 hq => ?_)⟩
    obtain ⟨v, rfl, g3, mm3, va3⟩ := hq
    rw [e3] at g3 va3
    exact ⟨v, rfl, g3, m14.ztrans mm3.zm, va3⟩
  · have hb : ¬ p_fa P2 = none := fun y => z (g2.bad0.mpr y)
    have ef := r3.2.1 hb
    exact ⟨g2.zbad hb ef r3.2.2.2, m14, fun y => absurd (ef.symm.trans y) hb⟩
  obtain ⟨g3, m22, va3⟩ := hJ
  have good : p_fa PE = none → p_fa P3 = none ∧ p_tk P3 = 1 := by
    intro y
    rw [eend] at y
    by_cases e : p_tk P3 = 1
    · rw [if_pos e, p_next_fa] at y; exact ⟨y, e⟩
    · rw [if_neg e] at y; exact absurd y (p_fail_fa _)
  refine ⟨fun s => mfr σ s ∧ (p_fa PE = none → s 63 33 = 0) ∧ ∀ f, p_fa PE = some f → s 63 33 = 1 ∧ s 63 34 = nI f, ⟨fun z => ⟨fun z2 => ?_, fun z2 => ?_⟩, fun z => ?_⟩, fun s29 hJ => ?_⟩
  · have h0 := g3.bad0.mp z
    obtain ⟨-, -, a2⟩ := g3.2.2.1 h0
    have e : p_tk P3 = 1 := by
      rcases a2 with ⟨y, -⟩ | ⟨y, -⟩ | ⟨y, -⟩ | ⟨y, -⟩ | ⟨y, -⟩
      · exact y
      · rw [y] at z2; exact absurd z2 (by decide)
      · rw [y] at z2; exact absurd z2 (by decide)
      · rw [y] at z2; exact absurd z2 (by decide)
      · rw [y] at z2; exact absurd z2 (by decide)
    refine ⟨m22, fun _ => z, fun f y => ?_⟩
    rw [eend, if_pos e, p_next_fa, h0] at y
    cases y
  · have h0 := g3.bad0.mp z
    obtain ⟨-, -, a2⟩ := g3.2.2.1 h0
    have e : ¬ p_tk P3 = 1 := by
      intro e
      rcases a2 with ⟨-, y⟩ | ⟨-, -, -, -, y⟩ | ⟨-, y, -⟩ | ⟨-, y, -⟩ | ⟨-, y⟩
      · exact z2 y
      · have y' : p_tk P3 = m_wcL (m_wl (q_l b n) (p_st P3) (p_af P3)) q_words 0 2 := y.trans (q_wcL _ _ _ _ _ _)
        rw [e] at y'
        rcases m_wc_val (m_wl (q_l b n) (p_st P3) (p_af P3)) with x | ⟨k, hk, x⟩
        · rw [x] at y'; exact absurd y' (by decide)
        · rw [x] at y'; exact absurd ((n_eq (a := 1) (by omega) (by omega)).mp y') (by omega)
      · have y' : p_tk P3 = 3 := y
        rw [e] at y'; exact absurd y' (by decide)
      · have y' : q_sign (p_tk P3) = true := y
        rw [e] at y'; exact absurd y' (by decide)
      · have y' : p_tk P3 = 2 := y
        rw [e] at y'; exact absurd y' (by decide)
    refine g_call.i (k_fail (h := 6) (by omega) s22 g3) (by omega) (fun rv s hq => ?_)
    obtain ⟨rfl, k1, k2⟩ := hq
    refine ⟨rfl, m22.ztrans k2.zm, fun y => absurd (good y).2 e, fun f y => ?_⟩
    rw [eend, if_neg e] at y
    exact k1.2.2.2 f y
  · have hb : ¬ p_fa P3 = none := fun y => z (g3.bad0.mpr y)
    refine ⟨m22, fun y => absurd (good y).1 hb, fun f y => ?_⟩
    have e2 : p_tk P3 = 2 := r3.1.2 hb
    rw [eend, if_neg (by rw [e2]; decide), p_fail_keep hb] at y
    exact g3.2.2.2 f y
  · obtain ⟨m29, b29, f29⟩ := hJ
    have fin : ∀ r, r = (if w = 0 then v0 else if w = 1 then v1 else v2) → ∃ r', some (Value.int r) = some (Value.int r') ∧ mfr σ s29 ∧ (p_fa PE = none → s29 63 33 = 0 ∧ ∃ v0 v1 v2, p_val nm (p_start (q_l b n)) P1 v0 ∧ p_val nm P1 P2 v1 ∧ p_val nm P2 P3 v2 ∧ r' = if w = 0 then v0 else if w = 1 then v1 else v2) ∧ ∀ f, p_fa PE = some f → s29 63 33 = 1 ∧ s29 63 34 = nI f := by
      intro r hr
      refine ⟨r, rfl, m29, fun y => ⟨b29 y, v0, v1, v2, ?_, ?_, va3 (good y).1, hr⟩, f29⟩
      · exact va1 (r2.2.2.1 (r3.2.2.1 (good y).1).1).1
      · exact va2 (r3.2.2.1 (good y).1).1
    refine ⟨fun z => fin _ ?_, fun z => fin _ ?_⟩
    · rw [if_pos ((n_eq (b := 0) (by omega) (by omega)).mp z)]
    · have hw0 : ¬ w = 0 := fun y => z (by rw [y]; rfl)
      rw [if_neg hw0]
      by_cases hw1 : w = 1
      · rw [if_pos hw1, if_pos (by rw [hw1]; rfl)]
      · rw [if_neg hw1, if_neg (show ¬ nI w = 1 from fun y => hw1 ((n_eq (b := 1) (by omega) (by omega)).mp y))]
