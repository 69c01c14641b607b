/-! THE REFERENCE'S READER: name, atom, term .. either -/
def p_val (nm : gF) (p q : pS) (r : Int32) : Prop := ∃ c, p_cd q = p_cd p ++ c ∧ ∀ st, e_run nm c st = r :: st
theorem p_val.una {nm : gF} {p q : pS} {r r' c : Int32} (h : p_val nm p q r) (e : ∀ x, e_step nm c (r :: x) = r' :: x) : p_val nm p (p_emit q c) r' := by
  obtain ⟨c1, h1, h2⟩ := h
  refine ⟨c1 ++ [c], ?_, fun st => ?_⟩
  · show p_cd q ++ [c] = _
    rw [h1, List.append_assoc]
  · rw [e_app, h2 st]
    exact e _
theorem p_val.bin {nm : gF} {p q q2 : pS} {v w c : Int32} (h1 : p_val nm p q v) (h2 : p_val nm q q2 w) (hc : c < -6) (n14 : ¬ c = -14) (n15 : ¬ c = -15) : p_val nm p (p_emit q2 c) (e_bin c v w) := by
  obtain ⟨c1, a1, a2⟩ := h1
  obtain ⟨c2, b1, b2⟩ := h2
  refine ⟨c1 ++ c2 ++ [c], ?_, fun st => ?_⟩
  · show p_cd q2 ++ [c] = _
    rw [b1, a1, List.append_assoc, List.append_assoc, List.append_assoc]
  · rw [e_app, e_app, a2 st, b2]
    have hc0 : c < 0 := by
      rw [Int32.lt_iff_toInt_lt] at hc ⊢
      have e0 : (0 : Int32).toInt = 0 := rfl
      have e6 : (-6 : Int32).toInt = -6 := rfl
      omega
    exact e_sbin hc0 hc n14 n15 w v _
theorem k_name {h : Nat} (hh : 12 ≤ h) (σ : gS) {b nm : gF} {n t : Nat} {p : pS} (hx : g_mx b n t nm σ p) (hp : p_ok n p) : g_Met yX8_name cX8_name 1 (some .int) h kM [.ref 63] σ (fun rv s => ∃ r, rv = some (.int r) ∧ ((∃ j, j < 6 ∧ p_tk p = nI (97 + j) ∧ r = nm j ∧ s = σ) ∨ ((∀ j, j < 6 → ¬ p_tk p = nI (97 + j)) ∧ g_mx b n t nm s (p_fail p))) ∧ mrf σ s) := by
  obtain ⟨-, m0, m1, m2, m3, m4, m5⟩ := hx.1
  refine w_X8_name (by omega) ?_
  unfold P_X8_name
  have W : ∀ (j : Nat), j < 12 → ∀ {a0 a1 a2 a3 a4 a5 a6 a7 : Int32}, (q_words.getD j []).getD 0 0 = a0 → (q_words.getD j []).getD 1 0 = a1 → (q_words.getD j []).getD 2 0 = a2 → (q_words.getD j []).getD 3 0 = a3 → (q_words.getD j []).getD 4 0 = a4 → (q_words.getD j []).getD 5 0 = a5 → (q_words.getD j []).getD 6 0 = a6 → (q_words.getD j []).getD 7 0 = a7 → ∀ (R : Int32 → gS → Prop), (¬ p_tk p = nI (97 + j) → R 0 σ) → (p_tk p = nI (97 + j) → R 1 σ) → g_call yX8_isWord cX8_isWord 9 (some .boolean) kM h [.ref 63, .int a0, .int a1, .int a2, .int a3, .int a4, .int a5, .int a6, .int a7] σ (fun rv s1 => ∃ r3 : Int32, rv = some (.int r3) ∧ R r3 s1) := by
    intro j hj a0 a1 a2 a3 a4 a5 a6 a7 e0 e1 e2 e3 e4 e5 e6 e7 R h0 h1
    refine g_call.i (k_isWord (h := 10) (by omega) σ hx hp hj e0 e1 e2 e3 e4 e5 e6 e7) (by omega) (fun rv s hq => ?_)
    obtain ⟨rfl, rfl⟩ := hq
    by_cases z : p_tk p = nI (97 + j)
    · rw [if_pos z]; exact ⟨_, rfl, h1 z⟩
    · rw [if_neg z]; exact ⟨_, rfl, h0 z⟩
  have yes : ∀ (j : Nat), j < 6 → p_tk p = nI (97 + j) → ∀ x : Int32, x = nm j → ∃ r, some (Value.int x) = some (Value.int r) ∧ ((∃ j, j < 6 ∧ p_tk p = nI (97 + j) ∧ r = nm j ∧ σ = σ) ∨ ((∀ j, j < 6 → ¬ p_tk p = nI (97 + j)) ∧ g_mx b n t nm σ (p_fail p))) ∧ mrf σ σ := fun j hj e x ex => ⟨x, rfl, Or.inl ⟨j, hj, e, ex, rfl⟩, mrf.zrefl σ⟩
  refine W 0 (by decide) rfl rfl rfl rfl rfl rfl rfl rfl _ (fun g0 => ⟨fun _ => ?_, fun z => absurd rfl z⟩) (fun g => ⟨fun z => absurd z (by decide), fun _ => yes 0 (by decide) g _ m0⟩)
  refine W 1 (by decide) rfl rfl rfl rfl rfl rfl rfl rfl _ (fun g1 => ⟨fun _ => ?_, fun z => absurd rfl z⟩) (fun g => ⟨fun z => absurd z (by decide), fun _ => yes 1 (by decide) g _ m1⟩)
  refine W 2 (by decide) rfl rfl rfl rfl rfl rfl rfl rfl _ (fun g2 => ⟨fun _ => ?_, fun z => absurd rfl z⟩) (fun g => ⟨fun z => absurd z (by decide), fun _ => yes 2 (by decide) g _ m2⟩)
  refine W 3 (by decide) rfl rfl rfl rfl rfl rfl rfl rfl _ (fun g3 => ⟨fun _ => ?_, fun z => absurd rfl z⟩) (fun g => ⟨fun z => absurd z (by decide), fun _ => yes 3 (by decide) g _ m3⟩)
  refine W 4 (by decide) rfl rfl rfl rfl rfl rfl rfl rfl _ (fun g4 => ⟨fun _ => ?_, fun z => absurd rfl z⟩) (fun g => ⟨fun z => absurd z (by decide), fun _ => yes 4 (by decide) g _ m4⟩)
  refine W 5 (by decide) rfl rfl rfl rfl rfl rfl rfl rfl _ (fun g5 => ⟨fun _ => ?_, fun z => absurd rfl z⟩) (fun g => ⟨fun z => absurd z (by decide), fun _ => yes 5 (by decide) g _ m5⟩)
  refine g_call.i (k_fail (h := 6) (by omega) σ hx) (by omega) (fun rv s hq => ?_)
  obtain ⟨rfl, q1, q2⟩ := hq
  refine ⟨rfl, 0, rfl, Or.inr ⟨fun j hj => ?_, q1⟩, q2⟩
  match j, hj with
  | 0, _ => exact g0
  | 1, _ => exact g1
  | 2, _ => exact g2
  | 3, _ => exact g3
  | 4, _ => exact g4
  | 5, _ => exact g5
def m_met (y : MethodName) (c : ByteArray) (ml h : Nat) (b : gF) (n t : Nat) (nm : gF) (d : Nat) (f : pS → pS) : Prop := ∀ (σ : gS) (p : pS), g_mx b n t nm σ p → p_ok n p → p_op p + d = 5 → g_Met y c ml (some .int) h kM [.ref 63] σ (fun rv s => ∃ r, rv = some (.int r) ∧ g_mx b n t nm s (f p) ∧ mrf σ s ∧ (p_fa (f p) = none → p_val nm p (f p) r))
theorem p_fail_fa (p : pS) : ¬ p_fa (p_fail p) = none := by
  show ¬ (match p_fa p with | none => some (p_st p) | some f => some f) = none
  cases p_fa p <;> simp
theorem p_one_3 {l : Nat → Int32} {z : Bool} {rO rE : pS → pS} {p : pS} (h : p_tk p = 3) : p_one l z rO rE p = p_next l (p_emit p (p_num p)) := by rw [p_one, if_pos h]
theorem p_one_n {l : Nat → Int32} {z : Bool} {rO rE : pS → pS} {p : pS} (h : g_in (p_tk p) 97 102) : p_one l z rO rE p = p_next l (p_emit p (-1 - (p_tk p - 97))) := by
  rw [p_one, if_neg (fun e => by rw [e] at h; exact absurd h (by decide)), if_pos h]
theorem p_one_45 {l : Nat → Int32} {z : Bool} {rO rE : pS → pS} {p : pS} (h : p_tk p = 45) : p_one l z rO rE p = if z = true then p_fail p else (fun q => p_open q (p_op q - 1)) (p_emit (rO (p_next l (p_open p (p_op p + 1)))) (-15)) := by
  rw [p_one, if_neg (by rw [h]; decide), if_neg (by rw [h]; decide), if_pos h]
theorem p_one_40 {l : Nat → Int32} {z : Bool} {rO rE : pS → pS} {p : pS} (h : p_tk p = 40) : p_one l z rO rE p = if z = true then p_fail p else (fun q => p_open q (p_op q - 1)) (p_need l 41 (rE (p_next l (p_open p (p_op p + 1))))) := by
  rw [p_one, if_neg (by rw [h]; decide), if_neg (by rw [h]; decide), if_neg (by rw [h]; decide), if_pos h]
theorem p_one_f {l : Nat → Int32} {z : Bool} {rO rE : pS → pS} {p : pS} (h1 : ¬ p_tk p = 3) (h2 : ¬ g_in (p_tk p) 97 102) (h3 : ¬ p_tk p = 45) (h4 : ¬ p_tk p = 40) : p_one l z rO rE p = p_fail p := by
  rw [p_one, if_neg h1, if_neg h2, if_neg h3, if_neg h4]
theorem k_atom {b nm : gF} {n t d hO hE H : Nat} (hO0 : 12 ≤ hO) (hE0 : 12 ≤ hE) (hH : hO + 1 ≤ H ∧ hE + 1 ≤ H) {z : Bool} {rO rE : pS → pS} (hz : z = true ↔ d = 0) (hO : z = false → ∃ d', d = d' + 1 ∧ m_met yX8_atom cX8_atom 2 hO b n t nm d' rO ∧ p_fine n rO ∧ m_met yX8_either cX8_either 3 hE b n t nm d' rE ∧ p_fine n rE) (hn : n ≤ 160) : m_met yX8_atom cX8_atom 2 H b n t nm d (p_one (q_l b n) z rO rE) := by
  intro σ p hx hp hop
  refine w_X8_atom (by omega) ?_
  unfold P_X8_atom
  have failed : ∀ (hf : p_one (q_l b n) z rO rE p = p_fail p) (x : Int32) (s : gS), g_mx b n t nm s (p_fail p) → mrf σ s → ∃ r, some (Value.int x) = some (Value.int r) ∧ g_mx b n t nm s (p_one (q_l b n) z rO rE p) ∧ mrf σ s ∧ (p_fa (p_one (q_l b n) z rO rE p) = none → p_val nm p (p_one (q_l b n) z rO rE p) r) := by
    intro hf x s h1 h2
    rw [hf]
    exact ⟨x, rfl, h1, h2, fun y => absurd y (p_fail_fa p)⟩
  refine g_call.i (k_isSign (h := 6) (by omega) σ hx hp (sg := 45) (by decide)) (by omega) (fun rv s hq => ?_)
  obtain ⟨rfl, rfl⟩ := hq
  by_cases t45 : p_tk p = 45
  · rw [if_pos t45]
    refine ⟨_, rfl, fun y => absurd y (by decide), fun _ => ?_⟩
    have n1 : ¬ p_tk p = 1 := by rw [t45]; decide
    have n2 : ¬ p_tk p = 2 := by rw [t45]; decide
    refine g_call.i (k_opens (h := 10) (by omega) s hx hp n1 n2) (by omega) (fun rv s1 hq => ?_)
    obtain ⟨rfl, g1, g2⟩ := hq
    cases hzz : z with
    | true =>
      have hd := hz.mp hzz
      have hlt : ¬ p_op p < 5 := by omega
      rw [if_neg hlt] at g1 ⊢
      subst hzz
      exact ⟨_, rfl, fun _ => failed (by rw [p_one_45 t45, if_pos rfl]) 0 s1 g1 g2, fun y => absurd rfl y⟩
    | false =>
      obtain ⟨d', hd, mO, fO, -, -⟩ := hO hzz
      have hlt : p_op p < 5 := by omega
      rw [if_pos hlt] at g1 ⊢
      have hok := (p_next_ok (b := b) hn (p_open_ok hp (p_op p + 1)) n1 n2).2.1
      have hdeep := p_step (b := b) hn fO (p := p_open p (p_op p + 1)) hp n1 n2 (-15)
      have hrel := fO _ hok
      refine ⟨_, rfl, fun y => absurd y (by decide), fun _ => g_call.i (mO s1 _ g1 hok (by show p_op p + 1 + d' = 5; omega)) (by omega) (fun rv s2 hq => ?_)⟩
      obtain ⟨r, rfl, k1, k2, k3⟩ := hq
      refine ⟨r, rfl, -r, rfl, ?_, ?_, ?_⟩
      · rw [p_one_45 t45, if_neg (by decide)]
        have hopq : p_op (rO (p_next (q_l b n) (p_open p (p_op p + 1)))) = p_op p + 1 := hrel.2.2.2
        refine k1.zup32 (k := p_op (rO (p_next (q_l b n) (p_open p (p_op p + 1)))) - 1) (by omega) ?_
        rw [k1.2.1.1]
        exact pk_sub (b := 1) (by omega)
      · exact (g2.ztrans k2).zup _ (by omega)
      · rw [p_one_45 t45, if_neg (by decide)]
        intro y
        have v1 : p_val nm (p_next (q_l b n) (p_open p (p_op p + 1))) (rO (p_next (q_l b n) (p_open p (p_op p + 1)))) r := k3 y
        exact (show p_val nm p _ r from v1).una (fun x => e_s15 nm r x)
  rw [if_neg t45]
  refine ⟨_, rfl, fun _ => ?_, fun y => absurd rfl y⟩
  refine g_call.i (k_isSign (h := 6) (by omega) s hx hp (sg := 40) (by decide)) (by omega) (fun rv s' hq => ?_)
  obtain ⟨rfl, rfl⟩ := hq
  by_cases t40 : p_tk p = 40
  · rw [if_pos t40]
    refine ⟨_, rfl, fun y => absurd y (by decide), fun _ => ?_⟩
    have n1 : ¬ p_tk p = 1 := by rw [t40]; decide
    have n2 : ¬ p_tk p = 2 := by rw [t40]; decide
    refine g_call.i (k_opens (h := 10) (by omega) s' hx hp n1 n2) (by omega) (fun rv s1 hq => ?_)
    obtain ⟨rfl, g1, g2⟩ := hq
    cases hzz : z with
    | true =>
      have hd := hz.mp hzz
      have hlt : ¬ p_op p < 5 := by omega
      rw [if_neg hlt] at g1 ⊢
      subst hzz
      exact ⟨_, rfl, fun _ => failed (by rw [p_one_40 t40, if_pos rfl]) 0 s1 g1 g2, fun y => absurd rfl y⟩
    | false =>
      obtain ⟨d', hd, -, -, mE, fE⟩ := hO hzz
      have hlt : p_op p < 5 := by omega
      rw [if_pos hlt] at g1 ⊢
      have hok := (p_next_ok (b := b) hn (p_open_ok hp (p_op p + 1)) n1 n2).2.1
      have hrel := fE _ hok
      refine ⟨_, rfl, fun y => absurd y (by decide), fun _ => g_call.i (mE s1 _ g1 hok (by show p_op p + 1 + d' = 5; omega)) (by omega) (fun rv s2 hq => ?_)⟩
      obtain ⟨r, rfl, k1, k2, k3⟩ := hq
      refine ⟨r, rfl, g_call.i (k_isSign (h := 6) (by omega) s2 k1 hrel.1 (sg := 41) (by decide)) (by omega) (fun rv s3 hq => ?_)⟩
      obtain ⟨rfl, rfl⟩ := hq
      have k3' : p_fa (rE (p_next (q_l b n) (p_open p (p_op p + 1)))) = none → p_val nm p (rE (p_next (q_l b n) (p_open p (p_op p + 1)))) r := k3
      have hopq : p_op (rE (p_next (q_l b n) (p_open p (p_op p + 1)))) = p_op p + 1 := hrel.2.2.2
      rw [p_one_40 t40, if_neg (show ¬ (false = true) by decide)]
      generalize hQ : rE (p_next (q_l b n) (p_open p (p_op p + 1))) = Q at k1 k3' hrel hopq ⊢
      have mfr := g2.ztrans k2
      refine ⟨_, rfl, fun s4 => (p_tk Q = 41 ∧ s4 = s3) ∨ (¬ p_tk Q = 41 ∧ g_mx b n t nm s4 (p_fail Q) ∧ mrf s3 s4), ⟨fun y => ?_, fun y => ?_⟩, fun s4 hJ => ?_⟩
      · have t41 : ¬ p_tk Q = 41 := fun e => by rw [if_pos e] at y; exact absurd y (by decide)
        refine g_call.i (k_fail (h := 6) (by omega) s3 k1) (by omega) (fun rv s5 hq => ?_)
        obtain ⟨rfl, q1, q2⟩ := hq
        exact ⟨rfl, Or.inr ⟨t41, q1, q2⟩⟩
      · have t41 : p_tk Q = 41 := Decidable.of_not_not (fun e => y (by rw [if_neg e]))
        exact Or.inl ⟨t41, rfl⟩
      · rcases hJ with ⟨t41, rfl⟩ | ⟨t41, q1, q2⟩
        · have m1 : ¬ p_tk Q = 1 := by rw [t41]; decide
          have m2 : ¬ p_tk Q = 2 := by rw [t41]; decide
          have h0 := (k1.at hrel.1 m1 m2).1
          refine ⟨fun _ => ?_, fun y => absurd (k1.2.2.1 h0).1 y⟩
          have kk : g_mx b n t nm (g_up s4 63 32 (s4 63 32 - 1)) (p_open Q (p_op Q - 1)) := k1.zup32 (by omega) (by rw [k1.2.1.1]; exact pk_sub (b := 1) (by omega))
          refine g_call.i (k_nextx (h := 8) (by omega) _ kk (p_open_ok hrel.1 _) m1 m2) (by omega) (fun rv s5 hq => ?_)
          obtain ⟨rfl, q1, q2⟩ := hq
          refine ⟨rfl, r, rfl, ?_, (mfr.zup _ (by omega)).ztrans q2, fun y => ?_⟩
          · unfold p_need
            rw [if_pos t41]
            exact q1
          · unfold p_need
            rw [if_pos t41]
            exact k3' h0
        · have hb : s4 63 33 = 1 := by
            cases hfa : p_fa (p_fail Q) with
            | none => exact absurd hfa (p_fail_fa Q)
            | some f => exact (q1.2.2.2 f hfa).1
          refine ⟨fun y => absurd (hb.symm.trans y) (by decide), fun _ => ⟨r, rfl, ?_, (mfr.ztrans q2).zup _ (by omega), fun y => ?_⟩⟩
          · unfold p_need
            rw [if_neg t41]
            refine q1.zup32 (k := p_op (p_fail Q) - 1) (by show p_op Q - 1 ≤ 5; omega) ?_
            rw [q1.2.1.1]
            exact pk_sub (b := 1) (by show 1 ≤ p_op Q; omega)
          · unfold p_need at y
            rw [if_neg t41] at y
            exact absurd y (p_fail_fa Q)
  rw [if_neg t40]
  refine ⟨_, rfl, fun _ => ?_, fun y => absurd rfl y⟩
  -- a number, a name, or a fault
  refine ⟨¬ p_tk p = 3, ⟨fun hb => ⟨fun k2 => ?_, fun k2 => ?_⟩, fun hb => ?_⟩, fun hn3 => ?_⟩
  · -- number
    have h0 : p_fa p = none := by
      cases hfa : p_fa p with
      | none => rfl
      | some f => have := (hx.2.2.2 f hfa).1; rw [this] at hb; exact absurd hb (by decide)
    obtain ⟨-, -, a2⟩ := hx.2.2.1 h0
    rcases a2 with ⟨-, y⟩ | ⟨y, -⟩ | ⟨-, b1, b2, b3, b4⟩ | ⟨y, -⟩ | ⟨y, -⟩
    · rw [y] at k2; exact absurd k2 (by decide)
    · rw [y] at k2; exact absurd k2 (by decide)
    · have t3 : p_tk p = 3 := b1
      have n1 : ¬ p_tk p = 1 := by rw [t3]; decide
      have n2 : ¬ p_tk p = 2 := by rw [t3]; decide
      have b2' : s' 63 31 = p_num p := b2
      have b4' : ¬ p_num p < 0 := b4
      refine g_call.i (k_nextx (h := 8) (by omega) s' hx hp n1 n2) (by omega) (fun rv s1 hq => ?_)
      obtain ⟨rfl, q1, q2⟩ := hq
      have e64 : Int64.toInt32 (Int32.toInt64 (s' 63 31)) = p_num p := by
        rw [b2']
        obtain ⟨j, hj, e⟩ := nI_of b4'
        rw [e, nI_l hj, lN_i]
      rw [e64, p_one_3 t3]
      refine ⟨rfl, p_num p, rfl, q1, q2, fun _ => ⟨[p_num p], rfl, fun st => ?_⟩⟩
      rw [e_run, e_run]
      unfold e_step
      rw [if_pos b4']
    · rw [y] at k2; exact absurd k2 (by decide)
    · rw [y] at k2; exact absurd k2 (by decide)
  · intro e3
    have n2 : ¬ p_tk p = 2 := by rw [e3]; decide
    have h0 : p_fa p = none := Decidable.of_not_not (fun y => n2 (hp.2 y))
    obtain ⟨-, -, a2⟩ := hx.2.2.1 h0
    rcases a2 with ⟨y, -⟩ | ⟨-, -, -, -, y⟩ | ⟨y, -⟩ | ⟨-, y, -⟩ | ⟨-, y⟩
    · have y' : p_tk p = 1 := y
      rw [e3] at y'; exact absurd y' (by decide)
    · have y' : p_tk p = m_wcL (m_wl (q_l b n) (p_st p) (p_af p)) q_words 0 2 := y.trans (q_wcL _ _ _ _ _ _)
      rw [e3] at y'
      rcases m_wc_val (m_wl (q_l b n) (p_st p) (p_af p)) with w | ⟨k, hk, w⟩
      · rw [w] at y'; exact absurd y' (by decide)
      · rw [w] at y'; exact absurd ((n_eq (a := 3) (by omega) (by omega)).mp y') (by omega)
    · exact k2 y
    · have y' : q_sign (p_tk p) = true := y
      rw [e3] at y'; exact absurd y' (by decide)
    · exact n2 y
  · intro e3
    have n2 : ¬ p_tk p = 2 := by rw [e3]; decide
    have h0 : p_fa p = none := Decidable.of_not_not (fun y => n2 (hp.2 y))
    exact hb (hx.2.2.1 h0).1
  · have fin : ¬ g_in (p_tk p) 97 102 → p_one (q_l b n) z rO rE p = p_fail p := fun hg => p_one_f hn3 hg t45 t40
    have gin : ∀ j, j < 6 → p_tk p = nI (97 + j) → g_in (p_tk p) 97 102 := fun j hj e => by
      rw [e]
      exact (n_in (lo := 97) (hi := 102) (by omega) (by omega) (by omega)).mpr (by omega)
    have gout : (∀ j, j < 6 → ¬ p_tk p = nI (97 + j)) → ¬ g_in (p_tk p) 97 102 := fun hno hg => by
      obtain ⟨a, ha, e⟩ := n_of (x := p_tk p) (M := 102) ⟨fun y => by
        have h1 := hg.1
        rw [Int32.lt_iff_toInt_lt] at y h1
        have e0 : (0 : Int32).toInt = 0 := rfl
        have e97 : (97 : Int32).toInt = 97 := rfl
        omega, hg.2⟩ (by decide)
      rw [e] at hg
      have := (n_in (lo := 97) (hi := 102) (by omega) (by omega) (by omega)).mp hg
      exact hno (a - 97) (by omega) (by rw [e, show 97 + (a - 97) = a by omega])
    refine ⟨∀ j, j < 6 → ¬ p_tk p = nI (97 + j), ⟨fun hb => ⟨fun k1 => ?_, fun k1 => ?_⟩, fun hb => ?_⟩, fun hno => ?_⟩
    · refine g_call.i (k_name (h := 12) (by omega) s' hx hp) (by omega) (fun rv s1 hq => ?_)
      obtain ⟨r, rfl, hr, hm⟩ := hq
      rcases hr with ⟨j, hj, ej, er, rfl⟩ | ⟨hno, q1⟩
      · have hg := gin j hj ej
        have n1 : ¬ p_tk p = 1 := fun e => by rw [e] at hg; exact absurd hg (by decide)
        have n2 : ¬ p_tk p = 2 := fun e => by rw [e] at hg; exact absurd hg (by decide)
        refine ⟨r, rfl, fun _ => g_call.i (k_nextx (h := 8) (by omega) s1 hx hp n1 n2) (by omega) (fun rv s2 hq => ?_), fun y => absurd hb y⟩
        obtain ⟨rfl, q1, q2⟩ := hq
        rw [p_one_n hg]
        refine ⟨rfl, r, rfl, q1, q2, fun _ => ⟨[-1 - (p_tk p - 97)], rfl, fun st => ?_⟩⟩
        have hc : -1 - (p_tk p - 97) = -1 - nI j := by
          rw [ej]
          have : nI (97 + j) - 97 = nI j := (pk_sub (a := 97 + j) (b := 97) (by omega)).trans (by rw [show 97 + j - 97 = j by omega])
          rw [this]
        rw [hc, er, e_run, e_run]
        have H : ∀ j : Fin 6, ((-1 - nI j.val : Int32) < 0) ∧ ¬ ((-1 - nI j.val : Int32) < -6) ∧ ix (-1 - (-1 - nI j.val)) = j.val := by decide
        obtain ⟨c1, c2, c3⟩ := H ⟨j, hj⟩
        unfold e_step
        rw [if_neg (not_not_intro c1), if_pos c2]
        have c3' : ix (-1 - (-1 - nI j)) = j := c3
        rw [c3']
      · have hbad : s1 63 33 = 1 := by
          cases hfa : p_fa (p_fail p) with
          | none => exact absurd hfa (p_fail_fa p)
          | some f => exact (q1.2.2.2 f hfa).1
        exact ⟨r, rfl, fun y => absurd (hbad.symm.trans y) (by decide), fun _ => failed (fin (gout hno)) r s1 q1 hm⟩
    · intro j hj e
      have hg := gin j hj e
      have n2 : ¬ p_tk p = 2 := fun e => by rw [e] at hg; exact absurd hg (by decide)
      have h0 : p_fa p = none := Decidable.of_not_not (fun y => n2 (hp.2 y))
      obtain ⟨-, -, a2⟩ := hx.2.2.1 h0
      rcases a2 with ⟨y, -⟩ | ⟨y, -⟩ | ⟨-, y, -⟩ | ⟨-, y, -⟩ | ⟨-, y⟩
      · have y' : p_tk p = 1 := y
        rw [y'] at hg; exact absurd hg (by decide)
      · exact k1 y
      · exact hn3 y
      · have y' : q_sign (p_tk p) = true := y
        rw [e] at y'
        have H : ∀ k : Fin 6, ¬ q_sign (nI (97 + k.val)) = true := by decide
        exact H ⟨j, hj⟩ y'
      · exact n2 y
    · intro j hj e
      have hg := gin j hj e
      have n2 : ¬ p_tk p = 2 := fun e => by rw [e] at hg; exact absurd hg (by decide)
      have h0 : p_fa p = none := Decidable.of_not_not (fun y => n2 (hp.2 y))
      exact hb (hx.2.2.1 h0).1
    · refine g_call.i (k_fail (h := 6) (by omega) s' hx) (by omega) (fun rv s1 hq => ?_)
      obtain ⟨rfl, q1, q2⟩ := hq
      exact ⟨rfl, failed (fin (gout hno)) 0 s1 q1 q2⟩
