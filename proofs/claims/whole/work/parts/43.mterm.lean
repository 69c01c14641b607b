/-! THE REFERENCE'S READER: term, added, not, both, either -/
theorem p_loop_out {t : pS → Bool} {f : pS → pS} {q : pS} (h : ¬ t q = true) : ∀ k, p_loop t f k q = q
  | 0 => rfl
  | k + 1 => by rw [p_loop, if_neg h]
/-- what a loop of the reader keeps -/
def m_li (b : gF) (n t : Nat) (nm : gF) (d : Nat) (σ : gS) (p : pS) (T : pS → Bool) (F : pS → pS) (R : pS) (k : Nat) (v : Int32) (s : gS) : Prop := ∃ q, g_mx b n t nm s q ∧ p_ok n q ∧ p_op q + d = 5 ∧ mrf σ s ∧ (p_fa q = none → n ≤ k + p_st q ∧ p_val nm p q v) ∧ p_loop T F k q = R
theorem m_li.z0 {b : gF} {n t : Nat} {nm : gF} {d : Nat} {σ s : gS} {p q : pS} {T : pS → Bool} {F : pS → pS} {v : Int32} (hn : n ≤ 160) (h1 : g_mx b n t nm s q) (hr : p_rel n p q) (hop : p_op p + d = 5) (hm : mrf σ s) (hv : p_fa q = none → p_val nm p q v) : m_li b n t nm d σ p T F (p_loop T F 160 q) 160 v s :=
  ⟨q, h1, hr.1, by rw [hr.2.2.2]; exact hop, hm, fun z => ⟨by omega, hv z⟩, rfl⟩
theorem m_li.zend {b : gF} {n t : Nat} {nm : gF} {σ s : gS} {p : pS} {T : pS → Bool} {F : pS → pS} {R q : pS} {k : Nat} {v : Int32} (h1 : g_mx b n t nm s q) (hm : mrf σ s) (hv : p_fa q = none → n ≤ k + p_st q ∧ p_val nm p q v) (hR : p_loop T F k q = R) (hT : ¬ T q = true) : ∃ r, some (Value.int v) = some (Value.int r) ∧ g_mx b n t nm s R ∧ mrf σ s ∧ (p_fa R = none → p_val nm p R r) := by
  rw [p_loop_out hT] at hR
  subst hR
  exact ⟨v, rfl, h1, hm, fun z => (hv z).2⟩
/-- a step: token taken, a part read, a sign written -/
theorem m_li.zstep {b : gF} {n t : Nat} {nm : gF} {d : Nat} {σ s s2 : gS} {p q : pS} {T : pS → Bool} {F f : pS → pS} {R : pS} {k : Nat} {v w c r : Int32} (hn : n ≤ 160) (hf : p_fine n f) (hop : p_op q + d = 5) (hp : p_ok n q) (hm : mrf σ s) (hv : p_fa q = none → n ≤ k + p_st q ∧ p_val nm p q v) (hR : p_loop T F k q = R) (hT : T q = true) (hF : F q = p_emit (f (p_next (q_l b n) q)) c) (h1 : ¬ p_tk q = 1) (h2 : ¬ p_tk q = 2) (k1 : g_mx b n t nm s2 (f (p_next (q_l b n) q))) (km : mrf s s2) (kv : p_fa (f (p_next (q_l b n) q)) = none → p_val nm (p_next (q_l b n) q) (f (p_next (q_l b n) q)) w) (hc : c < -6) (n14 : ¬ c = -14) (n15 : ¬ c = -15) (hr : e_bin c v w = r) : ∃ k', k' < k ∧ m_li b n t nm d σ p T F R k' r s2 := by
  have h0 : p_fa q = none := Decidable.of_not_not (fun y => h2 (hp.2 y))
  obtain ⟨hk, hval⟩ := hv h0
  obtain ⟨a1, a2, a3, a4⟩ := hp.1 h0
  have hlt := a4 h1 h2
  obtain ⟨k, rfl⟩ : ∃ k', k = k' + 1 := ⟨k - 1, by omega⟩
  rw [p_loop, if_pos hT, hF] at hR
  obtain ⟨s1', s2'⟩ := p_step (b := b) hn hf hp h1 h2 c
  refine ⟨k, by omega, p_emit (f (p_next (q_l b n) q)) c, k1, s1'.1, by rw [s1'.2.2.2]; exact hop, hm.ztrans km, fun z => ⟨?_, ?_⟩, hR⟩
  · have := (s2' z).1
    show n ≤ k + p_st (f (p_next (q_l b n) q))
    omega
  · rw [← hr]
    exact hval.bin (kv z) hc n14 n15
theorem k_term {b nm : gF} {n t d h1 H : Nat} (h18 : 10 ≤ h1) (hH : h1 + 1 ≤ H) {one : pS → pS} (hone : m_met yX8_atom cX8_atom 2 h1 b n t nm d one) (hfine : p_fine n one) (hn : n ≤ 160) : m_met yX8_term cX8_term 2 H b n t nm d (p_term (q_l b n) one) := by
  intro σ p hx hp hop
  refine w_X8_term (by omega) ?_
  unfold P_X8_term
  refine g_call.i (hone σ p hx hp hop) (by omega) (fun rv s1 hq => ?_)
  obtain ⟨r, rfl, k1, k2, k3⟩ := hq
  refine ⟨r, rfl, m_li b n t nm d σ p (fun q => decide (p_tk q = 42)) (fun q => p_emit (one (p_next (q_l b n) q)) (-9)) (p_term (q_l b n) one p), ⟨160, m_li.z0 hn k1 (hfine p hp) hop k2 k3⟩, fun k v s hI => ?_⟩
  obtain ⟨q, g1, g2, g3, g4, g5, g6⟩ := hI
  refine g_call.i (k_isSign (h := 6) (by omega) s g1 g2 (sg := 42) (by decide)) (by omega) (fun rv s2 hq => ?_)
  obtain ⟨rfl, rfl⟩ := hq
  by_cases e : p_tk q = 42
  · rw [if_pos e]
    have n1 : ¬ p_tk q = 1 := by rw [e]; decide
    have n2 : ¬ p_tk q = 2 := by rw [e]; decide
    refine ⟨_, rfl, fun z => absurd z (by decide), fun _ => g_call.i (k_nextx (h := 8) (by omega) s2 g1 g2 n1 n2) (by omega) (fun rv s3 hq => ?_)⟩
    obtain ⟨rfl, f1, f2⟩ := hq
    refine ⟨rfl, g_call.i (hone s3 _ f1 (p_next_ok (b := b) hn g2 n1 n2).2.1 g3) (by omega) (fun rv s4 hq => ?_)⟩
    obtain ⟨w, rfl, f3, f4, f5⟩ := hq
    exact ⟨w, rfl, m_li.zstep hn hfine g3 g2 g4 g5 g6 (decide_eq_true e) rfl n1 n2 f3 (f2.ztrans f4) f5 (by decide) (by decide) (by decide) (by simp [e_bin])⟩
  · rw [if_neg e]
    exact ⟨_, rfl, fun _ => m_li.zend g1 g4 g5 g6 (fun z => e (of_decide_eq_true z)), fun z => absurd rfl z⟩
theorem g_mx.worth {b nm : gF} {n t : Nat} {s : gS} {p : pS} (h : g_mx b n t nm s p) (hp : p_ok n p) {c : Int32} (hc : q_sign c = true) (e : p_tk p = c) : s 63 31 = c := by
  have n2 : ¬ p_tk p = 2 := fun z => by rw [← e, z] at hc; exact absurd hc (by decide)
  have h0 : p_fa p = none := Decidable.of_not_not (fun y => n2 (hp.2 y))
  obtain ⟨-, -, a2⟩ := h.2.2.1 h0
  rcases a2 with ⟨y, -⟩ | ⟨-, -, -, -, y⟩ | ⟨-, y, -⟩ | ⟨-, -, y, -⟩ | ⟨-, y⟩
  · have y' : p_tk p = 1 := y
    rw [← e, y'] at hc; exact absurd hc (by decide)
  · have y' : p_tk p = m_wcL (m_wl (q_l b n) (p_st p) (p_af p)) q_words 0 2 := y.trans (q_wcL _ _ _ _ _ _)
    rw [← e, y'] at hc; exact absurd hc q_sign_word
  · have y' : p_tk p = 3 := y
    rw [← e, y'] at hc; exact absurd hc (by decide)
  · exact (show s 63 31 = p_tk p from y).trans e
  · exact absurd y n2
theorem k_added {b nm : gF} {n t d h1 H : Nat} (h18 : 10 ≤ h1) (hH : h1 + 1 ≤ H) {term : pS → pS} (hone : m_met yX8_term cX8_term 2 h1 b n t nm d term) (hfine : p_fine n term) (hn : n ≤ 160) : m_met yX8_added cX8_added 4 H b n t nm d (p_sum (q_l b n) term) := by
  intro σ p hx hp hop
  refine w_X8_added (by omega) ?_
  unfold P_X8_added
  refine g_call.i (hone σ p hx hp hop) (by omega) (fun rv s1 hq => ?_)
  obtain ⟨r, rfl, k1, k2, k3⟩ := hq
  refine ⟨r, rfl, m_li b n t nm d σ p (fun q => decide (p_tk q = 43 ∨ p_tk q = 45)) (fun q => p_emit (term (p_next (q_l b n) q)) (if p_tk q = 43 then -7 else -8)) (p_sum (q_l b n) term p), ⟨160, m_li.z0 hn k1 (hfine p hp) hop k2 k3⟩, fun k v s hI => ?_⟩
  obtain ⟨q, g1, g2, g3, g4, g5, g6⟩ := hI
  refine g_call.i (k_isSign (h := 6) (by omega) s g1 g2 (sg := 43) (by decide)) (by omega) (fun rv s2 hq => ?_)
  obtain ⟨rfl, rfl⟩ := hq
  refine ⟨_, rfl, fun s3 => s3 = s2 ∧ (p_tk q = 43 ∨ p_tk q = 45), ⟨fun z => ?_, fun z => ?_⟩, fun s3 hJ => ?_⟩
  · have e43 : ¬ p_tk q = 43 := fun e => by rw [if_pos e] at z; exact absurd z (by decide)
    refine g_call.i (k_isSign (h := 6) (by omega) s2 g1 g2 (sg := 45) (by decide)) (by omega) (fun rv s4 hq => ?_)
    obtain ⟨rfl, rfl⟩ := hq
    by_cases e : p_tk q = 45
    · rw [if_pos e]
      exact ⟨_, rfl, fun z => absurd z (by decide), fun _ => ⟨rfl, Or.inr e⟩⟩
    · rw [if_neg e]
      exact ⟨_, rfl, fun _ => m_li.zend g1 g4 g5 g6 (fun z => (of_decide_eq_true z).elim e43 e), fun z => absurd rfl z⟩
  · exact ⟨rfl, Or.inl (Decidable.of_not_not (fun e => z (by rw [if_neg e])))⟩
  · obtain ⟨rfl, hor⟩ := hJ
    have n1 : ¬ p_tk q = 1 := hor.elim (fun e => by rw [e]; decide) (fun e => by rw [e]; decide)
    have n2 : ¬ p_tk q = 2 := hor.elim (fun e => by rw [e]; decide) (fun e => by rw [e]; decide)
    refine g_call.i (k_nextx (h := 8) (by omega) s3 g1 g2 n1 n2) (by omega) (fun rv s5 hq => ?_)
    obtain ⟨rfl, f1, f2⟩ := hq
    refine ⟨rfl, g_call.i (hone s5 _ f1 (p_next_ok (b := b) hn g2 n1 n2).2.1 g3) (by omega) (fun rv s6 hq => ?_)⟩
    obtain ⟨w, rfl, f3, f4, f5⟩ := hq
    refine ⟨w, rfl, ?_⟩
    by_cases e : p_tk q = 43
    · rw [g1.worth g2 (by decide) e, if_pos (by decide)]
      exact m_li.zstep hn hfine g3 g2 g4 g5 g6 (decide_eq_true hor) (c := -7) (by show p_emit _ (if p_tk q = 43 then -7 else -8) = _; rw [if_pos e]) n1 n2 f3 (f2.ztrans f4) f5 (by decide) (by decide) (by decide) (by simp [e_bin])
    · have e45 := hor.resolve_left e
      rw [g1.worth g2 (by decide) e45, if_neg (by decide)]
      exact m_li.zstep hn hfine g3 g2 g4 g5 g6 (decide_eq_true hor) (c := -8) (by show p_emit _ (if p_tk q = 43 then -7 else -8) = _; rw [if_neg e]) n1 n2 f3 (f2.ztrans f4) f5 (by decide) (by decide) (by decide) (by simp [e_bin])
theorem k_both {b nm : gF} {n t d h1 H : Nat} (h18 : 12 ≤ h1) (hH : h1 + 1 ≤ H) {den : pS → pS} (hone : m_met yX8_not cX8_not 4 h1 b n t nm d den) (hfine : p_fine n den) (hn : n ≤ 160) : m_met yX8_both cX8_both 3 H b n t nm d (p_both (q_l b n) den) := by
  intro σ p hx hp hop
  refine w_X8_both (by omega) ?_
  unfold P_X8_both
  refine g_call.i (hone σ p hx hp hop) (by omega) (fun rv s1 hq => ?_)
  obtain ⟨r, rfl, k1, k2, k3⟩ := hq
  refine ⟨r, rfl, m_li b n t nm d σ p (fun q => decide (p_tk q = 107)) (fun q => p_emit (den (p_next (q_l b n) q)) (-12)) (p_both (q_l b n) den p), ⟨160, m_li.z0 hn k1 (hfine p hp) hop k2 k3⟩, fun k v s hI => ?_⟩
  obtain ⟨q, g1, g2, g3, g4, g5, g6⟩ := hI
  refine g_call.i (k_isWord (h := 10) (by omega) s g1 g2 (j := 10) (by decide) rfl rfl rfl rfl rfl rfl rfl rfl) (by omega) (fun rv s2 hq => ?_)
  obtain ⟨rfl, rfl⟩ := hq
  by_cases e : p_tk q = nI (97 + 10)
  · rw [if_pos e]
    have n1 : ¬ p_tk q = 1 := by rw [e]; decide
    have n2 : ¬ p_tk q = 2 := by rw [e]; decide
    refine ⟨_, rfl, fun z => absurd z (by decide), fun _ => g_call.i (k_nextx (h := 8) (by omega) s2 g1 g2 n1 n2) (by omega) (fun rv s3 hq => ?_)⟩
    obtain ⟨rfl, f1, f2⟩ := hq
    refine ⟨rfl, g_call.i (hone s3 _ f1 (p_next_ok (b := b) hn g2 n1 n2).2.1 g3) (by omega) (fun rv s4 hq => ?_)⟩
    obtain ⟨w, rfl, f3, f4, f5⟩ := hq
    have stp : ∀ r, e_bin (-12) v w = r → _ := fun r hr => m_li.zstep (k := k) (v := v) (T := fun q => decide (p_tk q = 107)) (F := fun q => p_emit (den (p_next (q_l b n) q)) (-12)) (R := p_both (q_l b n) den p) (r := r) hn hfine g3 g2 g4 g5 g6 (decide_eq_true e) rfl n1 n2 f3 (f2.ztrans f4) f5 (by decide) (by decide) (by decide) hr
    refine ⟨w, rfl, fun z => stp 0 (by simp [e_bin, z]), fun z => stp _ ?_⟩
    by_cases zw : w = 0
    · simp [e_bin, zw]
    · simp [e_bin, z, zw]
  · rw [if_neg e]
    exact ⟨_, rfl, fun _ => m_li.zend g1 g4 g5 g6 (fun z => e (of_decide_eq_true z)), fun z => absurd rfl z⟩
theorem k_either {b nm : gF} {n t d h1 H : Nat} (h18 : 12 ≤ h1) (hH : h1 + 1 ≤ H) {both : pS → pS} (hone : m_met yX8_both cX8_both 3 h1 b n t nm d both) (hfine : p_fine n both) (hn : n ≤ 160) : m_met yX8_either cX8_either 3 H b n t nm d (p_eith (q_l b n) both) := by
  intro σ p hx hp hop
  refine w_X8_either (by omega) ?_
  unfold P_X8_either
  refine g_call.i (hone σ p hx hp hop) (by omega) (fun rv s1 hq => ?_)
  obtain ⟨r, rfl, k1, k2, k3⟩ := hq
  refine ⟨r, rfl, m_li b n t nm d σ p (fun q => decide (p_tk q = 106)) (fun q => p_emit (both (p_next (q_l b n) q)) (-13)) (p_eith (q_l b n) both p), ⟨160, m_li.z0 hn k1 (hfine p hp) hop k2 k3⟩, fun k v s hI => ?_⟩
  obtain ⟨q, g1, g2, g3, g4, g5, g6⟩ := hI
  refine g_call.i (k_isWord (h := 10) (by omega) s g1 g2 (j := 9) (by decide) rfl rfl rfl rfl rfl rfl rfl rfl) (by omega) (fun rv s2 hq => ?_)
  obtain ⟨rfl, rfl⟩ := hq
  by_cases e : p_tk q = nI (97 + 9)
  · rw [if_pos e]
    have n1 : ¬ p_tk q = 1 := by rw [e]; decide
    have n2 : ¬ p_tk q = 2 := by rw [e]; decide
    refine ⟨_, rfl, fun z => absurd z (by decide), fun _ => g_call.i (k_nextx (h := 8) (by omega) s2 g1 g2 n1 n2) (by omega) (fun rv s3 hq => ?_)⟩
    obtain ⟨rfl, f1, f2⟩ := hq
    refine ⟨rfl, g_call.i (hone s3 _ f1 (p_next_ok (b := b) hn g2 n1 n2).2.1 g3) (by omega) (fun rv s4 hq => ?_)⟩
    obtain ⟨w, rfl, f3, f4, f5⟩ := hq
    have stp : ∀ r, e_bin (-13) v w = r → _ := fun r hr => m_li.zstep (k := k) (v := v) (T := fun q => decide (p_tk q = 106)) (F := fun q => p_emit (both (p_next (q_l b n) q)) (-13)) (R := p_eith (q_l b n) both p) (r := r) hn hfine g3 g2 g4 g5 g6 (decide_eq_true e) rfl n1 n2 f3 (f2.ztrans f4) f5 (by decide) (by decide) (by decide) hr
    refine ⟨w, rfl, fun z => stp _ ?_, fun z => stp 1 (by simp [e_bin, z])⟩
    by_cases zw : w = 0
    · simp [e_bin, z, zw]
    · simp [e_bin, zw]
  · rw [if_neg e]
    exact ⟨_, rfl, fun _ => m_li.zend g1 g4 g5 g6 (fun z => e (of_decide_eq_true z)), fun z => absurd rfl z⟩
theorem k_not {b nm : gF} {n t d hD h1 H : Nat} (hD0 : 12 ≤ hD) (h18 : 12 ≤ h1) (hH : h1 + 1 ≤ H ∧ hD + 1 ≤ H) {z : Bool} {rD sum : pS → pS} (hz : z = true ↔ d = 0) (hD' : z = false → ∃ d', d = d' + 1 ∧ m_met yX8_not cX8_not 4 hD b n t nm d' rD ∧ p_fine n rD) (hS : m_met yX8_added cX8_added 4 h1 b n t nm d sum) (hSf : p_fine n sum) (hn : n ≤ 160) : m_met yX8_not cX8_not 4 H b n t nm d (p_den (q_l b n) z rD sum) := by
  intro σ p hx hp hop
  refine w_X8_not (by omega) ?_
  unfold P_X8_not
  refine g_call.i (k_isWord (h := 10) (by omega) σ hx hp (j := 11) (by decide) rfl rfl rfl rfl rfl rfl rfl rfl) (by omega) (fun rv s hq => ?_)
  obtain ⟨rfl, rfl⟩ := hq
  by_cases e : p_tk p = nI (97 + 11)
  · rw [if_pos e]
    have n1 : ¬ p_tk p = 1 := by rw [e]; decide
    have n2 : ¬ p_tk p = 2 := by rw [e]; decide
    have e108 : p_tk p = 108 := e
    refine ⟨_, rfl, fun y => absurd y (by decide), fun _ => g_call.i (k_opens (h := 10) (by omega) s hx hp n1 n2) (by omega) (fun rv s1 hq => ?_)⟩
    obtain ⟨rfl, g1, g2⟩ := hq
    cases hzz : z with
    | true =>
      have hd := hz.mp hzz
      have hlt : ¬ p_op p < 5 := by omega
      rw [if_neg hlt] at g1 ⊢
      refine ⟨_, rfl, fun _ => ⟨0, rfl, ?_, g2, fun y => ?_⟩, fun y => absurd rfl y⟩
      · rw [p_den, if_pos e108, if_pos rfl]; exact g1
      · rw [p_den, if_pos e108, if_pos rfl] at y; exact absurd y (p_fail_fa p)
    | false =>
      obtain ⟨d', hd, mD, fD⟩ := hD' hzz
      have hlt : p_op p < 5 := by omega
      rw [if_pos hlt] at g1 ⊢
      have hok := (p_next_ok (b := b) hn (p_open_ok hp (p_op p + 1)) n1 n2).2.1
      have hrel := fD _ hok
      refine ⟨_, rfl, fun y => absurd y (by decide), fun _ => g_call.i (mD s1 _ g1 hok (by show p_op p + 1 + d' = 5; omega)) (by omega) (fun rv s2 hq => ?_)⟩
      obtain ⟨r, rfl, k1, k2, k3⟩ := hq
      have eD : p_den (q_l b n) false rD sum p = (fun q => p_open q (p_op q - 1)) (p_emit (rD (p_next (q_l b n) (p_open p (p_op p + 1)))) (-14)) := by
        rw [p_den, if_pos e108, if_neg (show ¬ (false = true) by decide)]
      have hopq : p_op (rD (p_next (q_l b n) (p_open p (p_op p + 1)))) = p_op p + 1 := hrel.2.2.2
      refine ⟨r, rfl, _, rfl, ?_, (g2.ztrans k2).zup _ (by omega), ?_⟩
      · rw [eD]
        refine k1.zup32 (k := p_op (rD (p_next (q_l b n) (p_open p (p_op p + 1)))) - 1) (by omega) ?_
        rw [k1.2.1.1]
        exact pk_sub (b := 1) (by omega)
      · rw [eD]
        intro y
        have v1 : p_val nm (p_next (q_l b n) (p_open p (p_op p + 1))) (rD (p_next (q_l b n) (p_open p (p_op p + 1)))) r := k3 y
        exact (show p_val nm p _ r from v1).una (fun x => e_s14 nm r x)
  · rw [if_neg e]
    have e108 : ¬ p_tk p = 108 := e
    refine ⟨_, rfl, fun _ => g_call.i (hS s p hx hp hop) (by omega) (fun rv s1 hq => ?_), fun y => absurd rfl y⟩
    obtain ⟨v, rfl, k1, k2, k3⟩ := hq
    have hr := hSf p hp
    have eD : p_den (q_l b n) z rD sum p = if p_tk (sum p) = 60 ∨ p_tk (sum p) = 61 then p_emit (sum (p_next (q_l b n) (sum p))) (if p_tk (sum p) = 60 then -10 else -11) else sum p := by
      rw [p_den, if_neg e108]
    rw [eD]
    refine ⟨v, rfl, g_call.i (k_isSign (h := 6) (by omega) s1 k1 hr.1 (sg := 60) (by decide)) (by omega) (fun rv s2 hq => ?_)⟩
    obtain ⟨rfl, rfl⟩ := hq
    generalize hQ : sum p = Q at k1 k3 hr ⊢
    refine ⟨_, rfl, fun s3 => s3 = s2 ∧ (p_tk Q = 60 ∨ p_tk Q = 61), ⟨fun y => ?_, fun y => ?_⟩, fun s3 hJ => ?_⟩
    · have e60 : ¬ p_tk Q = 60 := fun e => by rw [if_pos e] at y; exact absurd y (by decide)
      refine g_call.i (k_isSign (h := 6) (by omega) s2 k1 hr.1 (sg := 61) (by decide)) (by omega) (fun rv s4 hq => ?_)
      obtain ⟨rfl, rfl⟩ := hq
      by_cases e61 : p_tk Q = 61
      · rw [if_pos e61]
        exact ⟨_, rfl, fun y => absurd y (by decide), fun _ => ⟨rfl, Or.inr e61⟩⟩
      · rw [if_neg e61, if_neg (fun y => y.elim e60 e61)]
        exact ⟨_, rfl, fun _ => ⟨v, rfl, k1, k2, k3⟩, fun y => absurd rfl y⟩
    · exact ⟨rfl, Or.inl (Decidable.of_not_not (fun e => y (by rw [if_neg e])))⟩
    · obtain ⟨rfl, hor⟩ := hJ
      rw [if_pos hor]
      have n1 : ¬ p_tk Q = 1 := hor.elim (fun e => by rw [e]; decide) (fun e => by rw [e]; decide)
      have n2 : ¬ p_tk Q = 2 := hor.elim (fun e => by rw [e]; decide) (fun e => by rw [e]; decide)
      refine g_call.i (k_nextx (h := 8) (by omega) s3 k1 hr.1 n1 n2) (by omega) (fun rv s5 hq => ?_)
      obtain ⟨rfl, f1, f2⟩ := hq
      have hokQ := (p_next_ok (b := b) hn hr.1 n1 n2).2.1
      refine ⟨rfl, g_call.i (hS s5 _ f1 hokQ (by show p_op Q + d = 5; rw [hr.2.2.2]; exact hop)) (by omega) (fun rv s6 hq => ?_)⟩
      obtain ⟨w, rfl, f3, f4, f5⟩ := hq
      have h0 : p_fa Q = none := (k1.at hr.1 n1 n2).1
      refine ⟨w, rfl, fun y => ?_, fun y => ?_⟩
      · have e60 : p_tk Q = 60 := by
          rcases hor with e | e
          · exact e
          · rw [k1.worth hr.1 (by decide) e] at y; exact absurd y (by decide)
        rw [if_pos e60]
        refine ⟨_, rfl, f3, (k2.ztrans f2).ztrans f4, fun y2 => ?_⟩
        have := (k3 h0).bin (show p_val nm Q _ w from f5 y2) (c := -10) (by decide) (by decide) (by decide)
        have ee : e_bin (-10) v w = if v < w then 1 else 0 := by simp [e_bin]
        rw [ee] at this
        exact this
      · have e60 : ¬ p_tk Q = 60 := fun e => y (by rw [k1.worth hr.1 (by decide) e]; decide)
        rw [if_neg e60]
        refine ⟨_, rfl, f3, (k2.ztrans f2).ztrans f4, fun y2 => ?_⟩
        have := (k3 h0).bin (show p_val nm Q _ w from f5 y2) (c := -11) (by decide) (by decide) (by decide)
        have ee : e_bin (-11) v w = if v = w then 1 else 0 := by simp [e_bin]
        rw [ee] at this
        exact this
