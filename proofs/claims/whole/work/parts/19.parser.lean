/-! THE CLASS'S PARSER -/
/-- a method of the reader does f, at depth d -/
def r_met (y : MethodName) (c : ByteArray) (ml h : Nat) (b : Nat → Int32) (n t d : Nat) (f : pS → pS) : Prop := ∀ (σ : gS) (p : pS), g_rx b n t σ p → p_ok n p → p_op p + d = 5 → g_Met y c ml none h kR [.ref 19] σ (fun rv s => rv = none ∧ g_rx b n t s (f p) ∧ r_fr t σ s)
/-- a sign has room behind a token -/
theorem r_room {b : Nat → Int32} {n : Nat} (hn : n ≤ 160) {f : pS → pS} (hf : p_fine n f) {p : pS} (h : p_ok n p) (h1 : ¬ p_tk p = 1) (h2 : ¬ p_tk p = 2) : p_fa (f (p_next (q_l b n) p)) = none → (p_cd (f (p_next (q_l b n) p))).length < 160 := fun z => Nat.lt_of_lt_of_le ((p_step (b := b) hn hf h h1 h2 0).2 z).2 hn
set_option maxHeartbeats 4000000 in
set_option maxRecDepth 100000 in
theorem lp_term {X : gX} {G : gG} {K : List Nat} {σ : gS} {b : Nat → Int32} {n t d h1 : Nat} (h18 : 8 ≤ h1) (hbb : ∀ k, k < n → g_in (b k) 0 255) {one : pS → pS} (hone : r_met yX2_one cX2_one 1 h1 b n t d one) (hfine : p_fine n one) {R : pS} (C : gC X G K kR 2 cX2_term (g_RX 2) none (h1 + 1)) : ∀ (k : Nat) (v : Nat) (s : gS) (q : pS), (v + k = 160) → (g_rx b n t s q) → (p_ok n q) → (p_op q + d = 5) → (r_fr t σ s) → (p_loop (fun q => decide (p_tk q = 42)) (fun q => p_emit (one (p_next (q_l b n) q)) (-9)) k q = R) → gV X G K 2 (fun rv u => rv = none ∧ g_rx b n t u R ∧ r_fr t σ u) s [some (.ref 19), some (.int (nI v))] [] 6 := by
  intro k
  induction k with
  | zero =>
    intro v s q hk hx hp hop hfr hR
    have hlt : ¬ nI v < 160 := nI_nltL (a := v) (b := 160) (by omega) (by omega)
    refine V_blk C (pc' := 10) (σ' := s) (L' := [some (.ref 19), some (.int (nI v))]) (st' := [.int 160, .int (nI v)]) (g_c dX2_term_6 (g_c dX2_term_7 g_n)) rfl rfl ?_
    refine V_icmp_ge2 C (tgt := 42) dX2_term_10 (by decide) (fun h10 => ?_) (fun h10 => absurd h10 hlt)
    refine V_vret C dX2_term_42 ?_
    have e : q = R := hR
    subst e
    exact ⟨rfl, hx, hfr⟩
  | succ k ih =>
    intro v s q hk hx hp hop hfr hR
    have hlt : nI v < 160 := nI_ltL (b := 160) (by omega) (by omega)
    have htk := hx.2.1.1
    have hby : ∀ k, k < n → g_in (s 20 k) 0 255 := fun k hk => by rw [hx.1.2.2.2.2 k hk]; exact hbb k hk
    refine V_blk C (pc' := 10) (σ' := s) (L' := [some (.ref 19), some (.int (nI v))]) (st' := [.int 160, .int (nI v)]) (g_c dX2_term_6 (g_c dX2_term_7 g_n)) rfl rfl ?_
    refine V_icmp_ge2 C (tgt := 42) dX2_term_10 (by decide) (fun h10 => absurd hlt h10) (fun h10 => ?_)
    refine V_blk C (pc' := 19) (σ' := s) (L' := [some (.ref 19), some (.int (nI v))]) (st' := [.int 42, .int (s 19 5)]) (g_c dX2_term_13 (g_c dX2_term_14 (g_c dX2_term_17 g_n))) rfl rfl ?_
    refine V_icmp_ne C (tgt := 42) dX2_term_19 (by decide) (fun h19 => ?_) (fun h19 => ?_)
    · skip
      have et : ¬ p_tk q = 42 := fun z => h19 (htk.trans z)
      rw [p_loop, if_neg (fun z => et (of_decide_eq_true z))] at hR
      refine V_vret C dX2_term_42 ?_
      subst hR
      exact ⟨rfl, hx, hfr⟩
    · skip
      have et : p_tk q = 42 := htk.symm.trans h19
      have h1t : ¬ p_tk q = 1 := by rw [et]; decide
      have h2 : ¬ p_tk q = 2 := by rw [et]; decide
      have hafn : p_af q ≤ n := (hp.1 (Decidable.of_not_not (fun z => h2 (hp.2 z)))).2.2.1
      rw [p_loop, if_pos (decide_eq_true et)] at hR
      refine V_blk C (pc' := 23) (σ' := s) (L' := [some (.ref 19), some (.int (nI v))]) (st' := [.ref 19]) (g_c dX2_term_22 g_n) rfl rfl ?_
      refine V_callV C cv_X2_41 (c_X2_next0 s hx.1.2.2.1 hx.1.1 hby hafn (hx.at h2)) ⟨_, _, _, _, rfl, rfl⟩ (by rfl) (by omega) (by decide) (fun _ h => h) (As := []) (rest := []) rfl rfl (Nat.le_of_ble_eq_true rfl) dX2_term_23 (fun rv s1 hq => ?_)
      obtain ⟨rfl, hlx⟩ := hq
      obtain ⟨hx1, hf1⟩ := r_next hx hp h2 hlx
      have hpn := (p_next_ok (b := b) hx.1.1 hp h1t h2).2.1
      refine V_blk C (pc' := 27) (σ' := s1) (L' := [some (.ref 19), some (.int (nI v))]) (st' := [.ref 19]) (g_c dX2_term_26 g_n) rfl rfl ?_
      refine V_callV C cv_X2_76 (hone s1 (p_next (q_l b n) q) hx1 hpn hop) ⟨_, _, _, _, rfl, rfl⟩ (by rfl) (by omega) (by decide) (fun _ h => h) (As := []) (rest := []) rfl rfl (Nat.le_of_ble_eq_true rfl) dX2_term_27 (fun rv s2 hq2 => ?_)
      obtain ⟨rfl, hx2, hf2⟩ := hq2
      refine V_blk C (pc' := 33) (σ' := s2) (L' := [some (.ref 19), some (.int (nI v))]) (st' := [.int (-9), .ref 19]) (g_c dX2_term_30 (g_c dX2_term_31 g_n)) rfl rfl ?_
      refine V_callV C cv_X2_60 (c_X2_write s2 hx2 ((-9)) (r_room (b := b) hx.1.1 hfine hp h1t h2)) ⟨_, _, _, _, rfl, rfl⟩ (by rfl) (by omega) (by decide) (fun _ h => h) (As := [.int (-9)]) (rest := []) rfl rfl (Nat.le_of_ble_eq_true rfl) dX2_term_33 (fun rv s3 hq3 => ?_)
      obtain ⟨rfl, hx3, hf3⟩ := hq3
      refine V_blk C (pc' := 39) (σ' := s3) (L' := [some (.ref 19), some (.int ((nI v) + 1))]) (st' := []) (g_c dX2_term_36 g_n) rfl rfl ?_
      refine V_goto C (tgt := 6) dX2_term_39 (by decide) ?_
      have hst := p_step (b := b) hx.1.1 hfine hp h1t h2 ((-9))
      refine V_eq rfl (by rw [nI_1]) rfl (ih (v + 1) s3 _ (by omega) hx3 hst.1.1 (by rw [hst.1.2.2.2]; exact hop) (((hfr.trans hf1).trans hf2).trans hf3) hR)
theorem c_term {b : Nat → Int32} {n t d h1 : Nat} (h18 : 8 ≤ h1) (hbb : ∀ k, k < n → g_in (b k) 0 255) {one : pS → pS} (hone : r_met yX2_one cX2_one 1 h1 b n t d one) (hfine : p_fine n one) : r_met yX2_term cX2_term 2 (h1 + 1) b n t d (p_term (q_l b n) one) := by
  intro σ p hx hp hop
  refine g_Met.of (own := 2) (L := [some (.ref 19), none]) (by decide) rfl rfl (fun ad => Nat.le_of_ble_eq_true rfl) (fun ad => rfl) (fun X G K C => ?_)
  refine V_blk C (pc' := 1) (σ' := σ) (L' := [some (.ref 19), none]) (st' := [.ref 19]) (g_c dX2_term_0 g_n) rfl rfl ?_
  refine V_callV C cv_X2_76 (hone σ p hx hp hop) ⟨_, _, _, _, rfl, rfl⟩ (by rfl) (by omega) (by decide) (fun _ h => h) (As := []) (rest := []) rfl rfl (Nat.le_of_ble_eq_true rfl) dX2_term_1 (fun rv s1 hq => ?_)
  obtain ⟨rfl, hx1, hf1⟩ := hq
  have hr1 := hfine p hp
  refine V_blk C (pc' := 6) (σ' := s1) (L' := [some (.ref 19), some (.int 0)]) (st' := []) (g_c dX2_term_4 (g_c dX2_term_5 g_n)) rfl rfl ?_
  refine V_eq rfl (L' := [some (.ref 19), some (.int (nI 0))]) rfl rfl (lp_term h18 hbb hone hfine C 160 0 s1 _ (by omega) hx1 hr1.1 (by rw [hr1.2.2.2]; exact hop) hf1 rfl)
set_option maxHeartbeats 4000000 in
set_option maxRecDepth 100000 in
theorem lp_both {X : gX} {G : gG} {K : List Nat} {σ : gS} {b : Nat → Int32} {n t d h1 : Nat} (h18 : 8 ≤ h1) (hbb : ∀ k, k < n → g_in (b k) 0 255) {den : pS → pS} (hone : r_met yX2_denied cX2_denied 2 h1 b n t d den) (hfine : p_fine n den) {R : pS} (C : gC X G K kR 2 cX2_both (g_RX 2) none (h1 + 1)) : ∀ (k : Nat) (v : Nat) (s : gS) (q : pS), (v + k = 160) → (g_rx b n t s q) → (p_ok n q) → (p_op q + d = 5) → (r_fr t σ s) → (p_loop (fun q => decide (p_tk q = 107)) (fun q => p_emit (den (p_next (q_l b n) q)) (-12)) k q = R) → gV X G K 2 (fun rv u => rv = none ∧ g_rx b n t u R ∧ r_fr t σ u) s [some (.ref 19), some (.int (nI v))] [] 6 := by
  intro k
  induction k with
  | zero =>
    intro v s q hk hx hp hop hfr hR
    have hlt : ¬ nI v < 160 := nI_nltL (a := v) (b := 160) (by omega) (by omega)
    refine V_blk C (pc' := 10) (σ' := s) (L' := [some (.ref 19), some (.int (nI v))]) (st' := [.int 160, .int (nI v)]) (g_c dX2_both_6 (g_c dX2_both_7 g_n)) rfl rfl ?_
    refine V_icmp_ge2 C (tgt := 42) dX2_both_10 (by decide) (fun h10 => ?_) (fun h10 => absurd h10 hlt)
    refine V_vret C dX2_both_42 ?_
    have e : q = R := hR
    subst e
    exact ⟨rfl, hx, hfr⟩
  | succ k ih =>
    intro v s q hk hx hp hop hfr hR
    have hlt : nI v < 160 := nI_ltL (b := 160) (by omega) (by omega)
    have htk := hx.2.1.1
    have hby : ∀ k, k < n → g_in (s 20 k) 0 255 := fun k hk => by rw [hx.1.2.2.2.2 k hk]; exact hbb k hk
    refine V_blk C (pc' := 10) (σ' := s) (L' := [some (.ref 19), some (.int (nI v))]) (st' := [.int 160, .int (nI v)]) (g_c dX2_both_6 (g_c dX2_both_7 g_n)) rfl rfl ?_
    refine V_icmp_ge2 C (tgt := 42) dX2_both_10 (by decide) (fun h10 => absurd hlt h10) (fun h10 => ?_)
    refine V_blk C (pc' := 19) (σ' := s) (L' := [some (.ref 19), some (.int (nI v))]) (st' := [.int 107, .int (s 19 5)]) (g_c dX2_both_13 (g_c dX2_both_14 (g_c dX2_both_17 g_n))) rfl rfl ?_
    refine V_icmp_ne C (tgt := 42) dX2_both_19 (by decide) (fun h19 => ?_) (fun h19 => ?_)
    · skip
      have et : ¬ p_tk q = 107 := fun z => h19 (htk.trans z)
      rw [p_loop, if_neg (fun z => et (of_decide_eq_true z))] at hR
      refine V_vret C dX2_both_42 ?_
      subst hR
      exact ⟨rfl, hx, hfr⟩
    · skip
      have et : p_tk q = 107 := htk.symm.trans h19
      have h1t : ¬ p_tk q = 1 := by rw [et]; decide
      have h2 : ¬ p_tk q = 2 := by rw [et]; decide
      have hafn : p_af q ≤ n := (hp.1 (Decidable.of_not_not (fun z => h2 (hp.2 z)))).2.2.1
      rw [p_loop, if_pos (decide_eq_true et)] at hR
      refine V_blk C (pc' := 23) (σ' := s) (L' := [some (.ref 19), some (.int (nI v))]) (st' := [.ref 19]) (g_c dX2_both_22 g_n) rfl rfl ?_
      refine V_callV C cv_X2_41 (c_X2_next0 s hx.1.2.2.1 hx.1.1 hby hafn (hx.at h2)) ⟨_, _, _, _, rfl, rfl⟩ (by rfl) (by omega) (by decide) (fun _ h => h) (As := []) (rest := []) rfl rfl (Nat.le_of_ble_eq_true rfl) dX2_both_23 (fun rv s1 hq => ?_)
      obtain ⟨rfl, hlx⟩ := hq
      obtain ⟨hx1, hf1⟩ := r_next hx hp h2 hlx
      have hpn := (p_next_ok (b := b) hx.1.1 hp h1t h2).2.1
      refine V_blk C (pc' := 27) (σ' := s1) (L' := [some (.ref 19), some (.int (nI v))]) (st' := [.ref 19]) (g_c dX2_both_26 g_n) rfl rfl ?_
      refine V_callV C cv_X2_63 (hone s1 (p_next (q_l b n) q) hx1 hpn hop) ⟨_, _, _, _, rfl, rfl⟩ (by rfl) (by omega) (by decide) (fun _ h => h) (As := []) (rest := []) rfl rfl (Nat.le_of_ble_eq_true rfl) dX2_both_27 (fun rv s2 hq2 => ?_)
      obtain ⟨rfl, hx2, hf2⟩ := hq2
      refine V_blk C (pc' := 33) (σ' := s2) (L' := [some (.ref 19), some (.int (nI v))]) (st' := [.int (-12), .ref 19]) (g_c dX2_both_30 (g_c dX2_both_31 g_n)) rfl rfl ?_
      refine V_callV C cv_X2_60 (c_X2_write s2 hx2 ((-12)) (r_room (b := b) hx.1.1 hfine hp h1t h2)) ⟨_, _, _, _, rfl, rfl⟩ (by rfl) (by omega) (by decide) (fun _ h => h) (As := [.int (-12)]) (rest := []) rfl rfl (Nat.le_of_ble_eq_true rfl) dX2_both_33 (fun rv s3 hq3 => ?_)
      obtain ⟨rfl, hx3, hf3⟩ := hq3
      refine V_blk C (pc' := 39) (σ' := s3) (L' := [some (.ref 19), some (.int ((nI v) + 1))]) (st' := []) (g_c dX2_both_36 g_n) rfl rfl ?_
      refine V_goto C (tgt := 6) dX2_both_39 (by decide) ?_
      have hst := p_step (b := b) hx.1.1 hfine hp h1t h2 ((-12))
      refine V_eq rfl (by rw [nI_1]) rfl (ih (v + 1) s3 _ (by omega) hx3 hst.1.1 (by rw [hst.1.2.2.2]; exact hop) (((hfr.trans hf1).trans hf2).trans hf3) hR)
theorem c_both {b : Nat → Int32} {n t d h1 : Nat} (h18 : 8 ≤ h1) (hbb : ∀ k, k < n → g_in (b k) 0 255) {den : pS → pS} (hone : r_met yX2_denied cX2_denied 2 h1 b n t d den) (hfine : p_fine n den) : r_met yX2_both cX2_both 2 (h1 + 1) b n t d (p_both (q_l b n) den) := by
  intro σ p hx hp hop
  refine g_Met.of (own := 2) (L := [some (.ref 19), none]) (by decide) rfl rfl (fun ad => Nat.le_of_ble_eq_true rfl) (fun ad => rfl) (fun X G K C => ?_)
  refine V_blk C (pc' := 1) (σ' := σ) (L' := [some (.ref 19), none]) (st' := [.ref 19]) (g_c dX2_both_0 g_n) rfl rfl ?_
  refine V_callV C cv_X2_63 (hone σ p hx hp hop) ⟨_, _, _, _, rfl, rfl⟩ (by rfl) (by omega) (by decide) (fun _ h => h) (As := []) (rest := []) rfl rfl (Nat.le_of_ble_eq_true rfl) dX2_both_1 (fun rv s1 hq => ?_)
  obtain ⟨rfl, hx1, hf1⟩ := hq
  have hr1 := hfine p hp
  refine V_blk C (pc' := 6) (σ' := s1) (L' := [some (.ref 19), some (.int 0)]) (st' := []) (g_c dX2_both_4 (g_c dX2_both_5 g_n)) rfl rfl ?_
  refine V_eq rfl (L' := [some (.ref 19), some (.int (nI 0))]) rfl rfl (lp_both h18 hbb hone hfine C 160 0 s1 _ (by omega) hx1 hr1.1 (by rw [hr1.2.2.2]; exact hop) hf1 rfl)
set_option maxHeartbeats 4000000 in
set_option maxRecDepth 100000 in
theorem lp_eith {X : gX} {G : gG} {K : List Nat} {σ : gS} {b : Nat → Int32} {n t d h1 : Nat} (h18 : 8 ≤ h1) (hbb : ∀ k, k < n → g_in (b k) 0 255) {both : pS → pS} (hone : r_met yX2_both cX2_both 2 h1 b n t d both) (hfine : p_fine n both) {R : pS} (C : gC X G K kR 2 cX2_either (g_RX 2) none (h1 + 1)) : ∀ (k : Nat) (v : Nat) (s : gS) (q : pS), (v + k = 160) → (g_rx b n t s q) → (p_ok n q) → (p_op q + d = 5) → (r_fr t σ s) → (p_loop (fun q => decide (p_tk q = 106)) (fun q => p_emit (both (p_next (q_l b n) q)) (-13)) k q = R) → gV X G K 2 (fun rv u => rv = none ∧ g_rx b n t u R ∧ r_fr t σ u) s [some (.ref 19), some (.int (nI v))] [] 6 := by
  intro k
  induction k with
  | zero =>
    intro v s q hk hx hp hop hfr hR
    have hlt : ¬ nI v < 160 := nI_nltL (a := v) (b := 160) (by omega) (by omega)
    refine V_blk C (pc' := 10) (σ' := s) (L' := [some (.ref 19), some (.int (nI v))]) (st' := [.int 160, .int (nI v)]) (g_c dX2_either_6 (g_c dX2_either_7 g_n)) rfl rfl ?_
    refine V_icmp_ge2 C (tgt := 42) dX2_either_10 (by decide) (fun h10 => ?_) (fun h10 => absurd h10 hlt)
    refine V_vret C dX2_either_42 ?_
    have e : q = R := hR
    subst e
    exact ⟨rfl, hx, hfr⟩
  | succ k ih =>
    intro v s q hk hx hp hop hfr hR
    have hlt : nI v < 160 := nI_ltL (b := 160) (by omega) (by omega)
    have htk := hx.2.1.1
    have hby : ∀ k, k < n → g_in (s 20 k) 0 255 := fun k hk => by rw [hx.1.2.2.2.2 k hk]; exact hbb k hk
    refine V_blk C (pc' := 10) (σ' := s) (L' := [some (.ref 19), some (.int (nI v))]) (st' := [.int 160, .int (nI v)]) (g_c dX2_either_6 (g_c dX2_either_7 g_n)) rfl rfl ?_
    refine V_icmp_ge2 C (tgt := 42) dX2_either_10 (by decide) (fun h10 => absurd hlt h10) (fun h10 => ?_)
    refine V_blk C (pc' := 19) (σ' := s) (L' := [some (.ref 19), some (.int (nI v))]) (st' := [.int 106, .int (s 19 5)]) (g_c dX2_either_13 (g_c dX2_either_14 (g_c dX2_either_17 g_n))) rfl rfl ?_
    refine V_icmp_ne C (tgt := 42) dX2_either_19 (by decide) (fun h19 => ?_) (fun h19 => ?_)
    · skip
      have et : ¬ p_tk q = 106 := fun z => h19 (htk.trans z)
      rw [p_loop, if_neg (fun z => et (of_decide_eq_true z))] at hR
      refine V_vret C dX2_either_42 ?_
      subst hR
      exact ⟨rfl, hx, hfr⟩
    · skip
      have et : p_tk q = 106 := htk.symm.trans h19
      have h1t : ¬ p_tk q = 1 := by rw [et]; decide
      have h2 : ¬ p_tk q = 2 := by rw [et]; decide
      have hafn : p_af q ≤ n := (hp.1 (Decidable.of_not_not (fun z => h2 (hp.2 z)))).2.2.1
      rw [p_loop, if_pos (decide_eq_true et)] at hR
      refine V_blk C (pc' := 23) (σ' := s) (L' := [some (.ref 19), some (.int (nI v))]) (st' := [.ref 19]) (g_c dX2_either_22 g_n) rfl rfl ?_
      refine V_callV C cv_X2_41 (c_X2_next0 s hx.1.2.2.1 hx.1.1 hby hafn (hx.at h2)) ⟨_, _, _, _, rfl, rfl⟩ (by rfl) (by omega) (by decide) (fun _ h => h) (As := []) (rest := []) rfl rfl (Nat.le_of_ble_eq_true rfl) dX2_either_23 (fun rv s1 hq => ?_)
      obtain ⟨rfl, hlx⟩ := hq
      obtain ⟨hx1, hf1⟩ := r_next hx hp h2 hlx
      have hpn := (p_next_ok (b := b) hx.1.1 hp h1t h2).2.1
      refine V_blk C (pc' := 27) (σ' := s1) (L' := [some (.ref 19), some (.int (nI v))]) (st' := [.ref 19]) (g_c dX2_either_26 g_n) rfl rfl ?_
      refine V_callV C cv_X2_54 (hone s1 (p_next (q_l b n) q) hx1 hpn hop) ⟨_, _, _, _, rfl, rfl⟩ (by rfl) (by omega) (by decide) (fun _ h => h) (As := []) (rest := []) rfl rfl (Nat.le_of_ble_eq_true rfl) dX2_either_27 (fun rv s2 hq2 => ?_)
      obtain ⟨rfl, hx2, hf2⟩ := hq2
      refine V_blk C (pc' := 33) (σ' := s2) (L' := [some (.ref 19), some (.int (nI v))]) (st' := [.int (-13), .ref 19]) (g_c dX2_either_30 (g_c dX2_either_31 g_n)) rfl rfl ?_
      refine V_callV C cv_X2_60 (c_X2_write s2 hx2 ((-13)) (r_room (b := b) hx.1.1 hfine hp h1t h2)) ⟨_, _, _, _, rfl, rfl⟩ (by rfl) (by omega) (by decide) (fun _ h => h) (As := [.int (-13)]) (rest := []) rfl rfl (Nat.le_of_ble_eq_true rfl) dX2_either_33 (fun rv s3 hq3 => ?_)
      obtain ⟨rfl, hx3, hf3⟩ := hq3
      refine V_blk C (pc' := 39) (σ' := s3) (L' := [some (.ref 19), some (.int ((nI v) + 1))]) (st' := []) (g_c dX2_either_36 g_n) rfl rfl ?_
      refine V_goto C (tgt := 6) dX2_either_39 (by decide) ?_
      have hst := p_step (b := b) hx.1.1 hfine hp h1t h2 ((-13))
      refine V_eq rfl (by rw [nI_1]) rfl (ih (v + 1) s3 _ (by omega) hx3 hst.1.1 (by rw [hst.1.2.2.2]; exact hop) (((hfr.trans hf1).trans hf2).trans hf3) hR)
theorem c_eith {b : Nat → Int32} {n t d h1 : Nat} (h18 : 8 ≤ h1) (hbb : ∀ k, k < n → g_in (b k) 0 255) {both : pS → pS} (hone : r_met yX2_both cX2_both 2 h1 b n t d both) (hfine : p_fine n both) : r_met yX2_either cX2_either 2 (h1 + 1) b n t d (p_eith (q_l b n) both) := by
  intro σ p hx hp hop
  refine g_Met.of (own := 2) (L := [some (.ref 19), none]) (by decide) rfl rfl (fun ad => Nat.le_of_ble_eq_true rfl) (fun ad => rfl) (fun X G K C => ?_)
  refine V_blk C (pc' := 1) (σ' := σ) (L' := [some (.ref 19), none]) (st' := [.ref 19]) (g_c dX2_either_0 g_n) rfl rfl ?_
  refine V_callV C cv_X2_54 (hone σ p hx hp hop) ⟨_, _, _, _, rfl, rfl⟩ (by rfl) (by omega) (by decide) (fun _ h => h) (As := []) (rest := []) rfl rfl (Nat.le_of_ble_eq_true rfl) dX2_either_1 (fun rv s1 hq => ?_)
  obtain ⟨rfl, hx1, hf1⟩ := hq
  have hr1 := hfine p hp
  refine V_blk C (pc' := 6) (σ' := s1) (L' := [some (.ref 19), some (.int 0)]) (st' := []) (g_c dX2_either_4 (g_c dX2_either_5 g_n)) rfl rfl ?_
  refine V_eq rfl (L' := [some (.ref 19), some (.int (nI 0))]) rfl rfl (lp_eith h18 hbb hone hfine C 160 0 s1 _ (by omega) hx1 hr1.1 (by rw [hr1.2.2.2]; exact hop) hf1 rfl)
set_option maxHeartbeats 4000000 in
set_option maxRecDepth 100000 in
theorem lp_sum {X : gX} {G : gG} {K : List Nat} {σ : gS} {b : Nat → Int32} {n t d h1 : Nat} (h18 : 8 ≤ h1) (hbb : ∀ k, k < n → g_in (b k) 0 255) {term : pS → pS} (hone : r_met yX2_term cX2_term 2 h1 b n t d term) (hfine : p_fine n term) {R : pS} (C : gC X G K kR 3 cX2_sum (g_RX 2) none (h1 + 1)) : ∀ (k : Nat) (v : Nat) (s : gS) (q : pS), (v + k = 160) → (g_rx b n t s q) → (p_ok n q) → (p_op q + d = 5) → (r_fr t σ s) → (p_loop (fun q => decide (p_tk q = 43 ∨ p_tk q = 45)) (fun q => p_emit (term (p_next (q_l b n) q)) (if p_tk q = 43 then -7 else -8)) k q = R) → gV X G K 3 (fun rv u => rv = none ∧ g_rx b n t u R ∧ r_fr t σ u) s [some (.ref 19), some (.int (nI v)), none] [] 6 := by
  intro k
  induction k with
  | zero =>
    intro v s q hk hx hp hop hfr hR
    have hlt : ¬ nI v < 160 := nI_nltL (a := v) (b := 160) (by omega) (by omega)
    refine V_blk C (pc' := 10) (σ' := s) (L' := [some (.ref 19), some (.int (nI v)), none]) (st' := [.int 160, .int (nI v)]) (g_c dX2_sum_6 (g_c dX2_sum_7 g_n)) rfl rfl ?_
    refine V_icmp_ge2 C (tgt := 67) dX2_sum_10 (by decide) (fun h10 => ?_) (fun h10 => absurd h10 hlt)
    refine V_vret C dX2_sum_67 ?_
    have e : q = R := hR
    subst e
    exact ⟨rfl, hx, hfr⟩
  | succ k ih =>
    intro v s q hk hx hp hop hfr hR
    have hlt : nI v < 160 := nI_ltL (b := 160) (by omega) (by omega)
    have htk := hx.2.1.1
    have hby : ∀ k, k < n → g_in (s 20 k) 0 255 := fun k hk => by rw [hx.1.2.2.2.2 k hk]; exact hbb k hk
    refine V_blk C (pc' := 10) (σ' := s) (L' := [some (.ref 19), some (.int (nI v)), none]) (st' := [.int 160, .int (nI v)]) (g_c dX2_sum_6 (g_c dX2_sum_7 g_n)) rfl rfl ?_
    refine V_icmp_ge2 C (tgt := 67) dX2_sum_10 (by decide) (fun h10 => absurd hlt h10) (fun h10 => ?_)
    refine V_blk C (pc' := 19) (σ' := s) (L' := [some (.ref 19), some (.int (nI v)), none]) (st' := [.int 43, .int (s 19 5)]) (g_c dX2_sum_13 (g_c dX2_sum_14 (g_c dX2_sum_17 g_n))) rfl rfl ?_
    refine V_icmp_eq C (tgt := 31) dX2_sum_19 (by decide) (fun h19 => ?_) (fun h19 => ?_)
    · skip
      have et : p_tk q = 43 := htk.symm.trans h19
      have h1t : ¬ p_tk q = 1 := by rw [et]; decide
      have h2 : ¬ p_tk q = 2 := by rw [et]; decide
      have hafn : p_af q ≤ n := (hp.1 (Decidable.of_not_not (fun z => h2 (hp.2 z)))).2.2.1
      rw [p_loop, if_pos (decide_eq_true (Or.inl et))] at hR
      have ec : (if p_tk q = 43 then (-7 : Int32) else -8) = -7 := by rw [et]; decide
      refine V_blk C (pc' := 37) (σ' := s) (L' := [some (.ref 19), some (.int (nI v)), none]) (st' := [.int 43, .int (s 19 5)]) (g_c dX2_sum_31 (g_c dX2_sum_32 (g_c dX2_sum_35 g_n))) rfl rfl ?_
      refine V_icmp_ne C (tgt := 45) dX2_sum_37 (by decide) (fun h37 => absurd h19 h37) (fun h37 => ?_)
      refine V_blk C (pc' := 42) (σ' := s) (L' := [some (.ref 19), some (.int (nI v)), none]) (st' := [.int (-7)]) (g_c dX2_sum_40 g_n) rfl rfl ?_
      refine V_goto C (tgt := 47) dX2_sum_42 (by decide) ?_
      refine V_blk C (pc' := 49) (σ' := s) (L' := [some (.ref 19), some (.int (nI v)), some (.int (-7))]) (st' := [.ref 19]) (g_c dX2_sum_47 (g_c dX2_sum_48 g_n)) rfl rfl ?_
      refine V_callV C cv_X2_41 (c_X2_next0 s hx.1.2.2.1 hx.1.1 hby hafn (hx.at h2)) ⟨_, _, _, _, rfl, rfl⟩ (by rfl) (by omega) (by decide) (fun _ h => h) (As := []) (rest := []) rfl rfl (Nat.le_of_ble_eq_true rfl) dX2_sum_49 (fun rv s1 hq => ?_)
      obtain ⟨rfl, hlx⟩ := hq
      obtain ⟨hx1, hf1⟩ := r_next hx hp h2 hlx
      have hpn := (p_next_ok (b := b) hx.1.1 hp h1t h2).2.1
      refine V_blk C (pc' := 53) (σ' := s1) (L' := [some (.ref 19), some (.int (nI v)), some (.int (-7))]) (st' := [.ref 19]) (g_c dX2_sum_52 g_n) rfl rfl ?_
      refine V_callV C cv_X2_73 (hone s1 (p_next (q_l b n) q) hx1 hpn hop) ⟨_, _, _, _, rfl, rfl⟩ (by rfl) (by omega) (by decide) (fun _ h => h) (As := []) (rest := []) rfl rfl (Nat.le_of_ble_eq_true rfl) dX2_sum_53 (fun rv s2 hq2 => ?_)
      obtain ⟨rfl, hx2, hf2⟩ := hq2
      refine V_blk C (pc' := 58) (σ' := s2) (L' := [some (.ref 19), some (.int (nI v)), some (.int (-7))]) (st' := [.int (-7), .ref 19]) (g_c dX2_sum_56 (g_c dX2_sum_57 g_n)) rfl rfl ?_
      refine V_callV C cv_X2_60 (c_X2_write s2 hx2 ((-7)) (r_room (b := b) hx.1.1 hfine hp h1t h2)) ⟨_, _, _, _, rfl, rfl⟩ (by rfl) (by omega) (by decide) (fun _ h => h) (As := [.int (-7)]) (rest := []) rfl rfl (Nat.le_of_ble_eq_true rfl) dX2_sum_58 (fun rv s3 hq3 => ?_)
      obtain ⟨rfl, hx3, hf3⟩ := hq3
      refine V_blk C (pc' := 64) (σ' := s3) (L' := [some (.ref 19), some (.int ((nI v) + 1)), some (.int (-7))]) (st' := []) (g_c dX2_sum_61 g_n) rfl rfl ?_
      refine V_goto C (tgt := 6) dX2_sum_64 (by decide) ?_
      have hst := p_step (b := b) hx.1.1 hfine hp h1t h2 ((-7))
      refine V_less (L' := [some (.ref 19), some (.int ((nI v) + 1)), none]) (by simp [g_subL]) ?_
      refine V_eq rfl (by rw [nI_1]) rfl (ih (v + 1) s3 _ (by omega) hx3 hst.1.1 (by rw [hst.1.2.2.2]; exact hop) (((hfr.trans hf1).trans hf2).trans hf3) ?_)
      rw [← hR]
      show _ = p_loop _ _ k (p_emit _ (if p_tk q = 43 then (-7 : Int32) else -8))
      rw [ec]
    · skip
      refine V_blk C (pc' := 28) (σ' := s) (L' := [some (.ref 19), some (.int (nI v)), none]) (st' := [.int 45, .int (s 19 5)]) (g_c dX2_sum_22 (g_c dX2_sum_23 (g_c dX2_sum_26 g_n))) rfl rfl ?_
      refine V_icmp_ne C (tgt := 67) dX2_sum_28 (by decide) (fun h28 => ?_) (fun h28 => ?_)
      · skip
        have et : ¬ (p_tk q = 43 ∨ p_tk q = 45) := fun z => z.elim (fun z => h19 (htk.trans z)) (fun z => h28 (htk.trans z))
        rw [p_loop, if_neg (fun z => et (of_decide_eq_true z))] at hR
        refine V_vret C dX2_sum_67 ?_
        subst hR
        exact ⟨rfl, hx, hfr⟩
      · skip
        have et : p_tk q = 45 := htk.symm.trans h28
        have h1t : ¬ p_tk q = 1 := by rw [et]; decide
        have h2 : ¬ p_tk q = 2 := by rw [et]; decide
        have hafn : p_af q ≤ n := (hp.1 (Decidable.of_not_not (fun z => h2 (hp.2 z)))).2.2.1
        rw [p_loop, if_pos (decide_eq_true (Or.inr et))] at hR
        have ec : (if p_tk q = 43 then (-7 : Int32) else -8) = -8 := by rw [et]; decide
        refine V_blk C (pc' := 37) (σ' := s) (L' := [some (.ref 19), some (.int (nI v)), none]) (st' := [.int 43, .int (s 19 5)]) (g_c dX2_sum_31 (g_c dX2_sum_32 (g_c dX2_sum_35 g_n))) rfl rfl ?_
        refine V_icmp_ne C (tgt := 45) dX2_sum_37 (by decide) (fun h37 => ?_) (fun h37 => absurd h37 h19)
        refine V_blk C (pc' := 49) (σ' := s) (L' := [some (.ref 19), some (.int (nI v)), some (.int (-8))]) (st' := [.ref 19]) (g_c dX2_sum_45 (g_c dX2_sum_47 (g_c dX2_sum_48 g_n))) rfl rfl ?_
        refine V_callV C cv_X2_41 (c_X2_next0 s hx.1.2.2.1 hx.1.1 hby hafn (hx.at h2)) ⟨_, _, _, _, rfl, rfl⟩ (by rfl) (by omega) (by decide) (fun _ h => h) (As := []) (rest := []) rfl rfl (Nat.le_of_ble_eq_true rfl) dX2_sum_49 (fun rv s1 hq => ?_)
        obtain ⟨rfl, hlx⟩ := hq
        obtain ⟨hx1, hf1⟩ := r_next hx hp h2 hlx
        have hpn := (p_next_ok (b := b) hx.1.1 hp h1t h2).2.1
        refine V_blk C (pc' := 53) (σ' := s1) (L' := [some (.ref 19), some (.int (nI v)), some (.int (-8))]) (st' := [.ref 19]) (g_c dX2_sum_52 g_n) rfl rfl ?_
        refine V_callV C cv_X2_73 (hone s1 (p_next (q_l b n) q) hx1 hpn hop) ⟨_, _, _, _, rfl, rfl⟩ (by rfl) (by omega) (by decide) (fun _ h => h) (As := []) (rest := []) rfl rfl (Nat.le_of_ble_eq_true rfl) dX2_sum_53 (fun rv s2 hq2 => ?_)
        obtain ⟨rfl, hx2, hf2⟩ := hq2
        refine V_blk C (pc' := 58) (σ' := s2) (L' := [some (.ref 19), some (.int (nI v)), some (.int (-8))]) (st' := [.int (-8), .ref 19]) (g_c dX2_sum_56 (g_c dX2_sum_57 g_n)) rfl rfl ?_
        refine V_callV C cv_X2_60 (c_X2_write s2 hx2 ((-8)) (r_room (b := b) hx.1.1 hfine hp h1t h2)) ⟨_, _, _, _, rfl, rfl⟩ (by rfl) (by omega) (by decide) (fun _ h => h) (As := [.int (-8)]) (rest := []) rfl rfl (Nat.le_of_ble_eq_true rfl) dX2_sum_58 (fun rv s3 hq3 => ?_)
        obtain ⟨rfl, hx3, hf3⟩ := hq3
        refine V_blk C (pc' := 64) (σ' := s3) (L' := [some (.ref 19), some (.int ((nI v) + 1)), some (.int (-8))]) (st' := []) (g_c dX2_sum_61 g_n) rfl rfl ?_
        refine V_goto C (tgt := 6) dX2_sum_64 (by decide) ?_
        have hst := p_step (b := b) hx.1.1 hfine hp h1t h2 ((-8))
        refine V_less (L' := [some (.ref 19), some (.int ((nI v) + 1)), none]) (by simp [g_subL]) ?_
        refine V_eq rfl (by rw [nI_1]) rfl (ih (v + 1) s3 _ (by omega) hx3 hst.1.1 (by rw [hst.1.2.2.2]; exact hop) (((hfr.trans hf1).trans hf2).trans hf3) ?_)
        rw [← hR]
        show _ = p_loop _ _ k (p_emit _ (if p_tk q = 43 then (-7 : Int32) else -8))
        rw [ec]
theorem c_sum {b : Nat → Int32} {n t d h1 : Nat} (h18 : 8 ≤ h1) (hbb : ∀ k, k < n → g_in (b k) 0 255) {term : pS → pS} (hone : r_met yX2_term cX2_term 2 h1 b n t d term) (hfine : p_fine n term) : r_met yX2_sum cX2_sum 3 (h1 + 1) b n t d (p_sum (q_l b n) term) := by
  intro σ p hx hp hop
  refine g_Met.of (own := 2) (L := [some (.ref 19), none, none]) (by decide) rfl rfl (fun ad => Nat.le_of_ble_eq_true rfl) (fun ad => rfl) (fun X G K C => ?_)
  refine V_blk C (pc' := 1) (σ' := σ) (L' := [some (.ref 19), none, none]) (st' := [.ref 19]) (g_c dX2_sum_0 g_n) rfl rfl ?_
  refine V_callV C cv_X2_73 (hone σ p hx hp hop) ⟨_, _, _, _, rfl, rfl⟩ (by rfl) (by omega) (by decide) (fun _ h => h) (As := []) (rest := []) rfl rfl (Nat.le_of_ble_eq_true rfl) dX2_sum_1 (fun rv s1 hq => ?_)
  obtain ⟨rfl, hx1, hf1⟩ := hq
  have hr1 := hfine p hp
  refine V_blk C (pc' := 6) (σ' := s1) (L' := [some (.ref 19), some (.int 0), none]) (st' := []) (g_c dX2_sum_4 (g_c dX2_sum_5 g_n)) rfl rfl ?_
  refine V_eq rfl (L' := [some (.ref 19), some (.int (nI 0)), none]) rfl rfl (lp_sum h18 hbb hone hfine C 160 0 s1 _ (by omega) hx1 hr1.1 (by rw [hr1.2.2.2]; exact hop) hf1 rfl)
