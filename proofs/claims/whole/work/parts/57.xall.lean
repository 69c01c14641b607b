/-! DENIED, with the room it needs -/
set_option maxHeartbeats 4000000 in
set_option maxRecDepth 100000 in
theorem c_denH {b : Nat → Int32} {n t d h0 h1 H : Nat} (hn160 : n ≤ 160) (h08 : 8 ≤ h0) (h18 : 8 ≤ h1) (hH0 : h0 + 1 ≤ H) (hH1 : h1 + 1 ≤ H) (hbb : ∀ k, k < n → g_in (b k) 0 255) {rD sum : pS → pS} (hD : r_met yX2_denied cX2_denied 2 h0 b n t d rD) (hDf : p_fine n rD) (hS : r_met yX2_sum cX2_sum 3 h1 b n t (d + 1) sum) (hSf : p_fine n sum) : r_met yX2_denied cX2_denied 2 H b n t (d + 1) (p_den (q_l b n) false rD sum) := by
  intro σ p hx hp hop
  have htk := hx.2.1.1
  have hlt : p_op p < 5 := by omega
  refine g_Met.of (own := 2) (L := [some (.ref 19), none]) (by decide) rfl rfl (fun ad => Nat.le_of_ble_eq_true rfl) (fun ad => rfl) (fun X G K C => ?_)
  refine V_blk C (pc' := 6) (σ' := σ) (L' := [some (.ref 19), none]) (st' := [.int 108, .int (σ 19 5)]) (g_c dX2_denied_0 (g_c dX2_denied_1 (g_c dX2_denied_4 g_n))) rfl rfl ?_
  refine V_icmp_ne C (tgt := 41) dX2_denied_6 (by decide) (fun h6 => ?_) (fun h6 => ?_)
  · skip
    have net : ¬ p_tk p = 108 := fun z => h6 (htk.trans z)
    refine V_blk C (pc' := 42) (σ' := σ) (L' := [some (.ref 19), none]) (st' := [.ref 19]) (g_c dX2_denied_41 g_n) rfl rfl ?_
    refine V_callV C cv_X2_70 (hS σ p hx hp hop) ⟨_, _, _, _, rfl, rfl⟩ (by rfl) (by omega) (by decide) (fun _ h => h) (As := []) (rest := []) rfl rfl (Nat.le_of_ble_eq_true rfl) dX2_denied_42 (fun rv t1 hqt => ?_)
    obtain ⟨rfl, hy1, hg1⟩ := hqt
    have hr1 := hSf p hp
    have hp_t1 := hr1.1
    have hkt := hy1.2.1.1
    refine V_blk C (pc' := 51) (σ' := t1) (L' := [some (.ref 19), none]) (st' := [.int 60, .int (t1 19 5)]) (g_c dX2_denied_45 (g_c dX2_denied_46 (g_c dX2_denied_49 g_n))) rfl rfl ?_
    refine V_icmp_eq C (tgt := 63) dX2_denied_51 (by decide) (fun h51 => ?_) (fun h51 => ?_)
    · skip
      have ett : p_tk (sum p) = 60 := hkt.symm.trans h51
      have hor : p_tk (sum p) = 60 ∨ p_tk (sum p) = 61 := Or.inl ett
      have ec : (if p_tk (sum p) = 60 then (-10 : Int32) else -11) = -10 := if_pos ett
      have h2_t1 : ¬ p_tk (sum p) = 2 := by rw [show p_tk (sum p) = 60 from ett]; decide
      have h1_t1 : ¬ p_tk (sum p) = 1 := by rw [show p_tk (sum p) = 60 from ett]; decide
      have hby_t1 : ∀ k, k < n → g_in (t1 20 k) 0 255 := fun k hk => by rw [hy1.1.2.2.2.2 k hk]; exact hbb k hk
      have hafn_t1 : p_af (sum p) ≤ n := (hp_t1.1 (Decidable.of_not_not (fun z => h2_t1 (hp_t1.2 z)))).2.2.1
      refine V_blk C (pc' := 69) (σ' := t1) (L' := [some (.ref 19), none]) (st' := [.int 60, .int (t1 19 5)]) (g_c dX2_denied_63 (g_c dX2_denied_64 (g_c dX2_denied_67 g_n))) rfl rfl ?_
      refine V_icmp_ne C (tgt := 77) dX2_denied_69 (by decide) (fun h69 => absurd h51 h69) (fun h69 => ?_)
      refine V_blk C (pc' := 74) (σ' := t1) (L' := [some (.ref 19), none]) (st' := [.int (-10)]) (g_c dX2_denied_72 g_n) rfl rfl ?_
      refine V_goto C (tgt := 79) dX2_denied_74 (by decide) ?_
      refine V_blk C (pc' := 81) (σ' := t1) (L' := [some (.ref 19), some (.int (-10))]) (st' := [.ref 19]) (g_c dX2_denied_79 (g_c dX2_denied_80 g_n)) rfl rfl ?_
      refine V_callV C cv_X2_41 (c_X2_next0 t1 hy1.1.2.2.1 hy1.1.1 hby_t1 hafn_t1 (hy1.at h2_t1)) ⟨_, _, _, _, rfl, rfl⟩ (by rfl) (by omega) (by decide) (fun _ h => h) (As := []) (rest := []) rfl rfl (Nat.le_of_ble_eq_true rfl) dX2_denied_81 (fun rv t2 hq_t2 => ?_)
      obtain ⟨rfl, hlx_t2⟩ := hq_t2
      obtain ⟨hy2, hg2⟩ := r_next hy1 hp_t1 h2_t1 hlx_t2
      refine V_blk C (pc' := 85) (σ' := t2) (L' := [some (.ref 19), some (.int (-10))]) (st' := [.ref 19]) (g_c dX2_denied_84 g_n) rfl rfl ?_
      refine V_callV C cv_X2_70 (hS t2 (p_next (q_l b n) (sum p)) hy2 (p_next_ok (b := b) hn160 hp_t1 h1_t1 h2_t1).2.1 (by show p_op (sum p) + (d + 1) = 5; rw [hr1.2.2.2]; exact hop)) ⟨_, _, _, _, rfl, rfl⟩ (by rfl) (by omega) (by decide) (fun _ h => h) (As := []) (rest := []) rfl rfl (Nat.le_of_ble_eq_true rfl) dX2_denied_85 (fun rv t3 hqt3 => ?_)
      obtain ⟨rfl, hy3, hg3⟩ := hqt3
      refine V_blk C (pc' := 90) (σ' := t3) (L' := [some (.ref 19), some (.int (-10))]) (st' := [.int (-10), .ref 19]) (g_c dX2_denied_88 (g_c dX2_denied_89 g_n)) rfl rfl ?_
      refine V_callV C cv_X2_60 (c_X2_write t3 hy3 ((-10)) (r_room (b := b) (p := sum p) hn160 hSf hp_t1 h1_t1 h2_t1)) ⟨_, _, _, _, rfl, rfl⟩ (by rfl) (by omega) (by decide) (fun _ h => h) (As := [.int (-10)]) (rest := []) rfl rfl (Nat.le_of_ble_eq_true rfl) dX2_denied_90 (fun rv t4 hqt4 => ?_)
      obtain ⟨rfl, hy4, hg4⟩ := hqt4
      refine V_vret C dX2_denied_93 ?_
      rw [p_den, if_neg net]
      dsimp only
      rw [if_pos hor]
      rw [ec]
      exact ⟨rfl, hy4, ((hg1.trans hg2).trans hg3).trans hg4⟩
    · skip
      refine V_blk C (pc' := 60) (σ' := t1) (L' := [some (.ref 19), none]) (st' := [.int 61, .int (t1 19 5)]) (g_c dX2_denied_54 (g_c dX2_denied_55 (g_c dX2_denied_58 g_n))) rfl rfl ?_
      refine V_icmp_ne C (tgt := 93) dX2_denied_60 (by decide) (fun h60 => ?_) (fun h60 => ?_)
      · skip
        refine V_vret C dX2_denied_93 ?_
        rw [p_den, if_neg net]
        dsimp only
        rw [if_neg (fun z => z.elim (fun z => h51 (hkt.trans z)) (fun z => h60 (hkt.trans z)))]
        exact ⟨rfl, hy1, hg1⟩
      · skip
        have ett : p_tk (sum p) = 61 := hkt.symm.trans h60
        have hor : p_tk (sum p) = 60 ∨ p_tk (sum p) = 61 := Or.inr ett
        have ec : (if p_tk (sum p) = 60 then (-10 : Int32) else -11) = -11 := if_neg (fun z => by rw [ett] at z; exact absurd z (by decide))
        have h2_t1 : ¬ p_tk (sum p) = 2 := by rw [show p_tk (sum p) = 61 from ett]; decide
        have h1_t1 : ¬ p_tk (sum p) = 1 := by rw [show p_tk (sum p) = 61 from ett]; decide
        have hby_t1 : ∀ k, k < n → g_in (t1 20 k) 0 255 := fun k hk => by rw [hy1.1.2.2.2.2 k hk]; exact hbb k hk
        have hafn_t1 : p_af (sum p) ≤ n := (hp_t1.1 (Decidable.of_not_not (fun z => h2_t1 (hp_t1.2 z)))).2.2.1
        refine V_blk C (pc' := 69) (σ' := t1) (L' := [some (.ref 19), none]) (st' := [.int 60, .int (t1 19 5)]) (g_c dX2_denied_63 (g_c dX2_denied_64 (g_c dX2_denied_67 g_n))) rfl rfl ?_
        refine V_icmp_ne C (tgt := 77) dX2_denied_69 (by decide) (fun h69 => ?_) (fun h69 => absurd h69 h51)
        refine V_blk C (pc' := 81) (σ' := t1) (L' := [some (.ref 19), some (.int (-11))]) (st' := [.ref 19]) (g_c dX2_denied_77 (g_c dX2_denied_79 (g_c dX2_denied_80 g_n))) rfl rfl ?_
        refine V_callV C cv_X2_41 (c_X2_next0 t1 hy1.1.2.2.1 hy1.1.1 hby_t1 hafn_t1 (hy1.at h2_t1)) ⟨_, _, _, _, rfl, rfl⟩ (by rfl) (by omega) (by decide) (fun _ h => h) (As := []) (rest := []) rfl rfl (Nat.le_of_ble_eq_true rfl) dX2_denied_81 (fun rv t2 hq_t2 => ?_)
        obtain ⟨rfl, hlx_t2⟩ := hq_t2
        obtain ⟨hy2, hg2⟩ := r_next hy1 hp_t1 h2_t1 hlx_t2
        refine V_blk C (pc' := 85) (σ' := t2) (L' := [some (.ref 19), some (.int (-11))]) (st' := [.ref 19]) (g_c dX2_denied_84 g_n) rfl rfl ?_
        refine V_callV C cv_X2_70 (hS t2 (p_next (q_l b n) (sum p)) hy2 (p_next_ok (b := b) hn160 hp_t1 h1_t1 h2_t1).2.1 (by show p_op (sum p) + (d + 1) = 5; rw [hr1.2.2.2]; exact hop)) ⟨_, _, _, _, rfl, rfl⟩ (by rfl) (by omega) (by decide) (fun _ h => h) (As := []) (rest := []) rfl rfl (Nat.le_of_ble_eq_true rfl) dX2_denied_85 (fun rv t3 hqt3 => ?_)
        obtain ⟨rfl, hy3, hg3⟩ := hqt3
        refine V_blk C (pc' := 90) (σ' := t3) (L' := [some (.ref 19), some (.int (-11))]) (st' := [.int (-11), .ref 19]) (g_c dX2_denied_88 (g_c dX2_denied_89 g_n)) rfl rfl ?_
        refine V_callV C cv_X2_60 (c_X2_write t3 hy3 ((-11)) (r_room (b := b) (p := sum p) hn160 hSf hp_t1 h1_t1 h2_t1)) ⟨_, _, _, _, rfl, rfl⟩ (by rfl) (by omega) (by decide) (fun _ h => h) (As := [.int (-11)]) (rest := []) rfl rfl (Nat.le_of_ble_eq_true rfl) dX2_denied_90 (fun rv t4 hqt4 => ?_)
        obtain ⟨rfl, hy4, hg4⟩ := hqt4
        refine V_vret C dX2_denied_93 ?_
        rw [p_den, if_neg net]
        dsimp only
        rw [if_pos hor]
        rw [ec]
        exact ⟨rfl, hy4, ((hg1.trans hg2).trans hg3).trans hg4⟩
  · skip
    have et : p_tk p = 108 := htk.symm.trans h6
    refine V_blk C (pc' := 10) (σ' := σ) (L' := [some (.ref 19), none]) (st' := [.ref 19]) (g_c dX2_denied_9 g_n) rfl rfl ?_
    refine V_callV C cv_X2_66 (c_X2_isOpened σ hx) ⟨_, _, _, _, rfl, rfl⟩ (by rfl) (by omega) (by decide) (fun _ h => h) (As := []) (rest := []) rfl rfl (Nat.le_of_ble_eq_true rfl) dX2_denied_10 (fun rv s1 hqo => ?_)
    obtain ⟨rfl, hxo, hfo⟩ := hqo
    rw [if_pos hlt] at hxo
    have hp_s1 : p_ok n (p_open p (p_op p + 1)) := hp
    have h2_s1 : ¬ p_tk (p_open p (p_op p + 1)) = 2 := by rw [show p_tk (p_open p (p_op p + 1)) = 108 from et]; decide
    have h1_s1 : ¬ p_tk (p_open p (p_op p + 1)) = 1 := by rw [show p_tk (p_open p (p_op p + 1)) = 108 from et]; decide
    have hby_s1 : ∀ k, k < n → g_in (s1 20 k) 0 255 := fun k hk => by rw [hxo.1.2.2.2.2 k hk]; exact hbb k hk
    have hafn_s1 : p_af (p_open p (p_op p + 1)) ≤ n := (hp_s1.1 (Decidable.of_not_not (fun z => h2_s1 (hp_s1.2 z)))).2.2.1
    refine V_if_eq_b C (tgt := 40) dX2_denied_13 (by decide) (fun h13 => absurd hlt h13) (fun h13 => ?_)
    refine V_blk C (pc' := 17) (σ' := s1) (L' := [some (.ref 19), none]) (st' := [.ref 19]) (g_c dX2_denied_16 g_n) rfl rfl ?_
    refine V_callV C cv_X2_41 (c_X2_next0 s1 hxo.1.2.2.1 hxo.1.1 hby_s1 hafn_s1 (hxo.at h2_s1)) ⟨_, _, _, _, rfl, rfl⟩ (by rfl) (by omega) (by decide) (fun _ h => h) (As := []) (rest := []) rfl rfl (Nat.le_of_ble_eq_true rfl) dX2_denied_17 (fun rv s2 hq_s2 => ?_)
    obtain ⟨rfl, hlx_s2⟩ := hq_s2
    obtain ⟨hx2, hf2⟩ := r_next hxo hp_s1 h2_s1 hlx_s2
    refine V_blk C (pc' := 21) (σ' := s2) (L' := [some (.ref 19), none]) (st' := [.ref 19]) (g_c dX2_denied_20 g_n) rfl rfl ?_
    refine V_callV C cv_X2_63 (hD s2 (p_next (q_l b n) (p_open p (p_op p + 1))) hx2 (p_next_ok (b := b) hn160 hp_s1 h1_s1 h2_s1).2.1 (by show p_op p + 1 + d = 5; omega)) ⟨_, _, _, _, rfl, rfl⟩ (by rfl) (by omega) (by decide) (fun _ h => h) (As := []) (rest := []) rfl rfl (Nat.le_of_ble_eq_true rfl) dX2_denied_21 (fun rv s3 hq3 => ?_)
    obtain ⟨rfl, hx3, hf3⟩ := hq3
    refine V_blk C (pc' := 27) (σ' := s3) (L' := [some (.ref 19), none]) (st' := [.int (-14), .ref 19]) (g_c dX2_denied_24 (g_c dX2_denied_25 g_n)) rfl rfl ?_
    refine V_callV C cv_X2_60 (c_X2_write s3 hx3 (-14) (r_room (b := b) (p := (p_open p (p_op p + 1))) hn160 hDf hp_s1 h1_s1 h2_s1)) ⟨_, _, _, _, rfl, rfl⟩ (by rfl) (by omega) (by decide) (fun _ h => h) (As := [.int (-14)]) (rest := []) rfl rfl (Nat.le_of_ble_eq_true rfl) dX2_denied_27 (fun rv s4 hq4 => ?_)
    obtain ⟨rfl, hx4, hf4⟩ := hq4
    refine V_blk C (pc' := 40) (σ' := (g_up s4 19 8 ((s4 19 8) - 1))) (L' := [some (.ref 19), none]) (st' := []) (g_c dX2_denied_30 (g_c dX2_denied_31 (g_c dX2_denied_32 (g_c dX2_denied_35 (g_c dX2_denied_36 (g_c dX2_denied_37 g_n)))))) rfl rfl ?_
    refine V_vret C dX2_denied_40 ?_
    have hopq : 1 ≤ p_op (p_emit (rD (p_next (q_l b n) (p_open p (p_op p + 1)))) (-14)) := by
      have := (p_step (b := b) hn160 hDf (p := (p_open p (p_op p + 1))) hp_s1 h1_s1 h2_s1 (-14)).1.2.2.2
      rw [this]
      exact Nat.le_add_left 1 _
    have hc := r_close hx4 hopq
    rw [p_den, if_pos et, if_neg (by decide)]
    exact ⟨rfl, hc.1, (((hfo.trans hf2).trans hf3).trans hf4).trans hc.2⟩
theorem k_X2_all {b : gF} {n t : Nat} (hn : n ≤ 160) (hbb : ∀ k, k < n → g_in (b k) 0 255) : ∀ d, r_met yX2_one cX2_one 1 (10 + 6 * d) b n t d (p_lv (q_l b n) d).1 ∧ r_met yX2_denied cX2_denied 2 (13 + 6 * d) b n t d (p_lv (q_l b n) d).2.1 ∧ r_met yX2_either cX2_either 2 (15 + 6 * d) b n t d (p_lv (q_l b n) d).2.2
  | 0 => by
    have f1 := p_one_fine (b := b) hn true (rO := id) (rE := id) (fun z => by cases z) (fun z => by cases z)
    have f2 := p_term_fine (b := b) hn f1
    have f3 := p_sum_fine (b := b) hn f2
    have f4 := p_den_fine (b := b) hn true (rD := id) (fun z => by cases z) f3
    have f5 := p_both_fine (b := b) hn f4
    have m1 := k_X2_one (b := b) (n := n) (t := t) (d := 0) (hO := 9) (hE := 9) (H := 10) (z := true) (rO := id) (rE := id) (by omega) (by omega) ⟨fun _ => rfl, fun _ => rfl⟩ (fun z => by cases z) hn hbb
    have m2 := c_term (by omega) hbb m1 f1
    have m3 := c_sum (by omega) hbb m2 f2
    have m4 := c_den0 (rD := id) hn (by omega) hbb m3 f3
    have m5 := c_both (by omega) hbb m4 f4
    have m6 := c_eith (by omega) hbb m5 f5
    exact ⟨m1, m4, m6⟩
  | d + 1 => by
    obtain ⟨i1, i2, i3⟩ := k_X2_all (b := b) (t := t) hn hbb d
    obtain ⟨j1, j2, j3⟩ := p_lv_fine (b := b) hn d
    have f1 := p_one_fine (b := b) hn false (fun _ => j1) (fun _ => j3)
    have f2 := p_term_fine (b := b) hn f1
    have f3 := p_sum_fine (b := b) hn f2
    have f4 := p_den_fine (b := b) hn false (fun _ => j2) f3
    have f5 := p_both_fine (b := b) hn f4
    have m1 := k_X2_one (b := b) (n := n) (t := t) (d := d + 1) (H := 10 + 6 * (d + 1)) (z := false) (by omega) (by omega) ⟨fun z => by (cases z), fun z => by omega⟩ (fun _ => ⟨d, rfl, i1, j1, i3, j3⟩) hn hbb
    have m2 := c_term (by omega) hbb m1 f1
    have m3 := c_sum (by omega) hbb m2 f2
    have m4 := c_denH (H := 13 + 6 * (d + 1)) hn (by omega) (by omega) (by omega) (by omega) hbb i2 j2 m3 f3
    have m5 := c_both (by omega) hbb m4 f4
    have m6 := c_eith (by omega) hbb m5 f5
    rw [show 13 + 6 * (d + 1) + 1 + 1 = 15 + 6 * (d + 1) by omega] at m6
    exact ⟨m1, m4, m6⟩
