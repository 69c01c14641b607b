/-! DENIED AT DEPTH 0, ONE -/
theorem c_den0 {b : Nat → Int32} {n t h1 : Nat} (hn160 : n ≤ 160) (h18 : 8 ≤ h1) (hbb : ∀ k, k < n → g_in (b k) 0 255) {rD sum : pS → pS} (hS : r_met yX2_sum cX2_sum 3 h1 b n t 0 sum) (hSf : p_fine n sum) : r_met yX2_denied cX2_denied 2 (h1 + 1) b n t 0 (p_den (q_l b n) true rD sum) := by
  intro σ p hx hp hop
  have htk := hx.2.1.1
  have hlt : ¬ p_op p < 5 := by omega
  refine g_Met.of (own := 2) (L := [some (.ref 19), none]) (by decide) rfl rfl (fun ad => Nat.le_of_ble_eq_true rfl) (fun ad => rfl) (fun X G K C => ?_)
  refine V_blk C (pc' := 6) (σ' := σ) (L' := [some (.ref 19), none]) (st' := [.int 108, .int (σ 19 5)]) (g_c dX2_denied_0 (g_c dX2_denied_1 (g_c dX2_denied_4 g_n))) rfl rfl ?_
  refine V_icmp_ne C (tgt := 41) dX2_denied_6 (by decide) (fun h6 => ?_) (fun h6 => ?_)
  · skip
    have net : ¬ p_tk p = 108 := fun z => h6 (htk.trans z)
    refine V_blk C (pc' := 42) (σ' := σ) (L' := [some (.ref 19), none]) (st' := [.ref 19]) (g_c dX2_denied_41 g_n) rfl rfl ?_
    refine V_callV C cv_X2_70 (hS σ p hx hp hop) ⟨_, _, _, _, rfl, rfl⟩ (by rfl) (by omega) (by decide) (fun _ h => h) (As := []) (rest := []) rfl rfl (Nat.le_of_ble_eq_true rfl) dX2_denied_42 (fun rv t1 hqt => ?_)
    obtain ⟨rfl, hy1, hg1⟩ := hqt
    have hr1 := hSf p hp
    have hp_t1 := hr1.1
    have hkt := hy1.2.1.1
    refine V_blk C (pc' := 51) (σ' := t1) (L' := [some (.ref 19), none]) (st' := [.int 60, .int (t1 19 5)]) (g_c dX2_denied_45 (g_c dX2_denied_46 (g_c dX2_denied_49 g_n))) rfl rfl ?_
    refine V_icmp_eq C (tgt := 63) dX2_denied_51 (by decide) (fun h51 => ?_) (fun h51 => ?_)
    · skip
      have ett : p_tk (sum p) = 60 := hkt.symm.trans h51
      have hor : p_tk (sum p) = 60 ∨ p_tk (sum p) = 61 := Or.inl ett
      have ec : (if p_tk (sum p) = 60 then (-10 : Int32) else -11) = -10 := if_pos ett
      have h2_t1 : ¬ p_tk (sum p) = 2 := by rw [show p_tk (sum p) = 60 from ett]; decide
      have h1_t1 : ¬ p_tk (sum p) = 1 := by rw [show p_tk (sum p) = 60 from ett]; decide
      have hby_t1 : ∀ k, k < n → g_in (t1 20 k) 0 255 := fun k hk => by rw [hy1.1.2.2.2.2 k hk]; exact hbb k hk
      have hafn_t1 : p_af (sum p) ≤ n := (hp_t1.1 (Decidable.of_not_not (fun z => h2_t1 (hp_t1.2 z)))).2.2.1
      refine V_blk C (pc' := 69) (σ' := t1) (L' := [some (.ref 19), none]) (st' := [.int 60, .int (t1 19 5)]) (g_c dX2_denied_63 (g_c dX2_denied_64 (g_c dX2_denied_67 g_n))) rfl rfl ?_
      refine V_icmp_ne C (tgt := 77) dX2_denied_69 (by decide) (fun h69 => absurd h51 h69) (fun h69 => ?_)
      refine V_blk C (pc' := 74) (σ' := t1) (L' := [some (.ref 19), none]) (st' := [.int (-10)]) (g_c dX2_denied_72 g_n) rfl rfl ?_
      refine V_goto C (tgt := 79) dX2_denied_74 (by decide) ?_
      refine V_blk C (pc' := 81) (σ' := t1) (L' := [some (.ref 19), some (.int (-10))]) (st' := [.ref 19]) (g_c dX2_denied_79 (g_c dX2_denied_80 g_n)) rfl rfl ?_
      refine V_callV C cv_X2_41 (c_X2_next0 t1 hy1.1.2.2.1 hy1.1.1 hby_t1 hafn_t1 (hy1.at h2_t1)) ⟨_, _, _, _, rfl, rfl⟩ (by rfl) (by omega) (by decide) (fun _ h => h) (As := []) (rest := []) rfl rfl (Nat.le_of_ble_eq_true rfl) dX2_denied_81 (fun rv t2 hq_t2 => ?_)
      obtain ⟨rfl, hlx_t2⟩ := hq_t2
      obtain ⟨hy2, hg2⟩ := r_next hy1 hp_t1 h2_t1 hlx_t2
      refine V_blk C (pc' := 85) (σ' := t2) (L' := [some (.ref 19), some (.int (-10))]) (st' := [.ref 19]) (g_c dX2_denied_84 g_n) rfl rfl ?_
      refine V_callV C cv_X2_70 (hS t2 (p_next (q_l b n) (sum p)) hy2 (p_next_ok (b := b) hn160 hp_t1 h1_t1 h2_t1).2.1 (by show p_op (sum p) + 0 = 5; rw [hr1.2.2.2]; exact hop)) ⟨_, _, _, _, rfl, rfl⟩ (by rfl) (by omega) (by decide) (fun _ h => h) (As := []) (rest := []) rfl rfl (Nat.le_of_ble_eq_true rfl) dX2_denied_85 (fun rv t3 hqt3 => ?_)
      obtain ⟨rfl, hy3, hg3⟩ := hqt3
      refine V_blk C (pc' := 90) (σ' := t3) (L' := [some (.ref 19), some (.int (-10))]) (st' := [.int (-10), .ref 19]) (g_c dX2_denied_88 (g_c dX2_denied_89 g_n)) rfl rfl ?_
      refine V_callV C cv_X2_60 (c_X2_write t3 hy3 ((-10)) (r_room (b := b) (p := sum p) hn160 hSf hp_t1 h1_t1 h2_t1)) ⟨_, _, _, _, rfl, rfl⟩ (by rfl) (by omega) (by decide) (fun _ h => h) (As := [.int (-10)]) (rest := []) rfl rfl (Nat.le_of_ble_eq_true rfl) dX2_denied_90 (fun rv t4 hqt4 => ?_)
      obtain ⟨rfl, hy4, hg4⟩ := hqt4
      refine V_vret C dX2_denied_93 ?_
      rw [p_den, if_neg net]
      dsimp only
      rw [if_pos hor]
      rw [ec]
      exact ⟨rfl, hy4, ((hg1.trans hg2).trans hg3).trans hg4⟩
    · skip
      refine V_blk C (pc' := 60) (σ' := t1) (L' := [some (.ref 19), none]) (st' := [.int 61, .int (t1 19 5)]) (g_c dX2_denied_54 (g_c dX2_denied_55 (g_c dX2_denied_58 g_n))) rfl rfl ?_
      refine V_icmp_ne C (tgt := 93) dX2_denied_60 (by decide) (fun h60 => ?_) (fun h60 => ?_)
      · skip
        refine V_vret C dX2_denied_93 ?_
        rw [p_den, if_neg net]
        dsimp only
        rw [if_neg (fun z => z.elim (fun z => h51 (hkt.trans z)) (fun z => h60 (hkt.trans z)))]
        exact ⟨rfl, hy1, hg1⟩
      · skip
        have ett : p_tk (sum p) = 61 := hkt.symm.trans h60
        have hor : p_tk (sum p) = 60 ∨ p_tk (sum p) = 61 := Or.inr ett
        have ec : (if p_tk (sum p) = 60 then (-10 : Int32) else -11) = -11 := if_neg (fun z => by rw [ett] at z; exact absurd z (by decide))
        have h2_t1 : ¬ p_tk (sum p) = 2 := by rw [show p_tk (sum p) = 61 from ett]; decide
        have h1_t1 : ¬ p_tk (sum p) = 1 := by rw [show p_tk (sum p) = 61 from ett]; decide
        have hby_t1 : ∀ k, k < n → g_in (t1 20 k) 0 255 := fun k hk => by rw [hy1.1.2.2.2.2 k hk]; exact hbb k hk
        have hafn_t1 : p_af (sum p) ≤ n := (hp_t1.1 (Decidable.of_not_not (fun z => h2_t1 (hp_t1.2 z)))).2.2.1
        refine V_blk C (pc' := 69) (σ' := t1) (L' := [some (.ref 19), none]) (st' := [.int 60, .int (t1 19 5)]) (g_c dX2_denied_63 (g_c dX2_denied_64 (g_c dX2_denied_67 g_n))) rfl rfl ?_
        refine V_icmp_ne C (tgt := 77) dX2_denied_69 (by decide) (fun h69 => ?_) (fun h69 => absurd h69 h51)
        refine V_blk C (pc' := 81) (σ' := t1) (L' := [some (.ref 19), some (.int (-11))]) (st' := [.ref 19]) (g_c dX2_denied_77 (g_c dX2_denied_79 (g_c dX2_denied_80 g_n))) rfl rfl ?_
        refine V_callV C cv_X2_41 (c_X2_next0 t1 hy1.1.2.2.1 hy1.1.1 hby_t1 hafn_t1 (hy1.at h2_t1)) ⟨_, _, _, _, rfl, rfl⟩ (by rfl) (by omega) (by decide) (fun _ h => h) (As := []) (rest := []) rfl rfl (Nat.le_of_ble_eq_true rfl) dX2_denied_81 (fun rv t2 hq_t2 => ?_)
        obtain ⟨rfl, hlx_t2⟩ := hq_t2
        obtain ⟨hy2, hg2⟩ := r_next hy1 hp_t1 h2_t1 hlx_t2
        refine V_blk C (pc' := 85) (σ' := t2) (L' := [some (.ref 19), some (.int (-11))]) (st' := [.ref 19]) (g_c dX2_denied_84 g_n) rfl rfl ?_
        refine V_callV C cv_X2_70 (hS t2 (p_next (q_l b n) (sum p)) hy2 (p_next_ok (b := b) hn160 hp_t1 h1_t1 h2_t1).2.1 (by show p_op (sum p) + 0 = 5; rw [hr1.2.2.2]; exact hop)) ⟨_, _, _, _, rfl, rfl⟩ (by rfl) (by omega) (by decide) (fun _ h => h) (As := []) (rest := []) rfl rfl (Nat.le_of_ble_eq_true rfl) dX2_denied_85 (fun rv t3 hqt3 => ?_)
        obtain ⟨rfl, hy3, hg3⟩ := hqt3
        refine V_blk C (pc' := 90) (σ' := t3) (L' := [some (.ref 19), some (.int (-11))]) (st' := [.int (-11), .ref 19]) (g_c dX2_denied_88 (g_c dX2_denied_89 g_n)) rfl rfl ?_
        refine V_callV C cv_X2_60 (c_X2_write t3 hy3 ((-11)) (r_room (b := b) (p := sum p) hn160 hSf hp_t1 h1_t1 h2_t1)) ⟨_, _, _, _, rfl, rfl⟩ (by rfl) (by omega) (by decide) (fun _ h => h) (As := [.int (-11)]) (rest := []) rfl rfl (Nat.le_of_ble_eq_true rfl) dX2_denied_90 (fun rv t4 hqt4 => ?_)
        obtain ⟨rfl, hy4, hg4⟩ := hqt4
        refine V_vret C dX2_denied_93 ?_
        rw [p_den, if_neg net]
        dsimp only
        rw [if_pos hor]
        rw [ec]
        exact ⟨rfl, hy4, ((hg1.trans hg2).trans hg3).trans hg4⟩
  · skip
    have et : p_tk p = 108 := htk.symm.trans h6
    refine V_blk C (pc' := 10) (σ' := σ) (L' := [some (.ref 19), none]) (st' := [.ref 19]) (g_c dX2_denied_9 g_n) rfl rfl ?_
    refine V_callV C cv_X2_66 (c_X2_isOpened σ hx) ⟨_, _, _, _, rfl, rfl⟩ (by rfl) (by omega) (by decide) (fun _ h => h) (As := []) (rest := []) rfl rfl (Nat.le_of_ble_eq_true rfl) dX2_denied_10 (fun rv s1 hqo => ?_)
    obtain ⟨rfl, hxo, hfo⟩ := hqo
    rw [if_neg hlt] at hxo
    refine V_if_eq_b C (tgt := 40) dX2_denied_13 (by decide) (fun h13 => ?_) (fun h13 => absurd h13 hlt)
    refine V_vret C dX2_denied_40 ?_
    rw [p_den, if_pos et, if_pos rfl]
    exact ⟨rfl, hxo, hfo⟩
