/-! DRIP, FEED OF THE CLASS; need() -/
set_option maxHeartbeats 4000000 in
set_option maxRecDepth 100000 in
theorem c_X7_drip (σ : gS) (kind what place : Int32) : g_Met yX7_drip cX7_drip 5 (some .int) 3 kX [.ref 0, .int kind, .int what, .int place] σ (fun rv s => rv = some (.int (if g_in kind 0 5 then (if g_in what 0 99 then (if g_in place 0 7 then (if g_in (σ 1 8) 0 5 then (σ 1 8) else (-4)) else (-2)) else (-2)) else (-2))) ∧ s = (if g_in kind 0 5 then (if g_in what 0 99 then (if g_in place 0 7 then (if g_in (σ 1 8) 0 5 then (g_up (g_up (g_up (g_up (g_up σ 3 (Int32.toNatClampNeg (σ 1 8)) kind) 4 (Int32.toNatClampNeg (σ 1 8)) (what / 10)) 5 (Int32.toNatClampNeg (σ 1 8)) (what - what / 10 * 10)) 6 (Int32.toNatClampNeg (σ 1 8)) place) 1 8 ((σ 1 8) + 1)) else σ) else σ) else σ) else σ)) := by
  refine g_Met.of (own := 7) (L := [some (.ref 0), some (.int kind), some (.int what), some (.int place), none]) (by decide) rfl rfl (fun ad => Nat.le_of_ble_eq_true rfl) (fun ad => rfl) (fun X G K C => ?_)
  refine V_blk C (pc' := 1) (σ' := σ) (L' := [some (.ref 0), some (.int kind), some (.int what), some (.int place), none]) (st' := [.int kind]) (g_c dX7_drip_0 g_n) rfl rfl ?_
  refine V_callSI C cs_X7_116 (c_X7_isKind σ kind) (by decide) (by decide) (fun _ h => h) (As := [.int kind]) (rest := []) rfl rfl (Nat.le_of_ble_eq_true rfl) dX7_drip_1 ?_
  refine V_if_eq_b C (tgt := 24) dX7_drip_4 (by decide) (fun h4 => ?_) (fun h4 => ?_)
  · skip
    refine V_blk C (pc' := 26) (σ' := σ) (L' := [some (.ref 0), some (.int kind), some (.int what), some (.int place), none]) (st' := [.int (-2)]) (g_c dX7_drip_24 g_n) rfl rfl ?_
    refine V_iret C dX7_drip_26 ?_
    exact ⟨by rw [if_neg (fun z => h4 z)], by rw [if_neg (fun z => h4 z)]⟩
  · skip
    refine V_blk C (pc' := 11) (σ' := σ) (L' := [some (.ref 0), some (.int kind), some (.int what), some (.int place), none]) (st' := [.int 99, .int 0, .int what]) (g_c dX7_drip_7 (g_c dX7_drip_8 (g_c dX7_drip_9 g_n))) rfl rfl ?_
    refine V_callSI C cs_X7_85 (c_X7_isIn σ what 0 99) (by decide) (by decide) (fun _ h => h) (As := [.int what, .int 0, .int 99]) (rest := []) rfl rfl (Nat.le_of_ble_eq_true rfl) dX7_drip_11 ?_
    refine V_if_eq_b C (tgt := 24) dX7_drip_14 (by decide) (fun h14 => ?_) (fun h14 => ?_)
    · skip
      refine V_blk C (pc' := 26) (σ' := σ) (L' := [some (.ref 0), some (.int kind), some (.int what), some (.int place), none]) (st' := [.int (-2)]) (g_c dX7_drip_24 g_n) rfl rfl ?_
      refine V_iret C dX7_drip_26 ?_
      exact ⟨by rw [if_pos h4, if_neg (fun z => h14 z)], by rw [if_pos h4, if_neg (fun z => h14 z)]⟩
    · skip
      refine V_blk C (pc' := 18) (σ' := σ) (L' := [some (.ref 0), some (.int kind), some (.int what), some (.int place), none]) (st' := [.int place]) (g_c dX7_drip_17 g_n) rfl rfl ?_
      refine V_callSI C cs_X7_110 (c_X7_isPlace σ place) (by decide) (by decide) (fun _ h => h) (As := [.int place]) (rest := []) rfl rfl (Nat.le_of_ble_eq_true rfl) dX7_drip_18 ?_
      refine V_if_ne_b C (tgt := 27) dX7_drip_21 (by decide) (fun h21 => ?_) (fun h21 => ?_)
      · skip
        refine V_blk C (pc' := 40) (σ' := σ) (L' := [some (.ref 0), some (.int kind), some (.int what), some (.int place), some (.int (σ 1 8))]) (st' := [.int 5, .int 0, .int (σ 1 8)]) (g_c dX7_drip_27 (g_c dX7_drip_28 (g_c dX7_drip_31 (g_c dX7_drip_34 (g_c dX7_drip_36 (g_c dX7_drip_38 (g_c dX7_drip_39 g_n))))))) rfl rfl ?_
        refine V_callSI C cs_X7_85 (c_X7_isIn σ (σ 1 8) 0 5) (by decide) (by decide) (fun _ h => h) (As := [.int (σ 1 8), .int 0, .int 5]) (rest := []) rfl rfl (Nat.le_of_ble_eq_true rfl) dX7_drip_40 ?_
        refine V_if_ne_b C (tgt := 49) dX7_drip_43 (by decide) (fun h43 => ?_) (fun h43 => ?_)
        · skip
          refine V_blk C (pc' := 59) (σ' := σ) (L' := [some (.ref 0), some (.int kind), some (.int what), some (.int place), some (.int (σ 1 8))]) (st' := [.int kind, .int (σ 1 8), .ref 3]) (g_c dX7_drip_49 (g_c dX7_drip_50 (g_c dX7_drip_53 (g_c dX7_drip_56 (g_c dX7_drip_58 g_n))))) rfl rfl ?_
          refine V_iast C (k := 3) (n := 6) (by rfl) (by rfl) (g_vpc h43 (by decide)) dX7_drip_59 ?_
          refine V_blk C (pc' := 72) (σ' := (g_up σ 3 (Int32.toNatClampNeg (σ 1 8)) kind)) (L' := [some (.ref 0), some (.int kind), some (.int what), some (.int place), some (.int (σ 1 8))]) (st' := [.int 10, .int what, .int (σ 1 8), .ref 4]) (g_c dX7_drip_60 (g_c dX7_drip_61 (g_c dX7_drip_64 (g_c dX7_drip_67 (g_c dX7_drip_69 (g_c dX7_drip_70 g_n)))))) rfl rfl ?_
          refine V_idiv C (by decide) dX7_drip_72 ?_
          refine V_iast C (k := 4) (n := 6) (by rfl) (by rfl) (g_vpc h43 (by decide)) dX7_drip_73 ?_
          refine V_blk C (pc' := 86) (σ' := (g_up (g_up σ 3 (Int32.toNatClampNeg (σ 1 8)) kind) 4 (Int32.toNatClampNeg (σ 1 8)) (what / 10))) (L' := [some (.ref 0), some (.int kind), some (.int what), some (.int place), some (.int (σ 1 8))]) (st' := [.int 10, .int what, .int (σ 1 8), .ref 5]) (g_c dX7_drip_74 (g_c dX7_drip_75 (g_c dX7_drip_78 (g_c dX7_drip_81 (g_c dX7_drip_83 (g_c dX7_drip_84 g_n)))))) rfl rfl ?_
          refine V_irem C (by decide) dX7_drip_86 ?_
          refine V_iast C (k := 5) (n := 6) (by rfl) (by rfl) (g_vpc h43 (by decide)) dX7_drip_87 ?_
          refine V_blk C (pc' := 98) (σ' := (g_up (g_up (g_up σ 3 (Int32.toNatClampNeg (σ 1 8)) kind) 4 (Int32.toNatClampNeg (σ 1 8)) (what / 10)) 5 (Int32.toNatClampNeg (σ 1 8)) (what - what / 10 * 10))) (L' := [some (.ref 0), some (.int kind), some (.int what), some (.int place), some (.int (σ 1 8))]) (st' := [.int place, .int (σ 1 8), .ref 6]) (g_c dX7_drip_88 (g_c dX7_drip_89 (g_c dX7_drip_92 (g_c dX7_drip_95 (g_c dX7_drip_97 g_n))))) rfl rfl ?_
          refine V_iast C (k := 6) (n := 6) (by rfl) (by rfl) (g_vpc h43 (by decide)) dX7_drip_98 ?_
          refine V_blk C (pc' := 112) (σ' := (g_up (g_up (g_up (g_up (g_up σ 3 (Int32.toNatClampNeg (σ 1 8)) kind) 4 (Int32.toNatClampNeg (σ 1 8)) (what / 10)) 5 (Int32.toNatClampNeg (σ 1 8)) (what - what / 10 * 10)) 6 (Int32.toNatClampNeg (σ 1 8)) place) 1 8 ((σ 1 8) + 1))) (L' := [some (.ref 0), some (.int kind), some (.int what), some (.int place), some (.int (σ 1 8))]) (st' := [.int (σ 1 8)]) (g_c dX7_drip_99 (g_c dX7_drip_100 (g_c dX7_drip_103 (g_c dX7_drip_105 (g_c dX7_drip_106 (g_c dX7_drip_107 (g_c dX7_drip_110 g_n))))))) rfl rfl ?_
          refine V_iret C dX7_drip_112 ?_
          exact ⟨by rw [if_pos h4, if_pos h14, if_pos h21, if_pos h43], by rw [if_pos h4, if_pos h14, if_pos h21, if_pos h43]⟩
        · skip
          refine V_blk C (pc' := 48) (σ' := σ) (L' := [some (.ref 0), some (.int kind), some (.int what), some (.int place), some (.int (σ 1 8))]) (st' := [.int (-4)]) (g_c dX7_drip_46 g_n) rfl rfl ?_
          refine V_iret C dX7_drip_48 ?_
          exact ⟨by rw [if_pos h4, if_pos h14, if_pos h21, if_neg (fun z => h43 z)], by rw [if_pos h4, if_pos h14, if_pos h21, if_neg (fun z => h43 z)]⟩
      · skip
        refine V_blk C (pc' := 26) (σ' := σ) (L' := [some (.ref 0), some (.int kind), some (.int what), some (.int place), none]) (st' := [.int (-2)]) (g_c dX7_drip_24 g_n) rfl rfl ?_
        refine V_iret C dX7_drip_26 ?_
        exact ⟨by rw [if_pos h4, if_pos h14, if_neg (fun z => h21 z)], by rw [if_pos h4, if_pos h14, if_neg (fun z => h21 z)]⟩
set_option maxHeartbeats 4000000 in
set_option maxRecDepth 100000 in
theorem c_X7_feed (σ : gS) (v : Int32) {nz : Nat} (hz : σ 19 1 = nI nz) (hz160 : nz ≤ 160) : g_Met yX7_feed cX7_feed 2 (some .int) 4 kX [.ref 0, .int v] σ (fun rv s => rv = some (.int (if g_in v 0 255 then (if g_in (σ 19 1) 0 159 then (σ 19 1) + 1 else -4) else -2)) ∧ s = (if g_in v 0 255 then (if g_in (σ 19 1) 0 159 then (g_up (g_up σ 20 (ix (σ 19 1)) v) 19 1 ((σ 19 1) + 1)) else σ) else σ)) := by
  refine g_Met.of (own := 7) (L := [some (.ref 0), some (.int v)]) (by decide) rfl rfl (fun ad => Nat.le_of_ble_eq_true rfl) (fun ad => rfl) (fun X G K C => ?_)
  refine V_blk C (pc' := 5) (σ' := σ) (L' := [some (.ref 0), some (.int v)]) (st' := [.int 255, .int 0, .int v]) (g_c dX7_feed_0 (g_c dX7_feed_1 (g_c dX7_feed_2 g_n))) rfl rfl ?_
  refine V_callSI C cs_X7_85 (c_X7_isIn σ v 0 255) (by decide) (by decide) (fun _ h => h) (As := [.int v, .int 0, .int 255]) (rest := []) rfl rfl (Nat.le_of_ble_eq_true rfl) dX7_feed_5 ?_
  refine V_if_ne_b C (tgt := 14) dX7_feed_8 (by decide) (fun h8 => ?_) (fun h8 => ?_)
  · skip
    refine V_blk C (pc' := 19) (σ' := σ) (L' := [some (.ref 0), some (.int v)]) (st' := [.int v, .ref 19]) (g_c dX7_feed_14 (g_c dX7_feed_15 (g_c dX7_feed_18 g_n))) rfl rfl ?_
    refine V_callVI C cv_X7_52 (c_X2_take σ v hz hz160) ⟨_, _, _, _, rfl, rfl⟩ (by rfl) (by decide) (by decide) (kR_kX) (As := [.int v]) (rest := []) rfl rfl (Nat.le_of_ble_eq_true rfl) dX7_feed_19 ?_
    refine V_if_eq_b C (tgt := 35) dX7_feed_22 (by decide) (fun h22 => ?_) (fun h22 => ?_)
    · skip
      refine V_blk C (pc' := 37) (σ' := (if g_in (σ 19 1) 0 159 then (g_up (g_up σ 20 (ix (σ 19 1)) v) 19 1 ((σ 19 1) + 1)) else σ)) (L' := [some (.ref 0), some (.int v)]) (st' := [.int (-4)]) (g_c dX7_feed_35 g_n) rfl rfl ?_
      refine V_iret C dX7_feed_37 ?_
      exact ⟨by rw [if_pos h8, if_neg h22], by rw [if_pos h8]⟩
    · skip
      refine V_blk C (pc' := 32) (σ' := (if g_in (σ 19 1) 0 159 then (g_up (g_up σ 20 (ix (σ 19 1)) v) 19 1 ((σ 19 1) + 1)) else σ)) (L' := [some (.ref 0), some (.int v)]) (st' := [.int ((if g_in (σ 19 1) 0 159 then (g_up (g_up σ 20 (ix (σ 19 1)) v) 19 1 ((σ 19 1) + 1)) else σ) 19 1)]) (g_c dX7_feed_25 (g_c dX7_feed_26 (g_c dX7_feed_29 g_n))) rfl rfl ?_
      refine V_goto C (tgt := 37) dX7_feed_32 (by decide) ?_
      refine V_iret C dX7_feed_37 ?_
      exact ⟨by (simp only [if_pos h8, if_pos h22]; try rfl), by rw [if_pos h8]⟩
  · skip
    refine V_blk C (pc' := 13) (σ' := σ) (L' := [some (.ref 0), some (.int v)]) (st' := [.int (-2)]) (g_c dX7_feed_11 g_n) rfl rfl ?_
    refine V_iret C dX7_feed_13 ?_
    exact ⟨by rw [if_neg h8], by rw [if_neg h8]⟩
theorem q_l_congr {b c : Nat → Int32} {n : Nat} (h : ∀ i, i < n → c i = b i) : q_l c n = q_l b n := by
  funext i
  by_cases hi : i < n
  · rw [q_l, q_l, if_pos hi, if_pos hi, h i hi]
  · rw [q_l, q_l, if_neg hi, if_neg hi]
/-- next(), over the pure state -/
theorem r_next {b : Nat → Int32} {n t : Nat} {σ s : gS} {p : pS} (h : g_rx b n t σ p) (hp : p_ok n p) (h2 : ¬ p_tk p = 2) (hl : r_lex (q_l (σ 20) n) (p_af p) σ s) : g_rx b n t s (p_next (q_l b n) p) ∧ r_fr t σ s := by
  obtain ⟨⟨hn, ht, m1, m2, hb⟩, ⟨k1, k2, k3, k4, k5, k6⟩, ⟨a, a1, a2, a3⟩, ⟨f1, f2⟩, ⟨len, l1, l2, l3⟩⟩ := h
  rw [q_l_congr hb] at hl
  obtain ⟨r1, r2, r3, ⟨a', r4, r5, r6⟩, r7, r8⟩ := hl
  have h0 : p_fa p = none := Decidable.of_not_not (fun z => h2 (hp.2 z))
  have haf := (hp.1 h0).2.2.1
  have hpos := q_lex_pos (b := b) hn haf
  refine ⟨⟨⟨hn, ht, (r8 1 (by decide) (by decide) (by decide) (by decide)).trans m1, (r8 2 (by decide) (by decide) (by decide) (by decide)).trans m2, fun i hi => by rw [r7 20 (by decide)]; exact hb i hi⟩, ⟨r1, r2, ?_, (r8 8 (by decide) (by decide) (by decide) (by decide)).trans k4, k5, r3⟩, ⟨a', r4, by omega, r6⟩, ⟨fun z => (r8 9 (by decide) (by decide) (by decide) (by decide)).trans (f1 z), fun f hf => ⟨(r8 9 (by decide) (by decide) (by decide) (by decide)).trans (f2 f hf).1, (f2 f hf).2⟩⟩, ⟨len, (r8 3 (by decide) (by decide) (by decide) (by decide)).trans l1, l2, fun z => ⟨(l3 z).1, fun i hi => by rw [r7 (46 + 3 * t) (by omega)]; exact (l3 z).2 i hi⟩⟩⟩, fun x e1 e2 => r7 x e1⟩
  show (q_lex (q_l b n) (p_af p)).2.2.1 ≤ 200
  omega
theorem g_rx.at {b : Nat → Int32} {n t : Nat} {σ : gS} {p : pS} (h : g_rx b n t σ p) (h2 : ¬ p_tk p = 2) : σ 19 4 = nI (p_af p) := by
  obtain ⟨-, -, ⟨a, a1, a2, a3⟩, -, -⟩ := h
  rw [a1, a3 h2]
set_option maxHeartbeats 4000000 in
set_option maxRecDepth 100000 in
theorem c_X2_need {b : Nat → Int32} {n t : Nat} {p : pS} (σ : gS) (hx : g_rx b n t σ p) (hp : p_ok n p) (hbb : ∀ k, k < n → g_in (b k) 0 255) (w : Int32) (w2 : ¬ w = 2) : g_Met yX2_need cX2_need 2 none 8 kR [.ref 19, .int w] σ (fun rv s => rv = none ∧ g_rx b n t s (p_need (q_l b n) w p) ∧ r_fr t σ s) := by
  have htk := hx.2.1.1
  have hby : ∀ k, k < n → g_in (σ 20 k) 0 255 := fun k hk => by rw [hx.1.2.2.2.2 k hk]; exact hbb k hk
  refine g_Met.of (own := 2) (L := [some (.ref 19), some (.int w)]) (by decide) rfl rfl (fun ad => Nat.le_of_ble_eq_true rfl) (fun ad => rfl) (fun X G K C => ?_)
  refine V_blk C (pc' := 5) (σ' := σ) (L' := [some (.ref 19), some (.int w)]) (st' := [.int w, .int (σ 19 5)]) (g_c dX2_need_0 (g_c dX2_need_1 (g_c dX2_need_4 g_n))) rfl rfl ?_
  refine V_icmp_ne C (tgt := 15) dX2_need_5 (by decide) (fun h5 => ?_) (fun h5 => ?_)
  · skip
    refine V_blk C (pc' := 16) (σ' := σ) (L' := [some (.ref 19), some (.int w)]) (st' := [.ref 19]) (g_c dX2_need_15 g_n) rfl rfl ?_
    refine V_callV C cv_X2_82 (c_X2_spoil σ hx) ⟨_, _, _, _, rfl, rfl⟩ (by rfl) (by decide) (by decide) (fun _ h => h) (As := []) (rest := []) rfl rfl (Nat.le_of_ble_eq_true rfl) dX2_need_16 (fun rv s1 hq => ?_)
    obtain ⟨rfl, hx1, hf1⟩ := hq
    refine V_vret C dX2_need_19 ?_
    rw [p_need, if_neg (fun z => h5 (htk.trans z))]
    exact ⟨rfl, hx1, hf1⟩
  · skip
    have e : p_tk p = w := htk.symm.trans h5
    have h2 : ¬ p_tk p = 2 := by rw [e]; exact w2
    have hafn : p_af p ≤ n := (hp.1 (Decidable.of_not_not (fun z => h2 (hp.2 z)))).2.2.1
    refine V_blk C (pc' := 9) (σ' := σ) (L' := [some (.ref 19), some (.int w)]) (st' := [.ref 19]) (g_c dX2_need_8 g_n) rfl rfl ?_
    refine V_callV C cv_X2_41 (c_X2_next0 σ hx.1.2.2.1 hx.1.1 hby hafn (hx.at h2)) ⟨_, _, _, _, rfl, rfl⟩ (by rfl) (by decide) (by decide) (fun _ h => h) (As := []) (rest := []) rfl rfl (Nat.le_of_ble_eq_true rfl) dX2_need_9 (fun rv s1 hq => ?_)
    obtain ⟨rfl, hlx⟩ := hq
    obtain ⟨hx1, hf1⟩ := r_next hx hp h2 hlx
    refine V_goto C (tgt := 19) dX2_need_12 (by decide) ?_
    refine V_vret C dX2_need_19 ?_
    rw [p_need, if_pos (htk.symm.trans h5)]
    exact ⟨rfl, hx1, hf1⟩
