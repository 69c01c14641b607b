set_option maxRecDepth 100000 in
def P_X2_read (h : Nat) (t : Nat) (σ : gS) (Qp : Option Value → gS → Prop) : Prop :=
  (g_call yX2_next cX2_next 2 none kR h [.ref 19] (g_up (g_up (g_up (g_up (g_up σ 19 2 (nI t)) 19 3 0) 19 4 0) 19 8 0) 19 9 (-1)) (fun rv s1 => rv = none ∧ (∃ I4 : Nat → Int32 → gS → Prop, (∃ k9 : Nat, I4 k9 0 s1) ∧ ∀ (k6 : Nat) (v3 : Int32) (s12 : gS), I4 k6 v3 s12 → (((v3 : Int32) < 3 → (g_call yX2_need cX2_need 2 none kR h [.ref 19, .int (103 + v3)] s12 (fun rv s19 => rv = none ∧ (g_call yX2_either cX2_either 2 none kR h [.ref 19] s19 (fun rv s21 => rv = none ∧ (g_call yX2_need cX2_need 2 none kR h [.ref 19, .int 59] s21 (fun rv s23 => rv = none ∧ (∃ t25 : Nat, (s23 19 2) = nI t25 ∧ t25 < 6 ∧ (∃ j31 : Nat, v3 = nI j31 ∧ j31 < 3 ∧ (∃ k33 : Nat, k33 < k6 ∧ I4 k33 (v3 + 1) (g_up s23 (47 + 3 * t25) j31 (s23 19 3)))))))))))) ∧ (¬ (v3 : Int32) < 3 → (g_call yX2_need cX2_need 2 none kR h [.ref 19, .int 1] s12 (fun rv s16 => rv = none ∧ (Qp (some (.int (s16 19 9))) (g_up s16 19 1 0)))))))))
set_option maxHeartbeats 4000000 in
set_option maxRecDepth 100000 in
theorem w_X2_read {h : Nat} (hh : 6 ≤ h) {t : Nat} {σ : gS} {Qp : Option Value → gS → Prop} (ht : t < 6) (P : P_X2_read h t σ Qp) : g_Met yX2_read cX2_read 3 (some .int) h kR [.ref 19, .ref (45 + 3 * t)] σ Qp := by
  unfold P_X2_read at P
  refine g_Met.of (own := 2) (L := [some (.ref 19), some (.ref (45 + 3 * t)), none]) (by decide) rfl rfl (fun ad => Nat.le_of_ble_eq_true rfl) (fun ad => rfl) (fun X G K C => ?_)
  refine V_blk C (pc' := 2) (σ' := σ) (L' := [some (.ref 19), some (.ref (45 + 3 * t)), none]) (st' := [.ref (45 + 3 * t), .ref 19]) (g_c dX2_read_0 (g_c dX2_read_1 g_n)) rfl rfl ?_
  refine V_putT C (k := 19) (t := t) fl_X2_25 rfl rfl (by rfl) rfl ht dX2_read_2 ?_
  refine V_blk C (pc' := 26) (σ' := (g_up (g_up (g_up (g_up (g_up σ 19 2 (nI t)) 19 3 0) 19 4 0) 19 8 0) 19 9 (-1))) (L' := [some (.ref 19), some (.ref (45 + 3 * t)), none]) (st' := [.ref 19]) (g_c dX2_read_5 (g_c dX2_read_6 (g_c dX2_read_7 (g_c dX2_read_10 (g_c dX2_read_11 (g_c dX2_read_12 (g_c dX2_read_15 (g_c dX2_read_16 (g_c dX2_read_17 (g_c dX2_read_20 (g_c dX2_read_21 (g_c dX2_read_22 (g_c dX2_read_25 g_n))))))))))))) rfl rfl ?_
  refine V_gV C cv_X2_41 P ⟨_, _, _, _, rfl, rfl⟩ (by rfl) (by decide) (As := []) (rest := []) rfl rfl (Nat.le_of_ble_eq_true rfl) dX2_read_26 (fun rv s1 hq => ?_)
  obtain ⟨rfl, p2⟩ := hq
  refine V_blk C (pc' := 31) (σ' := s1) (L' := [some (.ref 19), some (.ref (45 + 3 * t)), some (.int 0)]) (st' := []) (g_c dX2_read_29 (g_c dX2_read_30 g_n)) rfl rfl ?_
  refine V_less (L' := [some (.ref 19), none, some (.int 0)]) (by simp [g_subL]) ?_
  obtain ⟨I4, ⟨k9, hI11⟩, hS8⟩ := p2
  have lp10 : ∀ (k6 : Nat) (v3 : Int32) (s12 : gS), I4 k6 v3 s12 → gV X G K 3 Qp s12 [some (.ref 19), none, some (.int v3)] [] 31 := by
    intro k6
    induction k6 using Nat.strongRecOn with
    | ind k6 ih5 =>
      intro v3 s12 hI7
      have p13 := hS8 k6 v3 s12 hI7
      refine V_blk C (pc' := 33) (σ' := s12) (L' := [some (.ref 19), none, some (.int v3)]) (st' := [.int 3, .int v3]) (g_c dX2_read_31 (g_c dX2_read_32 g_n)) rfl rfl ?_
      refine V_icmp_ge2 C (tgt := 73) dX2_read_33 (by decide) (fun h14 => ?_) (fun h14 => ?_)
      · skip
        have p15 := p13.2 h14
        refine V_blk C (pc' := 75) (σ' := s12) (L' := [some (.ref 19), none, some (.int v3)]) (st' := [.int 1, .ref 19]) (g_c dX2_read_73 (g_c dX2_read_74 g_n)) rfl rfl ?_
        refine V_gV C cv_X2_44 p15 ⟨_, _, _, _, rfl, rfl⟩ (by rfl) (by decide) (As := [.int 1]) (rest := []) rfl rfl (Nat.le_of_ble_eq_true rfl) dX2_read_75 (fun rv s16 hq => ?_)
        obtain ⟨rfl, p17⟩ := hq
        refine V_blk C (pc' := 87) (σ' := (g_up s16 19 1 0)) (L' := [some (.ref 19), none, some (.int v3)]) (st' := [.int (s16 19 9)]) (g_c dX2_read_78 (g_c dX2_read_79 (g_c dX2_read_80 (g_c dX2_read_83 (g_c dX2_read_84 g_n))))) rfl rfl ?_
        refine V_iret C dX2_read_87 ?_
        exact p17
      · skip
        have p18 := p13.1 h14
        refine V_blk C (pc' := 41) (σ' := s12) (L' := [some (.ref 19), none, some (.int v3)]) (st' := [.int (103 + v3), .ref 19]) (g_c dX2_read_36 (g_c dX2_read_37 (g_c dX2_read_39 (g_c dX2_read_40 g_n)))) rfl rfl ?_
        refine V_gV C cv_X2_44 p18 ⟨_, _, _, _, rfl, rfl⟩ (by rfl) (by decide) (As := [.int (103 + v3)]) (rest := []) rfl rfl (Nat.le_of_ble_eq_true rfl) dX2_read_41 (fun rv s19 hq => ?_)
        obtain ⟨rfl, p20⟩ := hq
        refine V_blk C (pc' := 45) (σ' := s19) (L' := [some (.ref 19), none, some (.int v3)]) (st' := [.ref 19]) (g_c dX2_read_44 g_n) rfl rfl ?_
        refine V_gV C cv_X2_48 p20 ⟨_, _, _, _, rfl, rfl⟩ (by rfl) (by decide) (As := []) (rest := []) rfl rfl (Nat.le_of_ble_eq_true rfl) dX2_read_45 (fun rv s21 hq => ?_)
        obtain ⟨rfl, p22⟩ := hq
        refine V_blk C (pc' := 51) (σ' := s21) (L' := [some (.ref 19), none, some (.int v3)]) (st' := [.int 59, .ref 19]) (g_c dX2_read_48 (g_c dX2_read_49 g_n)) rfl rfl ?_
        refine V_gV C cv_X2_44 p22 ⟨_, _, _, _, rfl, rfl⟩ (by rfl) (by decide) (As := [.int 59]) (rest := []) rfl rfl (Nat.le_of_ble_eq_true rfl) dX2_read_51 (fun rv s23 hq => ?_)
        obtain ⟨rfl, p24⟩ := hq
        refine V_blk C (pc' := 55) (σ' := s23) (L' := [some (.ref 19), none, some (.int v3)]) (st' := [.ref 19]) (g_c dX2_read_54 g_n) rfl rfl ?_
        obtain ⟨t25, e26, l27, p28⟩ := p24
        refine V_getT C (t := t25) fl_X2_25 rfl rfl (by rfl) e26 l27 dX2_read_55 ?_
        refine V_get6 C (t := t25) (j := 1) l27 (by decide) fl_X2_51 (kR_tx (j := 0) l27 (by decide)) dX2_read_58 ?_
        refine V_blk C (pc' := 66) (σ' := s23) (L' := [some (.ref 19), none, some (.int v3)]) (st' := [.int (s23 19 3), .int v3, .ref (47 + 3 * t25)]) (g_c dX2_read_61 (g_c dX2_read_62 (g_c dX2_read_63 g_n))) rfl rfl ?_
        obtain ⟨j31, e32, l30, p29⟩ := p28
        refine V_iastJ C (j := j31) (k := (47 + 3 * t25)) (n := 3) (sh_ends l27) (kR_tx (j := 2) l27 (by decide)) e32 ⟨(by omega), (by omega)⟩ dX2_read_66 ?_
        refine V_blk C (pc' := 70) (σ' := (g_up s23 (47 + 3 * t25) j31 (s23 19 3))) (L' := [some (.ref 19), none, some (.int (v3 + 1))]) (st' := []) (g_c dX2_read_67 g_n) rfl rfl ?_
        refine V_goto C (tgt := 31) dX2_read_70 (by decide) ?_
        obtain ⟨k33, hkk33, hIk33⟩ := p29
        exact ih5 k33 hkk33 (v3 + 1) (g_up s23 (47 + 3 * t25) j31 (s23 19 3)) hIk33
  exact lp10 k9 0 s1 hI11
set_option maxRecDepth 100000 in
def P_X7_falls (h : Nat) (d : Int32) (hr : Int32) (wh : Int32) (σ : gS) (Qp : Option Value → gS → Prop) : Prop :=
  ((g_in d 0 ((σ 1 8) - 1) → ((g_in hr 0 23 → ((g_in wh 0 1 → (g_call yX7_dawn cX7_dawn 1 (some (.object "UnderTheRoof$Day")) kX h [.ref 0] σ (fun rv s9 => rv = some (.ref 26) ∧ (g_call yX5_where cX5_where 4 (some .int) kX h [.ref 33, .int d, .int hr] s9 (fun rv s11 => ∃ r13 : Int32, rv = some (.int r13) ∧ (((wh : Int32) = 1 → (Qp (some (.int r13)) s11)) ∧ (¬ (wh : Int32) = 1 → (g_call yX5_amount cX5_amount 6 (some .int) kX h [.ref 33, .int d, .int hr, .int r13] s11 (fun rv s16 => ∃ r18 : Int32, rv = some (.int r18) ∧ (Qp (some (.int r18)) s16)))))))))) ∧ (¬ g_in wh 0 1 → (Qp (some (.int (-2))) σ)))) ∧ (¬ g_in hr 0 23 → (Qp (some (.int (-2))) σ)))) ∧ (¬ g_in d 0 ((σ 1 8) - 1) → (Qp (some (.int (-2))) σ)))
set_option maxHeartbeats 4000000 in
set_option maxRecDepth 100000 in
theorem w_X7_falls {h : Nat} (hh : 6 ≤ h) {d : Int32} {hr : Int32} {wh : Int32} {σ : gS} {Qp : Option Value → gS → Prop} (P : P_X7_falls h d hr wh σ Qp) : g_Met yX7_falls cX7_falls 6 (some .int) h kX [.ref 0, .int d, .int hr, .int wh] σ Qp := by
  unfold P_X7_falls at P
  refine g_Met.of (own := 7) (L := [some (.ref 0), some (.int d), some (.int hr), some (.int wh), none, none]) (by decide) rfl rfl (fun ad => Nat.le_of_ble_eq_true rfl) (fun ad => rfl) (fun X G K C => ?_)
  refine V_blk C (pc' := 2) (σ' := σ) (L' := [some (.ref 0), some (.int d), some (.int hr), some (.int wh), none, none]) (st' := [.int d, .ref 0]) (g_c dX7_falls_0 (g_c dX7_falls_1 g_n)) rfl rfl ?_
  refine V_callVI C cv_X7_101 (c_X7_isDrip σ d) ⟨_, _, _, _, rfl, rfl⟩ (by rfl) (by omega) (by decide) (fun _ h => h) (As := [.int d]) (rest := []) rfl rfl (Nat.le_of_ble_eq_true rfl) dX7_falls_2 ?_
  refine V_if_eq_b C (tgt := 24) dX7_falls_5 (by decide) (fun h1 => ?_) (fun h1 => ?_)
  · skip
    have p2 := P.2 h1
    refine V_blk C (pc' := 26) (σ' := σ) (L' := [some (.ref 0), some (.int d), some (.int hr), some (.int wh), none, none]) (st' := [.int (-2)]) (g_c dX7_falls_24 g_n) rfl rfl ?_
    refine V_iret C dX7_falls_26 ?_
    exact p2
  · skip
    have p3 := P.1 h1
    refine V_blk C (pc' := 9) (σ' := σ) (L' := [some (.ref 0), some (.int d), some (.int hr), some (.int wh), none, none]) (st' := [.int hr]) (g_c dX7_falls_8 g_n) rfl rfl ?_
    refine V_callSI C cs_X7_82 (c_X7_isHour σ hr) (by omega) (by decide) (fun _ h => h) (As := [.int hr]) (rest := []) rfl rfl (Nat.le_of_ble_eq_true rfl) dX7_falls_9 ?_
    refine V_if_eq_b C (tgt := 24) dX7_falls_12 (by decide) (fun h4 => ?_) (fun h4 => ?_)
    · skip
      have p5 := p3.2 h4
      refine V_blk C (pc' := 26) (σ' := σ) (L' := [some (.ref 0), some (.int d), some (.int hr), some (.int wh), none, none]) (st' := [.int (-2)]) (g_c dX7_falls_24 g_n) rfl rfl ?_
      refine V_iret C dX7_falls_26 ?_
      exact p5
    · skip
      have p6 := p3.1 h4
      refine V_blk C (pc' := 18) (σ' := σ) (L' := [some (.ref 0), some (.int d), some (.int hr), some (.int wh), none, none]) (st' := [.int 1, .int 0, .int wh]) (g_c dX7_falls_15 (g_c dX7_falls_16 (g_c dX7_falls_17 g_n))) rfl rfl ?_
      refine V_callSI C cs_X7_85 (c_X7_isIn σ wh 0 1) (by omega) (by decide) (fun _ h => h) (As := [.int wh, .int 0, .int 1]) (rest := []) rfl rfl (Nat.le_of_ble_eq_true rfl) dX7_falls_18 ?_
      refine V_if_ne_b C (tgt := 27) dX7_falls_21 (by decide) (fun h7 => ?_) (fun h7 => ?_)
      · skip
        have p8 := p6.1 h7
        refine V_blk C (pc' := 28) (σ' := σ) (L' := [some (.ref 0), some (.int d), some (.int hr), some (.int wh), none, none]) (st' := [.ref 0]) (g_c dX7_falls_27 g_n) rfl rfl ?_
        refine V_gV C cv_X7_140 p8 ⟨_, _, _, _, rfl, rfl⟩ (by rfl) (by decide) (As := []) (rest := []) rfl rfl (Nat.le_of_ble_eq_true rfl) dX7_falls_28 (fun rv s9 hq => ?_)
        obtain ⟨rfl, p10⟩ := hq
        refine V_blk C (pc' := 40) (σ' := s9) (L' := [some (.ref 0), some (.int d), some (.int hr), some (.int wh), some (.ref 33), none]) (st' := [.int hr, .int d, .ref 33]) (g_c dX7_falls_31 (g_c dX7_falls_34 (g_c dX7_falls_36 (g_c dX7_falls_38 (g_c dX7_falls_39 g_n))))) rfl rfl ?_
        refine V_gV C cv_X7_148 p10 ⟨_, _, _, _, rfl, rfl⟩ (by rfl) (by decide) (As := [.int d, .int hr]) (rest := []) rfl rfl (Nat.le_of_ble_eq_true rfl) dX7_falls_40 (fun rv s11 hq => ?_)
        obtain ⟨r13, rfl, p12⟩ := hq
        refine V_blk C (pc' := 47) (σ' := s11) (L' := [some (.ref 0), some (.int d), some (.int hr), some (.int wh), some (.ref 33), some (.int r13)]) (st' := [.int 1, .int wh]) (g_c dX7_falls_43 (g_c dX7_falls_45 (g_c dX7_falls_46 g_n))) rfl rfl ?_
        refine V_icmp_ne C (tgt := 55) dX7_falls_47 (by decide) (fun h14 => ?_) (fun h14 => ?_)
        · skip
          have p15 := p12.2 h14
          refine V_blk C (pc' := 61) (σ' := s11) (L' := [some (.ref 0), some (.int d), some (.int hr), some (.int wh), some (.ref 33), some (.int r13)]) (st' := [.int r13, .int hr, .int d, .ref 33]) (g_c dX7_falls_55 (g_c dX7_falls_57 (g_c dX7_falls_58 (g_c dX7_falls_59 g_n)))) rfl rfl ?_
          refine V_gV C cv_X7_153 p15 ⟨_, _, _, _, rfl, rfl⟩ (by rfl) (by decide) (As := [.int d, .int hr, .int r13]) (rest := []) rfl rfl (Nat.le_of_ble_eq_true rfl) dX7_falls_61 (fun rv s16 hq => ?_)
          obtain ⟨r18, rfl, p17⟩ := hq
          refine V_iret C dX7_falls_64 ?_
          exact p17
        · skip
          have p19 := p12.1 h14
          refine V_blk C (pc' := 52) (σ' := s11) (L' := [some (.ref 0), some (.int d), some (.int hr), some (.int wh), some (.ref 33), some (.int r13)]) (st' := [.int r13]) (g_c dX7_falls_50 g_n) rfl rfl ?_
          refine V_goto C (tgt := 64) dX7_falls_52 (by decide) ?_
          refine V_iret C dX7_falls_64 ?_
          exact p19
      · skip
        have p20 := p6.2 h7
        refine V_blk C (pc' := 26) (σ' := σ) (L' := [some (.ref 0), some (.int d), some (.int hr), some (.int wh), none, none]) (st' := [.int (-2)]) (g_c dX7_falls_24 g_n) rfl rfl ?_
        refine V_iret C dX7_falls_26 ?_
        exact p20
set_option maxRecDepth 100000 in
def P_X7_text (h : Nat)  (σ : gS) (Qp : Option Value → gS → Prop) : Prop :=
  ((g_in (σ 0 5) 0 5 → (∃ j5 : Nat, (σ 0 5) = nI j5 ∧ j5 < 6 ∧ (g_call yX2_read cX2_read 3 (some .int) kX h [.ref 19, .ref (45 + 3 * j5)] σ (fun rv s8 => ∃ r10 : Int32, rv = some (.int r10) ∧ (((r10 : Int32) = (-1) → (Qp (some (.int (((s8 0 5) + 1) - 1))) (g_up s8 0 5 ((s8 0 5) + 1)))) ∧ (¬ (r10 : Int32) = (-1) → (Qp (some (.int ((-100) - r10))) s8))))))) ∧ (¬ g_in (σ 0 5) 0 5 → (Qp (some (.int (-4))) σ)))
set_option maxHeartbeats 4000000 in
set_option maxRecDepth 100000 in
theorem w_X7_text {h : Nat} (hh : 6 ≤ h)  {σ : gS} {Qp : Option Value → gS → Prop} (P : P_X7_text h  σ Qp) : g_Met yX7_text cX7_text 2 (some .int) h kX [.ref 0] σ Qp := by
  unfold P_X7_text at P
  refine g_Met.of (own := 7) (L := [some (.ref 0), none]) (by decide) rfl rfl (fun ad => Nat.le_of_ble_eq_true rfl) (fun ad => rfl) (fun X G K C => ?_)
  refine V_blk C (pc' := 6) (σ' := σ) (L' := [some (.ref 0), none]) (st' := [.int 5, .int 0, .int (σ 0 5)]) (g_c dX7_text_0 (g_c dX7_text_1 (g_c dX7_text_4 (g_c dX7_text_5 g_n)))) rfl rfl ?_
  refine V_callSI C cs_X7_85 (c_X7_isIn σ (σ 0 5) 0 5) (by omega) (by decide) (fun _ h => h) (As := [.int (σ 0 5), .int 0, .int 5]) (rest := []) rfl rfl (Nat.le_of_ble_eq_true rfl) dX7_text_6 ?_
  refine V_if_ne_b C (tgt := 15) dX7_text_9 (by decide) (fun h1 => ?_) (fun h1 => ?_)
  · skip
    have p2 := P.1 h1
    refine V_blk C (pc' := 27) (σ' := σ) (L' := [some (.ref 0), none]) (st' := [.int (σ 0 5), .ref 21, .ref 19]) (g_c dX7_text_15 (g_c dX7_text_16 (g_c dX7_text_19 (g_c dX7_text_20 (g_c dX7_text_23 (g_c dX7_text_24 g_n)))))) rfl rfl ?_
    obtain ⟨j5, e6, l4, p3⟩ := p2
    refine V_eq rfl rfl (st' := [.int (nI j5), .ref 21, .ref 19]) (by rw [← e6]) ?_
    have g7 : j5 < 6 := (by omega)
    refine V_aldT C (i := j5) g7 (by rfl) dX7_text_27 ?_
    refine V_gV C cv_X7_56 p3 ⟨_, _, _, _, rfl, rfl⟩ (by rfl) (by decide) (As := [.ref (45 + 3 * j5)]) (rest := []) rfl rfl (Nat.le_of_ble_eq_true rfl) dX7_text_28 (fun rv s8 hq => ?_)
    obtain ⟨r10, rfl, p9⟩ := hq
    refine V_blk C (pc' := 34) (σ' := s8) (L' := [some (.ref 0), some (.int r10)]) (st' := [.int (-1), .int r10]) (g_c dX7_text_31 (g_c dX7_text_32 (g_c dX7_text_33 g_n))) rfl rfl ?_
    refine V_icmp_eq C (tgt := 42) dX7_text_34 (by decide) (fun h11 => ?_) (fun h11 => ?_)
    · skip
      have p12 := p9.1 h11
      refine V_blk C (pc' := 58) (σ' := (g_up s8 0 5 ((s8 0 5) + 1))) (L' := [some (.ref 0), some (.int r10)]) (st' := [.int (((s8 0 5) + 1) - 1)]) (g_c dX7_text_42 (g_c dX7_text_43 (g_c dX7_text_44 (g_c dX7_text_47 (g_c dX7_text_48 (g_c dX7_text_49 (g_c dX7_text_52 (g_c dX7_text_53 (g_c dX7_text_56 (g_c dX7_text_57 g_n)))))))))) rfl rfl ?_
      refine V_iret C dX7_text_58 ?_
      exact p12
    · skip
      have p13 := p9.2 h11
      refine V_blk C (pc' := 41) (σ' := s8) (L' := [some (.ref 0), some (.int r10)]) (st' := [.int ((-100) - r10)]) (g_c dX7_text_37 (g_c dX7_text_39 (g_c dX7_text_40 g_n))) rfl rfl ?_
      refine V_iret C dX7_text_41 ?_
      exact p13
  · skip
    have p14 := P.2 h1
    refine V_blk C (pc' := 14) (σ' := σ) (L' := [some (.ref 0), none]) (st' := [.int (-4)]) (g_c dX7_text_12 g_n) rfl rfl ?_
    refine V_iret C dX7_text_14 ?_
    exact p14
set_option maxRecDepth 100000 in
def P_X7_day (h : Nat) (wh : Int32) (σ : gS) (Qp : Option Value → gS → Prop) : Prop :=
  ((g_in wh 0 5 → (g_call yX7_dawn cX7_dawn 1 (some (.object "UnderTheRoof$Day")) kX h [.ref 0] σ (fun rv s3 => rv = some (.ref 26) ∧ (g_call yX0_costInAll cX0_costInAll 1 (some .int) kX h [.ref 26] s3 (fun rv s5 => ∃ r7 : Int32, rv = some (.int r7) ∧ ((wh = 0 → (Qp (some (.int (s5 26 13))) s5)) ∧ (¬ wh = 0 → ((wh = 1 → (Qp (some (.int (s5 26 14))) s5)) ∧ (¬ wh = 1 → ((wh = 2 → (Qp (some (.int r7)) s5)) ∧ (¬ wh = 2 → ((wh = 3 → (Qp (some (.int (s5 26 15))) s5)) ∧ (¬ wh = 3 → ((wh = 4 → (Qp (some (.int (s5 26 16))) s5)) ∧ (¬ wh = 4 → (Qp (some (.int (s5 26 17))) s5)))))))))))))))) ∧ (¬ g_in wh 0 5 → (Qp (some (.int (-2))) σ)))
set_option maxHeartbeats 4000000 in
set_option maxRecDepth 100000 in
theorem w_X7_day {h : Nat} (hh : 6 ≤ h) {wh : Int32} {σ : gS} {Qp : Option Value → gS → Prop} (P : P_X7_day h wh σ Qp) : g_Met yX7_day cX7_day 3 (some .int) h kX [.ref 0, .int wh] σ Qp := by
  unfold P_X7_day at P
  refine g_Met.of (own := 7) (L := [some (.ref 0), some (.int wh), none]) (by decide) rfl rfl (fun ad => Nat.le_of_ble_eq_true rfl) (fun ad => rfl) (fun X G K C => ?_)
  refine V_blk C (pc' := 3) (σ' := σ) (L' := [some (.ref 0), some (.int wh), none]) (st' := [.int 5, .int 0, .int wh]) (g_c dX7_day_0 (g_c dX7_day_1 (g_c dX7_day_2 g_n))) rfl rfl ?_
  refine V_callSI C cs_X7_85 (c_X7_isIn σ wh 0 5) (by omega) (by decide) (fun _ h => h) (As := [.int wh, .int 0, .int 5]) (rest := []) rfl rfl (Nat.le_of_ble_eq_true rfl) dX7_day_3 ?_
  refine V_if_ne_b C (tgt := 12) dX7_day_6 (by decide) (fun h1 => ?_) (fun h1 => ?_)
  · skip
    have p2 := P.1 h1
    refine V_blk C (pc' := 13) (σ' := σ) (L' := [some (.ref 0), some (.int wh), none]) (st' := [.ref 0]) (g_c dX7_day_12 g_n) rfl rfl ?_
    refine V_gV C cv_X7_140 p2 ⟨_, _, _, _, rfl, rfl⟩ (by rfl) (by decide) (As := []) (rest := []) rfl rfl (Nat.le_of_ble_eq_true rfl) dX7_day_13 (fun rv s3 hq => ?_)
    obtain ⟨rfl, p4⟩ := hq
    refine V_gV C cv_X7_161 p4 ⟨_, _, _, _, rfl, rfl⟩ (by rfl) (by decide) (As := []) (rest := []) rfl rfl (Nat.le_of_ble_eq_true rfl) dX7_day_16 (fun rv s5 hq => ?_)
    obtain ⟨r7, rfl, p6⟩ := hq
    refine V_blk C (pc' := 21) (σ' := s5) (L' := [some (.ref 0), some (.int wh), some (.int r7)]) (st' := [.int wh]) (g_c dX7_day_19 (g_c dX7_day_20 g_n)) rfl rfl ?_
    refine V_tsw C 0 35 (tgt := 56) dX7_day_21 (by decide) (by decide) (by decide) (by decide) (fun h8 => ?_) (fun h8 => ?_)
    · skip
      have p9 := p6.1 h8
      refine V_blk C (pc' := 63) (σ' := s5) (L' := [some (.ref 0), some (.int wh), some (.int r7)]) (st' := [.int (s5 26 13)]) (g_c dX7_day_56 (g_c dX7_day_57 (g_c dX7_day_60 g_n))) rfl rfl ?_
      refine V_iret C dX7_day_63 ?_
      exact p9
    · skip
      have p10 := p6.2 h8
      refine V_tsw C 1 43 (tgt := 64) dX7_day_21 (by decide) (by decide) (by decide) (by decide) (fun h11 => ?_) (fun h11 => ?_)
      · skip
        have p12 := p10.1 h11
        refine V_blk C (pc' := 71) (σ' := s5) (L' := [some (.ref 0), some (.int wh), some (.int r7)]) (st' := [.int (s5 26 14)]) (g_c dX7_day_64 (g_c dX7_day_65 (g_c dX7_day_68 g_n))) rfl rfl ?_
        refine V_iret C dX7_day_71 ?_
        exact p12
      · skip
        have p13 := p10.2 h11
        refine V_tsw C 2 51 (tgt := 72) dX7_day_21 (by decide) (by decide) (by decide) (by decide) (fun h14 => ?_) (fun h14 => ?_)
        · skip
          have p15 := p13.1 h14
          refine V_blk C (pc' := 73) (σ' := s5) (L' := [some (.ref 0), some (.int wh), some (.int r7)]) (st' := [.int r7]) (g_c dX7_day_72 g_n) rfl rfl ?_
          refine V_iret C dX7_day_73 ?_
          exact p15
        · skip
          have p16 := p13.2 h14
          refine V_tsw C 3 53 (tgt := 74) dX7_day_21 (by decide) (by decide) (by decide) (by decide) (fun h17 => ?_) (fun h17 => ?_)
          · skip
            have p18 := p16.1 h17
            refine V_blk C (pc' := 81) (σ' := s5) (L' := [some (.ref 0), some (.int wh), some (.int r7)]) (st' := [.int (s5 26 15)]) (g_c dX7_day_74 (g_c dX7_day_75 (g_c dX7_day_78 g_n))) rfl rfl ?_
            refine V_iret C dX7_day_81 ?_
            exact p18
          · skip
            have p19 := p16.2 h17
            refine V_tsw C 4 61 (tgt := 82) dX7_day_21 (by decide) (by decide) (by decide) (by decide) (fun h20 => ?_) (fun h20 => ?_)
            · skip
              have p21 := p19.1 h20
              refine V_blk C (pc' := 89) (σ' := s5) (L' := [some (.ref 0), some (.int wh), some (.int r7)]) (st' := [.int (s5 26 16)]) (g_c dX7_day_82 (g_c dX7_day_83 (g_c dX7_day_86 g_n))) rfl rfl ?_
              refine V_iret C dX7_day_89 ?_
              exact p21
            · skip
              have p22 := p19.2 h20
              refine V_tso C (tgt := 90) dX7_day_21 (g_tso [0, 1, 2, 3, 4] (by decide) (List.forall_mem_cons.mpr ⟨h8, (List.forall_mem_cons.mpr ⟨h11, (List.forall_mem_cons.mpr ⟨h14, (List.forall_mem_cons.mpr ⟨h17, (List.forall_mem_cons.mpr ⟨h20, (fun _ h => absurd h List.not_mem_nil)⟩)⟩)⟩)⟩)⟩)) (by decide) ?_
              refine V_blk C (pc' := 97) (σ' := s5) (L' := [some (.ref 0), some (.int wh), some (.int r7)]) (st' := [.int (s5 26 17)]) (g_c dX7_day_90 (g_c dX7_day_91 (g_c dX7_day_94 g_n))) rfl rfl ?_
              refine V_iret C dX7_day_97 ?_
              exact p22
  · skip
    have p23 := P.2 h1
    refine V_blk C (pc' := 11) (σ' := σ) (L' := [some (.ref 0), some (.int wh), none]) (st' := [.int (-2)]) (g_c dX7_day_9 g_n) rfl rfl ?_
    refine V_iret C dX7_day_11 ?_
    exact p23
set_option maxRecDepth 100000 in
def P_X7_water (h : Nat) (of_ : Int32) (hr : Int32) (wh : Int32) (σ : gS) (Qp : Option Value → gS → Prop) : Prop :=
  ((g_in wh 0 1 → ((g_in hr 0 23 → (∃ J7 : Prop, (((wh : Int32) = 0 → ((g_in of_ 0 ((σ 1 9) - 1) → (J7)) ∧ (¬ g_in of_ 0 ((σ 1 9) - 1) → (Qp (some (.int (-2))) σ)))) ∧ (¬ (wh : Int32) = 0 → ((g_in of_ 0 7 → (J7)) ∧ (¬ g_in of_ 0 7 → (Qp (some (.int (-2))) σ))))) ∧ (J7 → (g_call yX7_dawn cX7_dawn 1 (some (.object "UnderTheRoof$Day")) kX h [.ref 0] σ (fun rv s13 => rv = some (.ref 26) ∧ (g_call yX0_lay cX0_lay 2 none kX h [.ref 26] s13 (fun rv s15 => rv = none ∧ (g_call yX0_run cX0_run 4 none kX h [.ref 26, .int (hr + 1), .int 2147483647] s15 (fun rv s17 => rv = none ∧ (((wh : Int32) = 0 → (∃ j28 : Nat, of_ = nI j28 ∧ j28 < 5 ∧ (Qp (some (.int (s17 29 j28))) s17))) ∧ (¬ (wh : Int32) = 0 → (∃ j23 : Nat, of_ = nI j23 ∧ j23 < 8 ∧ (Qp (some (.int (s17 30 j23))) s17))))))))))))) ∧ (¬ g_in hr 0 23 → (Qp (some (.int (-2))) σ)))) ∧ (¬ g_in wh 0 1 → (Qp (some (.int (-2))) σ)))
set_option maxHeartbeats 4000000 in
set_option maxRecDepth 100000 in
theorem w_X7_water {h : Nat} (hh : 6 ≤ h) {of_ : Int32} {hr : Int32} {wh : Int32} {σ : gS} {Qp : Option Value → gS → Prop} (P : P_X7_water h of_ hr wh σ Qp) : g_Met yX7_water cX7_water 4 (some .int) h kX [.ref 0, .int of_, .int hr, .int wh] σ Qp := by
  unfold P_X7_water at P
  refine g_Met.of (own := 7) (L := [some (.ref 0), some (.int of_), some (.int hr), some (.int wh)]) (by decide) rfl rfl (fun ad => Nat.le_of_ble_eq_true rfl) (fun ad => rfl) (fun X G K C => ?_)
  refine V_blk C (pc' := 3) (σ' := σ) (L' := [some (.ref 0), some (.int of_), some (.int hr), some (.int wh)]) (st' := [.int 1, .int 0, .int wh]) (g_c dX7_water_0 (g_c dX7_water_1 (g_c dX7_water_2 g_n))) rfl rfl ?_
  refine V_callSI C cs_X7_85 (c_X7_isIn σ wh 0 1) (by omega) (by decide) (fun _ h => h) (As := [.int wh, .int 0, .int 1]) (rest := []) rfl rfl (Nat.le_of_ble_eq_true rfl) dX7_water_3 ?_
  refine V_if_eq_b C (tgt := 38) dX7_water_6 (by decide) (fun h1 => ?_) (fun h1 => ?_)
  · skip
    have p2 := P.2 h1
    refine V_blk C (pc' := 40) (σ' := σ) (L' := [some (.ref 0), some (.int of_), some (.int hr), some (.int wh)]) (st' := [.int (-2)]) (g_c dX7_water_38 g_n) rfl rfl ?_
    refine V_iret C dX7_water_40 ?_
    exact p2
  · skip
    have p3 := P.1 h1
    refine V_blk C (pc' := 10) (σ' := σ) (L' := [some (.ref 0), some (.int of_), some (.int hr), some (.int wh)]) (st' := [.int hr]) (g_c dX7_water_9 g_n) rfl rfl ?_
    refine V_callSI C cs_X7_82 (c_X7_isHour σ hr) (by omega) (by decide) (fun _ h => h) (As := [.int hr]) (rest := []) rfl rfl (Nat.le_of_ble_eq_true rfl) dX7_water_10 ?_
    refine V_if_eq_b C (tgt := 38) dX7_water_13 (by decide) (fun h4 => ?_) (fun h4 => ?_)
    · skip
      have p5 := p3.2 h4
      refine V_blk C (pc' := 40) (σ' := σ) (L' := [some (.ref 0), some (.int of_), some (.int hr), some (.int wh)]) (st' := [.int (-2)]) (g_c dX7_water_38 g_n) rfl rfl ?_
      refine V_iret C dX7_water_40 ?_
      exact p5
    · skip
      have p6 := p3.1 h4
      refine V_blk C (pc' := 17) (σ' := σ) (L' := [some (.ref 0), some (.int of_), some (.int hr), some (.int wh)]) (st' := [.int wh]) (g_c dX7_water_16 g_n) rfl rfl ?_
      obtain ⟨J7, p9, p10⟩ := p6
      have jn8 : ∀ (_ : J7 ), gV X G K 4 Qp σ [some (.ref 0), some (.int of_), some (.int hr), some (.int wh)] [] 41 := by
        intro  hJ11
        have p12 := p10  hJ11
        refine V_blk C (pc' := 42) (σ' := σ) (L' := [some (.ref 0), some (.int of_), some (.int hr), some (.int wh)]) (st' := [.ref 0]) (g_c dX7_water_41 g_n) rfl rfl ?_
        refine V_gV C cv_X7_140 p12 ⟨_, _, _, _, rfl, rfl⟩ (by rfl) (by decide) (As := []) (rest := []) rfl rfl (Nat.le_of_ble_eq_true rfl) dX7_water_42 (fun rv s13 hq => ?_)
        obtain ⟨rfl, p14⟩ := hq
        refine V_gV C cv_X7_179 p14 ⟨_, _, _, _, rfl, rfl⟩ (by rfl) (by decide) (As := []) (rest := []) rfl rfl (Nat.le_of_ble_eq_true rfl) dX7_water_45 (fun rv s15 hq => ?_)
        obtain ⟨rfl, p16⟩ := hq
        refine V_blk C (pc' := 57) (σ' := s15) (L' := [some (.ref 0), some (.int of_), some (.int hr), some (.int wh)]) (st' := [.int 2147483647, .int (hr + 1), .ref 26]) (g_c dX7_water_48 (g_c dX7_water_49 (g_c dX7_water_52 (g_c dX7_water_53 (g_c dX7_water_54 (g_c dX7_water_55 g_n)))))) rfl rfl ?_
        refine V_gV C cv_X7_183 p16 ⟨_, _, _, _, rfl, rfl⟩ (by rfl) (by decide) (As := [.int (hr + 1), .int 2147483647]) (rest := []) rfl rfl (Nat.le_of_ble_eq_true rfl) dX7_water_57 (fun rv s17 hq => ?_)
        obtain ⟨rfl, p18⟩ := hq
        refine V_blk C (pc' := 61) (σ' := s17) (L' := [some (.ref 0), some (.int of_), some (.int hr), some (.int wh)]) (st' := [.int wh]) (g_c dX7_water_60 g_n) rfl rfl ?_
        refine V_if_ne C (tgt := 76) dX7_water_61 (by decide) (fun h19 => ?_) (fun h19 => ?_)
        · skip
          have p20 := p18.2 h19
          refine V_blk C (pc' := 84) (σ' := s17) (L' := [some (.ref 0), some (.int of_), some (.int hr), some (.int wh)]) (st' := [.int of_, .ref 30]) (g_c dX7_water_76 (g_c dX7_water_77 (g_c dX7_water_80 (g_c dX7_water_83 g_n)))) rfl rfl ?_
          obtain ⟨j23, e24, l22, p21⟩ := p20
          refine V_ialdJ C (j := j23) (k := 30) (n := 8) (by rfl) (by rfl) e24 ⟨(by omega), (by omega)⟩ dX7_water_84 ?_
          refine V_iret C dX7_water_85 ?_
          exact p21
        · skip
          have p25 := p18.1 h19
          refine V_blk C (pc' := 72) (σ' := s17) (L' := [some (.ref 0), some (.int of_), some (.int hr), some (.int wh)]) (st' := [.int of_, .ref 29]) (g_c dX7_water_64 (g_c dX7_water_65 (g_c dX7_water_68 (g_c dX7_water_71 g_n)))) rfl rfl ?_
          obtain ⟨j28, e29, l27, p26⟩ := p25
          refine V_ialdJ C (j := j28) (k := 29) (n := 5) (by rfl) (by rfl) e29 ⟨(by omega), (by omega)⟩ dX7_water_72 ?_
          refine V_goto C (tgt := 85) dX7_water_73 (by decide) ?_
          refine V_iret C dX7_water_85 ?_
          exact p26
      refine V_if_ne C (tgt := 31) dX7_water_17 (by decide) (fun h30 => ?_) (fun h30 => ?_)
      · skip
        have p31 := p9.2 h30
        refine V_blk C (pc' := 32) (σ' := σ) (L' := [some (.ref 0), some (.int of_), some (.int hr), some (.int wh)]) (st' := [.int of_]) (g_c dX7_water_31 g_n) rfl rfl ?_
        refine V_callSI C cs_X7_110 (c_X7_isPlace σ of_) (by omega) (by decide) (fun _ h => h) (As := [.int of_]) (rest := []) rfl rfl (Nat.le_of_ble_eq_true rfl) dX7_water_32 ?_
        refine V_if_ne_b C (tgt := 41) dX7_water_35 (by decide) (fun h32 => ?_) (fun h32 => ?_)
        · skip
          have p33 := p31.1 h32
          exact jn8 p33
        · skip
          have p34 := p31.2 h32
          refine V_blk C (pc' := 40) (σ' := σ) (L' := [some (.ref 0), some (.int of_), some (.int hr), some (.int wh)]) (st' := [.int (-2)]) (g_c dX7_water_38 g_n) rfl rfl ?_
          refine V_iret C dX7_water_40 ?_
          exact p34
      · skip
        have p35 := p9.1 h30
        refine V_blk C (pc' := 22) (σ' := σ) (L' := [some (.ref 0), some (.int of_), some (.int hr), some (.int wh)]) (st' := [.int of_, .ref 0]) (g_c dX7_water_20 (g_c dX7_water_21 g_n)) rfl rfl ?_
        refine V_callVI C cv_X7_137 (c_X7_isVessel σ of_) ⟨_, _, _, _, rfl, rfl⟩ (by rfl) (by omega) (by decide) (fun _ h => h) (As := [.int of_]) (rest := []) rfl rfl (Nat.le_of_ble_eq_true rfl) dX7_water_22 ?_
        refine V_if_eq_b C (tgt := 38) dX7_water_25 (by decide) (fun h36 => ?_) (fun h36 => ?_)
        · skip
          have p37 := p35.2 h36
          refine V_blk C (pc' := 40) (σ' := σ) (L' := [some (.ref 0), some (.int of_), some (.int hr), some (.int wh)]) (st' := [.int (-2)]) (g_c dX7_water_38 g_n) rfl rfl ?_
          refine V_iret C dX7_water_40 ?_
          exact p37
        · skip
          have p38 := p35.1 h36
          refine V_goto C (tgt := 41) dX7_water_28 (by decide) ?_
          exact jn8 p38
set_option maxRecDepth 100000 in
def P_X7_pass (h : Nat) (n : Int32) (σ : gS) (Qp : Option Value → gS → Prop) : Prop :=
  ((g_in n 0 24 → (g_call yX7_dawn cX7_dawn 1 (some (.object "UnderTheRoof$Day")) kX h [.ref 0] σ (fun rv s3 => rv = some (.ref 26) ∧ (g_call yX0_lay cX0_lay 2 none kX h [.ref 26] s3 (fun rv s5 => rv = none ∧ (g_call yX0_run cX0_run 4 none kX h [.ref 26, .int n, .int 2147483647] s5 (fun rv s7 => rv = none ∧ (∃ I10 : Nat → Int32 → gS → Prop, (∃ k15 : Nat, I10 k15 0 s7) ∧ ∀ (k12 : Nat) (v9 : Int32) (s18 : gS), I10 k12 v9 s18 → (((v9 : Int32) < 5 → (∃ j28 : Nat, v9 = nI j28 ∧ j28 < 5 ∧ (∃ k30 : Nat, k30 < k12 ∧ I10 k30 (v9 + 1) (g_up s18 9 j28 (s18 29 j28))))) ∧ (¬ (v9 : Int32) < 5 → (g_call yX0_cost cX0_cost 1 (some .int) kX h [.ref 26] s18 (fun rv s22 => ∃ r24 : Int32, rv = some (.int r24) ∧ (Qp (some (.int r24)) s22))))))))))))) ∧ (¬ g_in n 0 24 → (Qp (some (.int (-2))) σ)))
set_option maxHeartbeats 4000000 in
set_option maxRecDepth 100000 in
theorem w_X7_pass {h : Nat} (hh : 6 ≤ h) {n : Int32} {σ : gS} {Qp : Option Value → gS → Prop} (P : P_X7_pass h n σ Qp) : g_Met yX7_pass cX7_pass 3 (some .int) h kX [.ref 0, .int n] σ Qp := by
  unfold P_X7_pass at P
  refine g_Met.of (own := 7) (L := [some (.ref 0), some (.int n), none]) (by decide) rfl rfl (fun ad => Nat.le_of_ble_eq_true rfl) (fun ad => rfl) (fun X G K C => ?_)
  refine V_blk C (pc' := 4) (σ' := σ) (L' := [some (.ref 0), some (.int n), none]) (st' := [.int 24, .int 0, .int n]) (g_c dX7_pass_0 (g_c dX7_pass_1 (g_c dX7_pass_2 g_n))) rfl rfl ?_
  refine V_callSI C cs_X7_85 (c_X7_isIn σ n 0 24) (by omega) (by decide) (fun _ h => h) (As := [.int n, .int 0, .int 24]) (rest := []) rfl rfl (Nat.le_of_ble_eq_true rfl) dX7_pass_4 ?_
  refine V_if_ne_b C (tgt := 13) dX7_pass_7 (by decide) (fun h1 => ?_) (fun h1 => ?_)
  · skip
    have p2 := P.1 h1
    refine V_blk C (pc' := 14) (σ' := σ) (L' := [some (.ref 0), some (.int n), none]) (st' := [.ref 0]) (g_c dX7_pass_13 g_n) rfl rfl ?_
    refine V_gV C cv_X7_140 p2 ⟨_, _, _, _, rfl, rfl⟩ (by rfl) (by decide) (As := []) (rest := []) rfl rfl (Nat.le_of_ble_eq_true rfl) dX7_pass_14 (fun rv s3 hq => ?_)
    obtain ⟨rfl, p4⟩ := hq
    refine V_gV C cv_X7_179 p4 ⟨_, _, _, _, rfl, rfl⟩ (by rfl) (by decide) (As := []) (rest := []) rfl rfl (Nat.le_of_ble_eq_true rfl) dX7_pass_17 (fun rv s5 hq => ?_)
    obtain ⟨rfl, p6⟩ := hq
    refine V_blk C (pc' := 27) (σ' := s5) (L' := [some (.ref 0), some (.int n), none]) (st' := [.int 2147483647, .int n, .ref 26]) (g_c dX7_pass_20 (g_c dX7_pass_21 (g_c dX7_pass_24 (g_c dX7_pass_25 g_n)))) rfl rfl ?_
    refine V_gV C cv_X7_183 p6 ⟨_, _, _, _, rfl, rfl⟩ (by rfl) (by decide) (As := [.int n, .int 2147483647]) (rest := []) rfl rfl (Nat.le_of_ble_eq_true rfl) dX7_pass_27 (fun rv s7 hq => ?_)
    obtain ⟨rfl, p8⟩ := hq
    refine V_blk C (pc' := 32) (σ' := s7) (L' := [some (.ref 0), some (.int n), some (.int 0)]) (st' := []) (g_c dX7_pass_30 (g_c dX7_pass_31 g_n)) rfl rfl ?_
    refine V_less (L' := [some (.ref 0), none, some (.int 0)]) (by simp [g_subL]) ?_
    obtain ⟨I10, ⟨k15, hI17⟩, hS14⟩ := p8
    have lp16 : ∀ (k12 : Nat) (v9 : Int32) (s18 : gS), I10 k12 v9 s18 → gV X G K 3 Qp s18 [some (.ref 0), none, some (.int v9)] [] 32 := by
      intro k12
      induction k12 using Nat.strongRecOn with
      | ind k12 ih11 =>
        intro v9 s18 hI13
        have p19 := hS14 k12 v9 s18 hI13
        refine V_blk C (pc' := 34) (σ' := s18) (L' := [some (.ref 0), none, some (.int v9)]) (st' := [.int 5, .int v9]) (g_c dX7_pass_32 (g_c dX7_pass_33 g_n)) rfl rfl ?_
        refine V_icmp_ge2 C (tgt := 61) dX7_pass_34 (by decide) (fun h20 => ?_) (fun h20 => ?_)
        · skip
          have p21 := p19.2 h20
          refine V_blk C (pc' := 65) (σ' := s18) (L' := [some (.ref 0), none, some (.int v9)]) (st' := [.ref 26]) (g_c dX7_pass_61 (g_c dX7_pass_62 g_n)) rfl rfl ?_
          refine V_gV C cv_X7_191 p21 ⟨_, _, _, _, rfl, rfl⟩ (by rfl) (by decide) (As := []) (rest := []) rfl rfl (Nat.le_of_ble_eq_true rfl) dX7_pass_65 (fun rv s22 hq => ?_)
          obtain ⟨r24, rfl, p23⟩ := hq
          refine V_iret C dX7_pass_68 ?_
          exact p23
        · skip
          have p25 := p19.1 h20
          refine V_blk C (pc' := 53) (σ' := s18) (L' := [some (.ref 0), none, some (.int v9)]) (st' := [.int v9, .ref 29, .int v9, .ref 9]) (g_c dX7_pass_37 (g_c dX7_pass_38 (g_c dX7_pass_41 (g_c dX7_pass_44 (g_c dX7_pass_45 (g_c dX7_pass_46 (g_c dX7_pass_49 (g_c dX7_pass_52 g_n)))))))) rfl rfl ?_
          obtain ⟨j28, e29, l27, p26⟩ := p25
          refine V_ialdJ C (j := j28) (k := 29) (n := 5) (by rfl) (by rfl) e29 ⟨(by omega), (by omega)⟩ dX7_pass_53 ?_
          refine V_iastJ C (j := j28) (k := 9) (n := 5) (by rfl) (by rfl) e29 ⟨(by omega), (by omega)⟩ dX7_pass_54 ?_
          refine V_blk C (pc' := 58) (σ' := (g_up s18 9 j28 (s18 29 j28))) (L' := [some (.ref 0), none, some (.int (v9 + 1))]) (st' := []) (g_c dX7_pass_55 g_n) rfl rfl ?_
          refine V_goto C (tgt := 32) dX7_pass_58 (by decide) ?_
          obtain ⟨k30, hkk30, hIk30⟩ := p26
          exact ih11 k30 hkk30 (v9 + 1) (g_up s18 9 j28 (s18 29 j28)) hIk30
    exact lp16 k15 0 s7 hI17
  · skip
    have p31 := P.2 h1
    refine V_blk C (pc' := 12) (σ' := σ) (L' := [some (.ref 0), some (.int n), none]) (st' := [.int (-2)]) (g_c dX7_pass_10 g_n) rfl rfl ?_
    refine V_iret C dX7_pass_12 ?_
    exact p31
set_option maxRecDepth 100000 in
def P_X7_stand (h : Nat) (wh : Int32) (σ : gS) (Qp : Option Value → gS → Prop) : Prop :=
  (∃ J1 : Prop, (((wh : Int32) = (-1) → (J1)) ∧ (¬ (wh : Int32) = (-1) → ((g_in wh 0 ((σ 1 9) - 1) → (J1)) ∧ (¬ g_in wh 0 ((σ 1 9) - 1) → (Qp (some (.int (-2))) σ))))) ∧ (J1 → (g_call yX7_dawn cX7_dawn 1 (some (.object "UnderTheRoof$Day")) kX h [.ref 0] σ (fun rv s7 => rv = some (.ref 26) ∧ (g_call yX0_lay cX0_lay 2 none kX h [.ref 26] s7 (fun rv s9 => rv = none ∧ (∃ I13 : Nat → Int64 → Int32 → gS → Prop, (∃ k18 : Nat, I13 k18 9223372032559808512 0 s9) ∧ ∀ (k15 : Nat) (v11 : Int64) (v12 : Int32) (s21 : gS), I13 k15 v11 v12 s21 → (((v12 : Int32) < ((1 : Int32) <<< ((3 * (s21 1 9)) &&& 31)) → (g_call yX0_isStoodBy cX0_isStoodBy 5 (some .boolean) kX h [.ref 26, .int v12] s21 (fun rv s32 => ∃ r34 : Int32, rv = some (.int r34) ∧ (((r34 : Int32) = 0 → (∃ k37 : Nat, k37 < k15 ∧ I13 k37 v11 (v12 + 1) s32)) ∧ (¬ (r34 : Int32) = 0 → (g_call yX0_better cX0_better 4 (some .long) kX h [.ref 26, .long v11, .int v12] s32 (fun rv s39 => ∃ r41 : Int64, rv = some (.long r41) ∧ (∃ k42 : Nat, k42 < k15 ∧ I13 k42 r41 (v12 + 1) s39)))))))) ∧ (¬ (v12 : Int32) < ((1 : Int32) <<< ((3 * (s21 1 9)) &&& 31)) → (((wh : Int32) = (-1) → (Qp (some (.int (Int64.toInt32 (v11 >>> (Int32.toInt64 32 &&& 63))))) s21)) ∧ (¬ (wh : Int32) = (-1) → (g_call yX0_placeBy cX0_placeBy 3 (some .int) kX h [.ref 26, .int (Int64.toInt32 v11), .int wh] s21 (fun rv s27 => ∃ r29 : Int32, rv = some (.int r29) ∧ (Qp (some (.int r29)) s27))))))))))))))
set_option maxHeartbeats 4000000 in
set_option maxRecDepth 100000 in
theorem w_X7_stand {h : Nat} (hh : 6 ≤ h) {wh : Int32} {σ : gS} {Qp : Option Value → gS → Prop} (P : P_X7_stand h wh σ Qp) : g_Met yX7_stand cX7_stand 5 (some .int) h kX [.ref 0, .int wh] σ Qp := by
  unfold P_X7_stand at P
  refine g_Met.of (own := 7) (L := [some (.ref 0), some (.int wh), none, none, none]) (by decide) rfl rfl (fun ad => Nat.le_of_ble_eq_true rfl) (fun ad => rfl) (fun X G K C => ?_)
  refine V_blk C (pc' := 2) (σ' := σ) (L' := [some (.ref 0), some (.int wh), none, none, none]) (st' := [.int (-1), .int wh]) (g_c dX7_stand_0 (g_c dX7_stand_1 g_n)) rfl rfl ?_
  obtain ⟨J1, p3, p4⟩ := P
  have jn2 : ∀ (_ : J1 ), gV X G K 5 Qp σ [some (.ref 0), some (.int wh), none, none, none] [] 16 := by
    intro  hJ5
    have p6 := p4  hJ5
    refine V_blk C (pc' := 17) (σ' := σ) (L' := [some (.ref 0), some (.int wh), none, none, none]) (st' := [.ref 0]) (g_c dX7_stand_16 g_n) rfl rfl ?_
    refine V_gV C cv_X7_140 p6 ⟨_, _, _, _, rfl, rfl⟩ (by rfl) (by decide) (As := []) (rest := []) rfl rfl (Nat.le_of_ble_eq_true rfl) dX7_stand_17 (fun rv s7 hq => ?_)
    obtain ⟨rfl, p8⟩ := hq
    refine V_gV C cv_X7_179 p8 ⟨_, _, _, _, rfl, rfl⟩ (by rfl) (by decide) (As := []) (rest := []) rfl rfl (Nat.le_of_ble_eq_true rfl) dX7_stand_20 (fun rv s9 hq => ?_)
    obtain ⟨rfl, p10⟩ := hq
    refine V_blk C (pc' := 30) (σ' := s9) (L' := [some (.ref 0), some (.int wh), some (.long 9223372032559808512), none, some (.int 0)]) (st' := []) (g_c dX7_stand_23 (g_c dX7_stand_26 (g_c dX7_stand_27 (g_c dX7_stand_28 g_n)))) rfl rfl ?_
    obtain ⟨I13, ⟨k18, hI20⟩, hS17⟩ := p10
    have lp19 : ∀ (k15 : Nat) (v11 : Int64) (v12 : Int32) (s21 : gS), I13 k15 v11 v12 s21 → gV X G K 5 Qp s21 [some (.ref 0), some (.int wh), some (.long v11), none, some (.int v12)] [] 30 := by
      intro k15
      induction k15 using Nat.strongRecOn with
      | ind k15 ih14 =>
        intro v11 v12 s21 hI16
        have p22 := hS17 k15 v11 v12 s21 hI16
        refine V_blk C (pc' := 43) (σ' := s21) (L' := [some (.ref 0), some (.int wh), some (.long v11), none, some (.int v12)]) (st' := [.int ((1 : Int32) <<< ((3 * (s21 1 9)) &&& 31)), .int v12]) (g_c dX7_stand_30 (g_c dX7_stand_32 (g_c dX7_stand_33 (g_c dX7_stand_34 (g_c dX7_stand_35 (g_c dX7_stand_38 (g_c dX7_stand_41 (g_c dX7_stand_42 g_n)))))))) rfl rfl ?_
        refine V_icmp_ge2 C (tgt := 75) dX7_stand_43 (by decide) (fun h23 => ?_) (fun h23 => ?_)
        · skip
          have p24 := p22.2 h23
          refine V_blk C (pc' := 77) (σ' := s21) (L' := [some (.ref 0), some (.int wh), some (.long v11), none, some (.int v12)]) (st' := [.int (-1), .int wh]) (g_c dX7_stand_75 (g_c dX7_stand_76 g_n)) rfl rfl ?_
          refine V_icmp_ne C (tgt := 87) dX7_stand_77 (by decide) (fun h25 => ?_) (fun h25 => ?_)
          · skip
            have p26 := p24.2 h25
            refine V_blk C (pc' := 92) (σ' := s21) (L' := [some (.ref 0), some (.int wh), some (.long v11), none, some (.int v12)]) (st' := [.long v11, .ref 26]) (g_c dX7_stand_87 (g_c dX7_stand_88 (g_c dX7_stand_91 g_n))) rfl rfl ?_
            refine V_callSI C cs_X7_207 (c_X7_choiceOf s21 v11) (by omega) (by decide) (fun _ h => h) (As := [.long v11]) (rest := [.ref 26]) rfl rfl (Nat.le_of_ble_eq_true rfl) dX7_stand_92 ?_
            refine V_blk C (pc' := 96) (σ' := s21) (L' := [some (.ref 0), some (.int wh), some (.long v11), none, some (.int v12)]) (st' := [.int wh, .int (Int64.toInt32 v11), .ref 26]) (g_c dX7_stand_95 g_n) rfl rfl ?_
            refine V_gV C cv_X7_210 p26 ⟨_, _, _, _, rfl, rfl⟩ (by rfl) (by decide) (As := [.int (Int64.toInt32 v11), .int wh]) (rest := []) rfl rfl (Nat.le_of_ble_eq_true rfl) dX7_stand_96 (fun rv s27 hq => ?_)
            obtain ⟨r29, rfl, p28⟩ := hq
            refine V_iret C dX7_stand_99 ?_
            exact p28
          · skip
            have p30 := p24.1 h25
            refine V_blk C (pc' := 81) (σ' := s21) (L' := [some (.ref 0), some (.int wh), some (.long v11), none, some (.int v12)]) (st' := [.long v11]) (g_c dX7_stand_80 g_n) rfl rfl ?_
            refine V_callSI C cs_X7_203 (c_X7_costOf s21 v11) (by omega) (by decide) (fun _ h => h) (As := [.long v11]) (rest := []) rfl rfl (Nat.le_of_ble_eq_true rfl) dX7_stand_81 ?_
            refine V_goto C (tgt := 99) dX7_stand_84 (by decide) ?_
            refine V_iret C dX7_stand_99 ?_
            exact p30
        · skip
          have p31 := p22.1 h23
          refine V_blk C (pc' := 52) (σ' := s21) (L' := [some (.ref 0), some (.int wh), some (.long v11), none, some (.int v12)]) (st' := [.int v12, .ref 26]) (g_c dX7_stand_46 (g_c dX7_stand_47 (g_c dX7_stand_50 g_n))) rfl rfl ?_
          refine V_gV C cv_X7_196 p31 ⟨_, _, _, _, rfl, rfl⟩ (by rfl) (by decide) (As := [.int v12]) (rest := []) rfl rfl (Nat.le_of_ble_eq_true rfl) dX7_stand_52 (fun rv s32 hq => ?_)
          obtain ⟨r34, rfl, p33⟩ := hq
          refine V_if_eq C (tgt := 69) dX7_stand_55 (by decide) (fun h35 => ?_) (fun h35 => ?_)
          · skip
            have p36 := p33.1 h35
            refine V_blk C (pc' := 72) (σ' := s32) (L' := [some (.ref 0), some (.int wh), some (.long v11), none, some (.int (v12 + 1))]) (st' := []) (g_c dX7_stand_69 g_n) rfl rfl ?_
            refine V_goto C (tgt := 30) dX7_stand_72 (by decide) ?_
            obtain ⟨k37, hkk37, hIk37⟩ := p36
            exact ih14 k37 hkk37 v11 (v12 + 1) s32 hIk37
          · skip
            have p38 := p33.2 h35
            refine V_blk C (pc' := 65) (σ' := s32) (L' := [some (.ref 0), some (.int wh), some (.long v11), none, some (.int v12)]) (st' := [.int v12, .long v11, .ref 26]) (g_c dX7_stand_58 (g_c dX7_stand_59 (g_c dX7_stand_62 (g_c dX7_stand_63 g_n)))) rfl rfl ?_
            refine V_gV C cv_X7_199 p38 ⟨_, _, _, _, rfl, rfl⟩ (by rfl) (by decide) (As := [.long v11, .int v12]) (rest := []) rfl rfl (Nat.le_of_ble_eq_true rfl) dX7_stand_65 (fun rv s39 hq => ?_)
            obtain ⟨r41, rfl, p40⟩ := hq
            refine V_blk C (pc' := 72) (σ' := s39) (L' := [some (.ref 0), some (.int wh), some (.long r41), none, some (.int (v12 + 1))]) (st' := []) (g_c dX7_stand_68 (g_c dX7_stand_69 g_n)) rfl rfl ?_
            refine V_goto C (tgt := 30) dX7_stand_72 (by decide) ?_
            obtain ⟨k42, hkk42, hIk42⟩ := p40
            exact ih14 k42 hkk42 r41 (v12 + 1) s39 hIk42
    exact lp19 k18 9223372032559808512 0 s9 hI20
  refine V_icmp_eq C (tgt := 16) dX7_stand_2 (by decide) (fun h43 => ?_) (fun h43 => ?_)
  · skip
    have p44 := p3.1 h43
    exact jn2 p44
  · skip
    have p45 := p3.2 h43
    refine V_blk C (pc' := 7) (σ' := σ) (L' := [some (.ref 0), some (.int wh), none, none, none]) (st' := [.int wh, .ref 0]) (g_c dX7_stand_5 (g_c dX7_stand_6 g_n)) rfl rfl ?_
    refine V_callVI C cv_X7_137 (c_X7_isVessel σ wh) ⟨_, _, _, _, rfl, rfl⟩ (by rfl) (by omega) (by decide) (fun _ h => h) (As := [.int wh]) (rest := []) rfl rfl (Nat.le_of_ble_eq_true rfl) dX7_stand_7 ?_
    refine V_if_ne_b C (tgt := 16) dX7_stand_10 (by decide) (fun h46 => ?_) (fun h46 => ?_)
    · skip
      have p47 := p45.1 h46
      exact jn2 p47
    · skip
      have p48 := p45.2 h46
      refine V_blk C (pc' := 15) (σ' := σ) (L' := [some (.ref 0), some (.int wh), none, none, none]) (st' := [.int (-2)]) (g_c dX7_stand_13 g_n) rfl rfl ?_
      refine V_iret C dX7_stand_15 ?_
      exact p48
set_option maxRecDepth 100000 in
def P_X7_rise (h : Nat) (k : Int32) (wh : Int32) (σ : gS) (Qp : Option Value → gS → Prop) : Prop :=
  ((g_in k 0 3 → ((g_in wh 0 1 → (g_call yX7_dawn cX7_dawn 1 (some (.object "UnderTheRoof$Day")) kX h [.ref 0] σ (fun rv s6 => rv = some (.ref 26) ∧ (g_call yX0_lay cX0_lay 2 none kX h [.ref 26] s6 (fun rv s8 => rv = none ∧ (g_call yX7_bestHours cX7_bestHours 7 (some .long) kX h [.ref 26, .int k, .int 24, .int 0, .long 9223372032559808512] s8 (fun rv s10 => ∃ r12 : Int64, rv = some (.long r12) ∧ (((wh : Int32) = 0 → (Qp (some (.int (Int64.toInt32 (r12 >>> (Int32.toInt64 32 &&& 63))))) s10)) ∧ (¬ (wh : Int32) = 0 → (Qp (some (.int (Int64.toInt32 r12))) s10)))))))))) ∧ (¬ g_in wh 0 1 → (Qp (some (.int (-2))) σ)))) ∧ (¬ g_in k 0 3 → (Qp (some (.int (-2))) σ)))
set_option maxHeartbeats 4000000 in
set_option maxRecDepth 100000 in
theorem w_X7_rise {h : Nat} (hh : 6 ≤ h) {k : Int32} {wh : Int32} {σ : gS} {Qp : Option Value → gS → Prop} (P : P_X7_rise h k wh σ Qp) : g_Met yX7_rise cX7_rise 5 (some .int) h kX [.ref 0, .int k, .int wh] σ Qp := by
  unfold P_X7_rise at P
  refine g_Met.of (own := 7) (L := [some (.ref 0), some (.int k), some (.int wh), none, none]) (by decide) rfl rfl (fun ad => Nat.le_of_ble_eq_true rfl) (fun ad => rfl) (fun X G K C => ?_)
  refine V_blk C (pc' := 3) (σ' := σ) (L' := [some (.ref 0), some (.int k), some (.int wh), none, none]) (st' := [.int 3, .int 0, .int k]) (g_c dX7_rise_0 (g_c dX7_rise_1 (g_c dX7_rise_2 g_n))) rfl rfl ?_
  refine V_callSI C cs_X7_85 (c_X7_isIn σ k 0 3) (by omega) (by decide) (fun _ h => h) (As := [.int k, .int 0, .int 3]) (rest := []) rfl rfl (Nat.le_of_ble_eq_true rfl) dX7_rise_3 ?_
  refine V_if_eq_b C (tgt := 18) dX7_rise_6 (by decide) (fun h1 => ?_) (fun h1 => ?_)
  · skip
    have p2 := P.2 h1
    refine V_blk C (pc' := 20) (σ' := σ) (L' := [some (.ref 0), some (.int k), some (.int wh), none, none]) (st' := [.int (-2)]) (g_c dX7_rise_18 g_n) rfl rfl ?_
    refine V_iret C dX7_rise_20 ?_
    exact p2
  · skip
    have p3 := P.1 h1
    refine V_blk C (pc' := 12) (σ' := σ) (L' := [some (.ref 0), some (.int k), some (.int wh), none, none]) (st' := [.int 1, .int 0, .int wh]) (g_c dX7_rise_9 (g_c dX7_rise_10 (g_c dX7_rise_11 g_n))) rfl rfl ?_
    refine V_callSI C cs_X7_85 (c_X7_isIn σ wh 0 1) (by omega) (by decide) (fun _ h => h) (As := [.int wh, .int 0, .int 1]) (rest := []) rfl rfl (Nat.le_of_ble_eq_true rfl) dX7_rise_12 ?_
    refine V_if_ne_b C (tgt := 21) dX7_rise_15 (by decide) (fun h4 => ?_) (fun h4 => ?_)
    · skip
      have p5 := p3.1 h4
      refine V_blk C (pc' := 22) (σ' := σ) (L' := [some (.ref 0), some (.int k), some (.int wh), none, none]) (st' := [.ref 0]) (g_c dX7_rise_21 g_n) rfl rfl ?_
      refine V_gV C cv_X7_140 p5 ⟨_, _, _, _, rfl, rfl⟩ (by rfl) (by decide) (As := []) (rest := []) rfl rfl (Nat.le_of_ble_eq_true rfl) dX7_rise_22 (fun rv s6 hq => ?_)
      obtain ⟨rfl, p7⟩ := hq
      refine V_gV C cv_X7_179 p7 ⟨_, _, _, _, rfl, rfl⟩ (by rfl) (by decide) (As := []) (rest := []) rfl rfl (Nat.le_of_ble_eq_true rfl) dX7_rise_25 (fun rv s8 hq => ?_)
      obtain ⟨rfl, p9⟩ := hq
      refine V_blk C (pc' := 39) (σ' := s8) (L' := [some (.ref 0), some (.int k), some (.int wh), none, none]) (st' := [.long 9223372032559808512, .int 0, .int 24, .int k, .ref 26]) (g_c dX7_rise_28 (g_c dX7_rise_29 (g_c dX7_rise_32 (g_c dX7_rise_33 (g_c dX7_rise_35 (g_c dX7_rise_36 g_n)))))) rfl rfl ?_
      refine V_gS C cs_X7_213 p9 (by decide) (As := [.ref 26, .int k, .int 24, .int 0, .long 9223372032559808512]) (rest := []) rfl rfl (Nat.le_of_ble_eq_true rfl) dX7_rise_39 (fun rv s10 hq => ?_)
      obtain ⟨r12, rfl, p11⟩ := hq
      refine V_blk C (pc' := 44) (σ' := s10) (L' := [some (.ref 0), some (.int k), some (.int wh), some (.long r12), none]) (st' := [.int wh]) (g_c dX7_rise_42 (g_c dX7_rise_43 g_n)) rfl rfl ?_
      refine V_if_ne C (tgt := 54) dX7_rise_44 (by decide) (fun h13 => ?_) (fun h13 => ?_)
      · skip
        have p14 := p11.2 h13
        refine V_blk C (pc' := 55) (σ' := s10) (L' := [some (.ref 0), some (.int k), some (.int wh), some (.long r12), none]) (st' := [.long r12]) (g_c dX7_rise_54 g_n) rfl rfl ?_
        refine V_callSI C cs_X7_207 (c_X7_choiceOf s10 r12) (by omega) (by decide) (fun _ h => h) (As := [.long r12]) (rest := []) rfl rfl (Nat.le_of_ble_eq_true rfl) dX7_rise_55 ?_
        refine V_iret C dX7_rise_58 ?_
        exact p14
      · skip
        have p15 := p11.1 h13
        refine V_blk C (pc' := 48) (σ' := s10) (L' := [some (.ref 0), some (.int k), some (.int wh), some (.long r12), none]) (st' := [.long r12]) (g_c dX7_rise_47 g_n) rfl rfl ?_
        refine V_callSI C cs_X7_203 (c_X7_costOf s10 r12) (by omega) (by decide) (fun _ h => h) (As := [.long r12]) (rest := []) rfl rfl (Nat.le_of_ble_eq_true rfl) dX7_rise_48 ?_
        refine V_goto C (tgt := 58) dX7_rise_51 (by decide) ?_
        refine V_iret C dX7_rise_58 ?_
        exact p15
    · skip
      have p16 := p3.2 h4
      refine V_blk C (pc' := 20) (σ' := σ) (L' := [some (.ref 0), some (.int k), some (.int wh), none, none]) (st' := [.int (-2)]) (g_c dX7_rise_18 g_n) rfl rfl ?_
      refine V_iret C dX7_rise_20 ?_
      exact p16
set_option maxRecDepth 100000 in
def P_X7_lead (h : Nat) (wh : Int32) (σ : gS) (Qp : Option Value → gS → Prop) : Prop :=
  ((g_in wh 0 1 → (g_call yX7_dawn cX7_dawn 1 (some (.object "UnderTheRoof$Day")) kX h [.ref 0] σ (fun rv s3 => rv = some (.ref 26) ∧ (g_call yX0_lay cX0_lay 2 none kX h [.ref 26] s3 (fun rv s5 => rv = none ∧ (g_call yX0_better cX0_better 4 (some .long) kX h [.ref 26, .long 9223372032559808512, .int (-1)] s5 (fun rv s7 => ∃ r9 : Int64, rv = some (.long r9) ∧ (∃ I12 : Nat → Int64 → Int32 → gS → Prop, (∃ k17 : Nat, I12 k17 r9 0 s7) ∧ ∀ (k14 : Nat) (v10 : Int64) (v11 : Int32) (s20 : gS), I12 k14 v10 v11 s20 → (((v11 : Int32) < (s20 1 8) → (∃ I30 : Nat → Int64 → Int32 → gS → Prop, (∃ k35 : Nat, I30 k35 v10 0 s20) ∧ ∀ (k32 : Nat) (v28 : Int64) (v29 : Int32) (s38 : gS), I30 k32 v28 v29 s38 → (((v29 : Int32) < 8 → (g_call yX5_steer cX5_steer 3 none kX h [.ref 33, .int v11, .int v29] s38 (fun rv s44 => rv = none ∧ (g_call yX0_lay cX0_lay 2 none kX h [.ref 26] s44 (fun rv s46 => rv = none ∧ (g_call yX0_better cX0_better 4 (some .long) kX h [.ref 26, .long v28, .int ((10 * v11) + v29)] s46 (fun rv s48 => ∃ r50 : Int64, rv = some (.long r50) ∧ (∃ k51 : Nat, k51 < k32 ∧ I30 k51 r50 (v29 + 1) s48)))))))) ∧ (¬ (v29 : Int32) < 8 → (∃ k42 : Nat, k42 < k14 ∧ I12 k42 v28 (v11 + 1) s38))))) ∧ (¬ (v11 : Int32) < (s20 1 8) → (((wh : Int32) = 0 → (Qp (some (.int (Int64.toInt32 v10))) s20)) ∧ (¬ (wh : Int32) = 0 → (Qp (some (.int (Int64.toInt32 (v10 >>> (Int32.toInt64 32 &&& 63))))) s20))))))))))))) ∧ (¬ g_in wh 0 1 → (Qp (some (.int (-2))) σ)))
set_option maxHeartbeats 4000000 in
set_option maxRecDepth 100000 in
theorem w_X7_lead {h : Nat} (hh : 6 ≤ h) {wh : Int32} {σ : gS} {Qp : Option Value → gS → Prop} (P : P_X7_lead h wh σ Qp) : g_Met yX7_lead cX7_lead 6 (some .int) h kX [.ref 0, .int wh] σ Qp := by
  unfold P_X7_lead at P
  refine g_Met.of (own := 7) (L := [some (.ref 0), some (.int wh), none, none, none, none]) (by decide) rfl rfl (fun ad => Nat.le_of_ble_eq_true rfl) (fun ad => rfl) (fun X G K C => ?_)
  refine V_blk C (pc' := 3) (σ' := σ) (L' := [some (.ref 0), some (.int wh), none, none, none, none]) (st' := [.int 1, .int 0, .int wh]) (g_c dX7_lead_0 (g_c dX7_lead_1 (g_c dX7_lead_2 g_n))) rfl rfl ?_
  refine V_callSI C cs_X7_85 (c_X7_isIn σ wh 0 1) (by omega) (by decide) (fun _ h => h) (As := [.int wh, .int 0, .int 1]) (rest := []) rfl rfl (Nat.le_of_ble_eq_true rfl) dX7_lead_3 ?_
  refine V_if_ne_b C (tgt := 12) dX7_lead_6 (by decide) (fun h1 => ?_) (fun h1 => ?_)
  · skip
    have p2 := P.1 h1
    refine V_blk C (pc' := 13) (σ' := σ) (L' := [some (.ref 0), some (.int wh), none, none, none, none]) (st' := [.ref 0]) (g_c dX7_lead_12 g_n) rfl rfl ?_
    refine V_gV C cv_X7_140 p2 ⟨_, _, _, _, rfl, rfl⟩ (by rfl) (by decide) (As := []) (rest := []) rfl rfl (Nat.le_of_ble_eq_true rfl) dX7_lead_13 (fun rv s3 hq => ?_)
    obtain ⟨rfl, p4⟩ := hq
    refine V_gV C cv_X7_179 p4 ⟨_, _, _, _, rfl, rfl⟩ (by rfl) (by decide) (As := []) (rest := []) rfl rfl (Nat.le_of_ble_eq_true rfl) dX7_lead_16 (fun rv s5 hq => ?_)
    obtain ⟨rfl, p6⟩ := hq
    refine V_blk C (pc' := 27) (σ' := s5) (L' := [some (.ref 0), some (.int wh), none, none, none, none]) (st' := [.int (-1), .long 9223372032559808512, .ref 26]) (g_c dX7_lead_19 (g_c dX7_lead_20 (g_c dX7_lead_23 (g_c dX7_lead_26 g_n)))) rfl rfl ?_
    refine V_gV C cv_X7_199 p6 ⟨_, _, _, _, rfl, rfl⟩ (by rfl) (by decide) (As := [.long 9223372032559808512, .int (-1)]) (rest := []) rfl rfl (Nat.le_of_ble_eq_true rfl) dX7_lead_27 (fun rv s7 hq => ?_)
    obtain ⟨r9, rfl, p8⟩ := hq
    refine V_blk C (pc' := 34) (σ' := s7) (L' := [some (.ref 0), some (.int wh), some (.long r9), none, some (.int 0), none]) (st' := []) (g_c dX7_lead_30 (g_c dX7_lead_31 (g_c dX7_lead_32 g_n))) rfl rfl ?_
    obtain ⟨I12, ⟨k17, hI19⟩, hS16⟩ := p8
    have lp18 : ∀ (k14 : Nat) (v10 : Int64) (v11 : Int32) (s20 : gS), I12 k14 v10 v11 s20 → gV X G K 6 Qp s20 [some (.ref 0), some (.int wh), some (.long v10), none, some (.int v11), none] [] 34 := by
      intro k14
      induction k14 using Nat.strongRecOn with
      | ind k14 ih13 =>
        intro v10 v11 s20 hI15
        have p21 := hS16 k14 v10 v11 s20 hI15
        refine V_blk C (pc' := 43) (σ' := s20) (L' := [some (.ref 0), some (.int wh), some (.long v10), none, some (.int v11), none]) (st' := [.int (s20 1 8), .int v11]) (g_c dX7_lead_34 (g_c dX7_lead_36 (g_c dX7_lead_37 (g_c dX7_lead_40 g_n)))) rfl rfl ?_
        refine V_icmp_ge2 C (tgt := 106) dX7_lead_43 (by decide) (fun h22 => ?_) (fun h22 => ?_)
        · skip
          have p23 := p21.2 h22
          refine V_blk C (pc' := 107) (σ' := s20) (L' := [some (.ref 0), some (.int wh), some (.long v10), none, some (.int v11), none]) (st' := [.int wh]) (g_c dX7_lead_106 g_n) rfl rfl ?_
          refine V_if_ne C (tgt := 117) dX7_lead_107 (by decide) (fun h24 => ?_) (fun h24 => ?_)
          · skip
            have p25 := p23.2 h24
            refine V_blk C (pc' := 118) (σ' := s20) (L' := [some (.ref 0), some (.int wh), some (.long v10), none, some (.int v11), none]) (st' := [.long v10]) (g_c dX7_lead_117 g_n) rfl rfl ?_
            refine V_callSI C cs_X7_203 (c_X7_costOf s20 v10) (by omega) (by decide) (fun _ h => h) (As := [.long v10]) (rest := []) rfl rfl (Nat.le_of_ble_eq_true rfl) dX7_lead_118 ?_
            refine V_iret C dX7_lead_121 ?_
            exact p25
          · skip
            have p26 := p23.1 h24
            refine V_blk C (pc' := 111) (σ' := s20) (L' := [some (.ref 0), some (.int wh), some (.long v10), none, some (.int v11), none]) (st' := [.long v10]) (g_c dX7_lead_110 g_n) rfl rfl ?_
            refine V_callSI C cs_X7_207 (c_X7_choiceOf s20 v10) (by omega) (by decide) (fun _ h => h) (As := [.long v10]) (rest := []) rfl rfl (Nat.le_of_ble_eq_true rfl) dX7_lead_111 ?_
            refine V_goto C (tgt := 121) dX7_lead_114 (by decide) ?_
            refine V_iret C dX7_lead_121 ?_
            exact p26
        · skip
          have p27 := p21.1 h22
          refine V_blk C (pc' := 49) (σ' := s20) (L' := [some (.ref 0), some (.int wh), some (.long v10), none, some (.int v11), some (.int 0)]) (st' := []) (g_c dX7_lead_46 (g_c dX7_lead_47 g_n)) rfl rfl ?_
          obtain ⟨I30, ⟨k35, hI37⟩, hS34⟩ := p27
          have lp36 : ∀ (k32 : Nat) (v28 : Int64) (v29 : Int32) (s38 : gS), I30 k32 v28 v29 s38 → gV X G K 6 Qp s38 [some (.ref 0), some (.int wh), some (.long v28), none, some (.int v11), some (.int v29)] [] 49 := by
            intro k32
            induction k32 using Nat.strongRecOn with
            | ind k32 ih31 =>
              intro v28 v29 s38 hI33
              have p39 := hS34 k32 v28 v29 s38 hI33
              refine V_blk C (pc' := 53) (σ' := s38) (L' := [some (.ref 0), some (.int wh), some (.long v28), none, some (.int v11), some (.int v29)]) (st' := [.int 8, .int v29]) (g_c dX7_lead_49 (g_c dX7_lead_51 g_n)) rfl rfl ?_
              refine V_icmp_ge2 C (tgt := 100) dX7_lead_53 (by decide) (fun h40 => ?_) (fun h40 => ?_)
              · skip
                have p41 := p39.2 h40
                refine V_blk C (pc' := 103) (σ' := s38) (L' := [some (.ref 0), some (.int wh), some (.long v28), none, some (.int (v11 + 1)), some (.int v29)]) (st' := []) (g_c dX7_lead_100 g_n) rfl rfl ?_
                refine V_goto C (tgt := 34) dX7_lead_103 (by decide) ?_
                refine V_less (L' := [some (.ref 0), some (.int wh), some (.long v28), none, some (.int (v11 + 1)), none]) (by simp [g_subL]) ?_
                obtain ⟨k42, hkk42, hIk42⟩ := p41
                exact ih13 k42 hkk42 v28 (v11 + 1) s38 hIk42
              · skip
                have p43 := p39.1 h40
                refine V_blk C (pc' := 67) (σ' := s38) (L' := [some (.ref 0), some (.int wh), some (.long v28), none, some (.int v11), some (.int v29)]) (st' := [.int v29, .int v11, .ref 33]) (g_c dX7_lead_56 (g_c dX7_lead_57 (g_c dX7_lead_60 (g_c dX7_lead_63 (g_c dX7_lead_65 g_n))))) rfl rfl ?_
                refine V_gV C cv_X7_217 p43 ⟨_, _, _, _, rfl, rfl⟩ (by rfl) (by decide) (As := [.int v11, .int v29]) (rest := []) rfl rfl (Nat.le_of_ble_eq_true rfl) dX7_lead_67 (fun rv s44 hq => ?_)
                obtain ⟨rfl, p45⟩ := hq
                refine V_blk C (pc' := 74) (σ' := s44) (L' := [some (.ref 0), some (.int wh), some (.long v28), none, some (.int v11), some (.int v29)]) (st' := [.ref 26]) (g_c dX7_lead_70 (g_c dX7_lead_71 g_n)) rfl rfl ?_
                refine V_gV C cv_X7_179 p45 ⟨_, _, _, _, rfl, rfl⟩ (by rfl) (by decide) (As := []) (rest := []) rfl rfl (Nat.le_of_ble_eq_true rfl) dX7_lead_74 (fun rv s46 hq => ?_)
                obtain ⟨rfl, p47⟩ := hq
                refine V_blk C (pc' := 90) (σ' := s46) (L' := [some (.ref 0), some (.int wh), some (.long v28), none, some (.int v11), some (.int v29)]) (st' := [.int ((10 * v11) + v29), .long v28, .ref 26]) (g_c dX7_lead_77 (g_c dX7_lead_78 (g_c dX7_lead_81 (g_c dX7_lead_82 (g_c dX7_lead_84 (g_c dX7_lead_86 (g_c dX7_lead_87 (g_c dX7_lead_89 g_n)))))))) rfl rfl ?_
                refine V_gV C cv_X7_199 p47 ⟨_, _, _, _, rfl, rfl⟩ (by rfl) (by decide) (As := [.long v28, .int ((10 * v11) + v29)]) (rest := []) rfl rfl (Nat.le_of_ble_eq_true rfl) dX7_lead_90 (fun rv s48 hq => ?_)
                obtain ⟨r50, rfl, p49⟩ := hq
                refine V_blk C (pc' := 97) (σ' := s48) (L' := [some (.ref 0), some (.int wh), some (.long r50), none, some (.int v11), some (.int (v29 + 1))]) (st' := []) (g_c dX7_lead_93 (g_c dX7_lead_94 g_n)) rfl rfl ?_
                refine V_goto C (tgt := 49) dX7_lead_97 (by decide) ?_
                obtain ⟨k51, hkk51, hIk51⟩ := p49
                exact ih31 k51 hkk51 r50 (v29 + 1) s48 hIk51
          exact lp36 k35 v10 0 s20 hI37
    exact lp18 k17 r9 0 s7 hI19
  · skip
    have p52 := P.2 h1
    refine V_blk C (pc' := 11) (σ' := σ) (L' := [some (.ref 0), some (.int wh), none, none, none, none]) (st' := [.int (-2)]) (g_c dX7_lead_9 g_n) rfl rfl ?_
    refine V_iret C dX7_lead_11 ?_
    exact p52
set_option maxRecDepth 100000 in
def P_X7_gone (h : Nat)  (σ : gS) (Qp : Option Value → gS → Prop) : Prop :=
  (g_call yX7_dawn cX7_dawn 1 (some (.object "UnderTheRoof$Day")) kX h [.ref 0] σ (fun rv s1 => rv = some (.ref 26) ∧ (g_call yX0_costInAll cX0_costInAll 1 (some .int) kX h [.ref 26] (g_up s1 26 3 0) (fun rv s3 => ∃ r5 : Int32, rv = some (.int r5) ∧ (Qp (some (.int (if ((s3 26 16) : Int32) = (-1) then 24 else (s3 26 16)))) s3)))))
set_option maxHeartbeats 4000000 in
set_option maxRecDepth 100000 in
theorem w_X7_gone {h : Nat} (hh : 6 ≤ h)  {σ : gS} {Qp : Option Value → gS → Prop} (P : P_X7_gone h  σ Qp) : g_Met yX7_gone cX7_gone 1 (some .int) h kX [.ref 0] σ Qp := by
  unfold P_X7_gone at P
  refine g_Met.of (own := 7) (L := [some (.ref 0)]) (by decide) rfl rfl (fun ad => Nat.le_of_ble_eq_true rfl) (fun ad => rfl) (fun X G K C => ?_)
  refine V_blk C (pc' := 1) (σ' := σ) (L' := [some (.ref 0)]) (st' := [.ref 0]) (g_c dX7_gone_0 g_n) rfl rfl ?_
  refine V_gV C cv_X7_140 P ⟨_, _, _, _, rfl, rfl⟩ (by rfl) (by decide) (As := []) (rest := []) rfl rfl (Nat.le_of_ble_eq_true rfl) dX7_gone_1 (fun rv s1 hq => ?_)
  obtain ⟨rfl, p2⟩ := hq
  refine V_blk C (pc' := 12) (σ' := (g_up s1 26 3 0)) (L' := [some (.ref 0)]) (st' := [.ref 26]) (g_c dX7_gone_4 (g_c dX7_gone_5 (g_c dX7_gone_8 (g_c dX7_gone_9 g_n)))) rfl rfl ?_
  refine V_gV C cv_X7_161 p2 ⟨_, _, _, _, rfl, rfl⟩ (by rfl) (by decide) (As := []) (rest := []) rfl rfl (Nat.le_of_ble_eq_true rfl) dX7_gone_12 (fun rv s3 hq => ?_)
  obtain ⟨r5, rfl, p4⟩ := hq
  refine V_blk C (pc' := 24) (σ' := s3) (L' := [some (.ref 0)]) (st' := [.int (-1), .int (s3 26 16)]) (g_c dX7_gone_15 (g_c dX7_gone_16 (g_c dX7_gone_17 (g_c dX7_gone_20 (g_c dX7_gone_23 g_n))))) rfl rfl ?_
  refine V_join (P := ((s3 26 16) : Int32) = (-1)) (a := 24) (b := (s3 26 16)) (pcJ := 39) (rest := []) (fun x_ hx_ => ?_) (fun kT kF => ?_)
  · skip
    subst hx_
    refine V_iret C dX7_gone_39 ?_
    exact p4
  · refine V_icmp_ne C (tgt := 32) dX7_gone_24 (by decide) (fun h6 => ?_) (fun h6 => ?_)
    · skip
      refine V_blk C (pc' := 39) (σ' := s3) (L' := [some (.ref 0)]) (st' := [.int (s3 26 16)]) (g_c dX7_gone_32 (g_c dX7_gone_33 (g_c dX7_gone_36 g_n))) rfl rfl ?_
      exact kF h6
    · skip
      refine V_blk C (pc' := 29) (σ' := s3) (L' := [some (.ref 0)]) (st' := [.int 24]) (g_c dX7_gone_27 g_n) rfl rfl ?_
      refine V_goto C (tgt := 39) dX7_gone_29 (by decide) ?_
      exact kT h6
set_option maxRecDepth 100000 in
def P_X7_tile (h : Nat) (d : Int32) (σ : gS) (Qp : Option Value → gS → Prop) : Prop :=
  ((g_in d 0 ((σ 1 8) - 1) → (g_call yX7_dawn cX7_dawn 1 (some (.object "UnderTheRoof$Day")) kX h [.ref 0] σ (fun rv s3 => rv = some (.ref 26) ∧ (g_call yX0_costInAll cX0_costInAll 1 (some .int) kX h [.ref 26] s3 (fun rv s5 => ∃ r7 : Int32, rv = some (.int r7) ∧ (g_call yX5_repeat cX5_repeat 3 none kX h [.ref 33, .int d, .int 0] s5 (fun rv s8 => rv = none ∧ (g_call yX0_costInAll cX0_costInAll 1 (some .int) kX h [.ref 26] s8 (fun rv s10 => ∃ r12 : Int32, rv = some (.int r12) ∧ (Qp (some (.int (r7 - r12))) s10)))))))))) ∧ (¬ g_in d 0 ((σ 1 8) - 1) → (Qp (some (.int (-100000))) σ)))
set_option maxHeartbeats 4000000 in
set_option maxRecDepth 100000 in
theorem w_X7_tile {h : Nat} (hh : 6 ≤ h) {d : Int32} {σ : gS} {Qp : Option Value → gS → Prop} (P : P_X7_tile h d σ Qp) : g_Met yX7_tile cX7_tile 3 (some .int) h kX [.ref 0, .int d] σ Qp := by
  unfold P_X7_tile at P
  refine g_Met.of (own := 7) (L := [some (.ref 0), some (.int d), none]) (by decide) rfl rfl (fun ad => Nat.le_of_ble_eq_true rfl) (fun ad => rfl) (fun X G K C => ?_)
  refine V_blk C (pc' := 2) (σ' := σ) (L' := [some (.ref 0), some (.int d), none]) (st' := [.int d, .ref 0]) (g_c dX7_tile_0 (g_c dX7_tile_1 g_n)) rfl rfl ?_
  refine V_callVI C cv_X7_101 (c_X7_isDrip σ d) ⟨_, _, _, _, rfl, rfl⟩ (by rfl) (by omega) (by decide) (fun _ h => h) (As := [.int d]) (rest := []) rfl rfl (Nat.le_of_ble_eq_true rfl) dX7_tile_2 ?_
  refine V_if_ne_b C (tgt := 11) dX7_tile_5 (by decide) (fun h1 => ?_) (fun h1 => ?_)
  · skip
    have p2 := P.1 h1
    refine V_blk C (pc' := 12) (σ' := σ) (L' := [some (.ref 0), some (.int d), none]) (st' := [.ref 0]) (g_c dX7_tile_11 g_n) rfl rfl ?_
    refine V_gV C cv_X7_140 p2 ⟨_, _, _, _, rfl, rfl⟩ (by rfl) (by decide) (As := []) (rest := []) rfl rfl (Nat.le_of_ble_eq_true rfl) dX7_tile_12 (fun rv s3 hq => ?_)
    obtain ⟨rfl, p4⟩ := hq
    refine V_gV C cv_X7_161 p4 ⟨_, _, _, _, rfl, rfl⟩ (by rfl) (by decide) (As := []) (rest := []) rfl rfl (Nat.le_of_ble_eq_true rfl) dX7_tile_15 (fun rv s5 hq => ?_)
    obtain ⟨r7, rfl, p6⟩ := hq
    refine V_blk C (pc' := 28) (σ' := s5) (L' := [some (.ref 0), some (.int d), some (.int r7)]) (st' := [.int 0, .int d, .ref 33]) (g_c dX7_tile_18 (g_c dX7_tile_19 (g_c dX7_tile_20 (g_c dX7_tile_23 (g_c dX7_tile_26 (g_c dX7_tile_27 g_n)))))) rfl rfl ?_
    refine V_gV C cv_X7_224 p6 ⟨_, _, _, _, rfl, rfl⟩ (by rfl) (by decide) (As := [.int d, .int 0]) (rest := []) rfl rfl (Nat.le_of_ble_eq_true rfl) dX7_tile_28 (fun rv s8 hq => ?_)
    obtain ⟨rfl, p9⟩ := hq
    refine V_blk C (pc' := 36) (σ' := s8) (L' := [some (.ref 0), some (.int d), some (.int r7)]) (st' := [.ref 26, .int r7]) (g_c dX7_tile_31 (g_c dX7_tile_32 (g_c dX7_tile_33 g_n))) rfl rfl ?_
    refine V_gV C cv_X7_161 p9 ⟨_, _, _, _, rfl, rfl⟩ (by rfl) (by decide) (As := []) (rest := [.int r7]) rfl rfl (Nat.le_of_ble_eq_true rfl) dX7_tile_36 (fun rv s10 hq => ?_)
    obtain ⟨r12, rfl, p11⟩ := hq
    refine V_blk C (pc' := 40) (σ' := s10) (L' := [some (.ref 0), some (.int d), some (.int r7)]) (st' := [.int (r7 - r12)]) (g_c dX7_tile_39 g_n) rfl rfl ?_
    refine V_iret C dX7_tile_40 ?_
    exact p11
  · skip
    have p13 := P.2 h1
    refine V_blk C (pc' := 10) (σ' := σ) (L' := [some (.ref 0), some (.int d), none]) (st' := [.int (-100000)]) (g_c dX7_tile_8 g_n) rfl rfl ?_
    refine V_iret C dX7_tile_10 ?_
    exact p13
set_option maxRecDepth 100000 in
def P_X7_more (h : Nat) (d : Int32) (n : Int32) (σ : gS) (Qp : Option Value → gS → Prop) : Prop :=
  ((g_in d 0 ((σ 1 8) - 1) → ((g_in n 1 9 → (g_call yX7_dawn cX7_dawn 1 (some (.object "UnderTheRoof$Day")) kX h [.ref 0] σ (fun rv s6 => rv = some (.ref 26) ∧ (g_call yX0_costInAll cX0_costInAll 1 (some .int) kX h [.ref 26] s6 (fun rv s8 => ∃ r10 : Int32, rv = some (.int r10) ∧ (g_call yX5_repeat cX5_repeat 3 none kX h [.ref 33, .int d, .int (1 + n)] s8 (fun rv s11 => rv = none ∧ (g_call yX0_costInAll cX0_costInAll 1 (some .int) kX h [.ref 26] s11 (fun rv s13 => ∃ r15 : Int32, rv = some (.int r15) ∧ (Qp (some (.int (r15 - r10))) s13)))))))))) ∧ (¬ g_in n 1 9 → (Qp (some (.int (-100000))) σ)))) ∧ (¬ g_in d 0 ((σ 1 8) - 1) → (Qp (some (.int (-100000))) σ)))
set_option maxHeartbeats 4000000 in
set_option maxRecDepth 100000 in
theorem w_X7_more {h : Nat} (hh : 6 ≤ h) {d : Int32} {n : Int32} {σ : gS} {Qp : Option Value → gS → Prop} (P : P_X7_more h d n σ Qp) : g_Met yX7_more cX7_more 4 (some .int) h kX [.ref 0, .int d, .int n] σ Qp := by
  unfold P_X7_more at P
  refine g_Met.of (own := 7) (L := [some (.ref 0), some (.int d), some (.int n), none]) (by decide) rfl rfl (fun ad => Nat.le_of_ble_eq_true rfl) (fun ad => rfl) (fun X G K C => ?_)
  refine V_blk C (pc' := 2) (σ' := σ) (L' := [some (.ref 0), some (.int d), some (.int n), none]) (st' := [.int d, .ref 0]) (g_c dX7_more_0 (g_c dX7_more_1 g_n)) rfl rfl ?_
  refine V_callVI C cv_X7_101 (c_X7_isDrip σ d) ⟨_, _, _, _, rfl, rfl⟩ (by rfl) (by omega) (by decide) (fun _ h => h) (As := [.int d]) (rest := []) rfl rfl (Nat.le_of_ble_eq_true rfl) dX7_more_2 ?_
  refine V_if_eq_b C (tgt := 18) dX7_more_5 (by decide) (fun h1 => ?_) (fun h1 => ?_)
  · skip
    have p2 := P.2 h1
    refine V_blk C (pc' := 20) (σ' := σ) (L' := [some (.ref 0), some (.int d), some (.int n), none]) (st' := [.int (-100000)]) (g_c dX7_more_18 g_n) rfl rfl ?_
    refine V_iret C dX7_more_20 ?_
    exact p2
  · skip
    have p3 := P.1 h1
    refine V_blk C (pc' := 12) (σ' := σ) (L' := [some (.ref 0), some (.int d), some (.int n), none]) (st' := [.int 9, .int 1, .int n]) (g_c dX7_more_8 (g_c dX7_more_9 (g_c dX7_more_10 g_n))) rfl rfl ?_
    refine V_callSI C cs_X7_85 (c_X7_isIn σ n 1 9) (by omega) (by decide) (fun _ h => h) (As := [.int n, .int 1, .int 9]) (rest := []) rfl rfl (Nat.le_of_ble_eq_true rfl) dX7_more_12 ?_
    refine V_if_ne_b C (tgt := 21) dX7_more_15 (by decide) (fun h4 => ?_) (fun h4 => ?_)
    · skip
      have p5 := p3.1 h4
      refine V_blk C (pc' := 22) (σ' := σ) (L' := [some (.ref 0), some (.int d), some (.int n), none]) (st' := [.ref 0]) (g_c dX7_more_21 g_n) rfl rfl ?_
      refine V_gV C cv_X7_140 p5 ⟨_, _, _, _, rfl, rfl⟩ (by rfl) (by decide) (As := []) (rest := []) rfl rfl (Nat.le_of_ble_eq_true rfl) dX7_more_22 (fun rv s6 hq => ?_)
      obtain ⟨rfl, p7⟩ := hq
      refine V_gV C cv_X7_161 p7 ⟨_, _, _, _, rfl, rfl⟩ (by rfl) (by decide) (As := []) (rest := []) rfl rfl (Nat.le_of_ble_eq_true rfl) dX7_more_25 (fun rv s8 hq => ?_)
      obtain ⟨r10, rfl, p9⟩ := hq
      refine V_blk C (pc' := 40) (σ' := s8) (L' := [some (.ref 0), some (.int d), some (.int n), some (.int r10)]) (st' := [.int (1 + n), .int d, .ref 33]) (g_c dX7_more_28 (g_c dX7_more_29 (g_c dX7_more_30 (g_c dX7_more_33 (g_c dX7_more_36 (g_c dX7_more_37 (g_c dX7_more_38 (g_c dX7_more_39 g_n)))))))) rfl rfl ?_
      refine V_gV C cv_X7_224 p9 ⟨_, _, _, _, rfl, rfl⟩ (by rfl) (by decide) (As := [.int d, .int (1 + n)]) (rest := []) rfl rfl (Nat.le_of_ble_eq_true rfl) dX7_more_40 (fun rv s11 hq => ?_)
      obtain ⟨rfl, p12⟩ := hq
      refine V_blk C (pc' := 47) (σ' := s11) (L' := [some (.ref 0), some (.int d), some (.int n), some (.int r10)]) (st' := [.ref 26]) (g_c dX7_more_43 (g_c dX7_more_44 g_n)) rfl rfl ?_
      refine V_gV C cv_X7_161 p12 ⟨_, _, _, _, rfl, rfl⟩ (by rfl) (by decide) (As := []) (rest := []) rfl rfl (Nat.le_of_ble_eq_true rfl) dX7_more_47 (fun rv s13 hq => ?_)
      obtain ⟨r15, rfl, p14⟩ := hq
      refine V_blk C (pc' := 52) (σ' := s13) (L' := [some (.ref 0), some (.int d), some (.int n), some (.int r10)]) (st' := [.int (r15 - r10)]) (g_c dX7_more_50 (g_c dX7_more_51 g_n)) rfl rfl ?_
      refine V_iret C dX7_more_52 ?_
      exact p14
    · skip
      have p16 := p3.2 h4
      refine V_blk C (pc' := 20) (σ' := σ) (L' := [some (.ref 0), some (.int d), some (.int n), none]) (st' := [.int (-100000)]) (g_c dX7_more_18 g_n) rfl rfl ?_
      refine V_iret C dX7_more_20 ?_
      exact p16
set_option maxRecDepth 100000 in
def P_X7_sorted (h : Nat) (wh : Int32) (σ : gS) (Qp : Option Value → gS → Prop) : Prop :=
  ((g_in wh 0 1 → (g_call yX7_dawn cX7_dawn 1 (some (.object "UnderTheRoof$Day")) kX h [.ref 0] σ (fun rv s3 => rv = some (.ref 26) ∧ (((wh : Int32) = 0 → (g_call yX0_costInAll cX0_costInAll 1 (some .int) kX h [.ref 26] s3 (fun rv s32 => ∃ r34 : Int32, rv = some (.int r34) ∧ (g_call yX0_costInAll cX0_costInAll 1 (some .int) kX h [.ref 26] (g_up s32 26 5 (1 - (s32 1 12))) (fun rv s35 => ∃ r37 : Int32, rv = some (.int r37) ∧ (Qp (some (.int (r37 - r34))) s35)))))) ∧ (¬ (wh : Int32) = 0 → (g_call yX0_costInAll cX0_costInAll 1 (some .int) kX h [.ref 26] (g_up s3 26 4 5) (fun rv s7 => ∃ r9 : Int32, rv = some (.int r9) ∧ (∃ I11 : Nat → Int32 → gS → Prop, (∃ k16 : Nat, I11 k16 1 s7) ∧ ∀ (k13 : Nat) (v10 : Int32) (s19 : gS), I11 k13 v10 s19 → (((v10 : Int32) < 5 → (g_call yX0_costInAll cX0_costInAll 1 (some .int) kX h [.ref 26] (g_up s19 26 4 v10) (fun rv s24 => ∃ r26 : Int32, rv = some (.int r26) ∧ (((r9 : Int32) < r26 → (∃ k29 : Nat, k29 < k13 ∧ I11 k29 (v10 + 1) s24)) ∧ (¬ (r9 : Int32) < r26 → (Qp (some (.int v10)) s24)))))) ∧ (¬ (v10 : Int32) < 5 → (Qp (some (.int 5)) s19))))))))))) ∧ (¬ g_in wh 0 1 → (Qp (some (.int (-100000))) σ)))
set_option maxHeartbeats 4000000 in
set_option maxRecDepth 100000 in
theorem w_X7_sorted {h : Nat} (hh : 6 ≤ h) {wh : Int32} {σ : gS} {Qp : Option Value → gS → Prop} (P : P_X7_sorted h wh σ Qp) : g_Met yX7_sorted cX7_sorted 4 (some .int) h kX [.ref 0, .int wh] σ Qp := by
  unfold P_X7_sorted at P
  refine g_Met.of (own := 7) (L := [some (.ref 0), some (.int wh), none, none]) (by decide) rfl rfl (fun ad => Nat.le_of_ble_eq_true rfl) (fun ad => rfl) (fun X G K C => ?_)
  refine V_blk C (pc' := 3) (σ' := σ) (L' := [some (.ref 0), some (.int wh), none, none]) (st' := [.int 1, .int 0, .int wh]) (g_c dX7_sorted_0 (g_c dX7_sorted_1 (g_c dX7_sorted_2 g_n))) rfl rfl ?_
  refine V_callSI C cs_X7_85 (c_X7_isIn σ wh 0 1) (by omega) (by decide) (fun _ h => h) (As := [.int wh, .int 0, .int 1]) (rest := []) rfl rfl (Nat.le_of_ble_eq_true rfl) dX7_sorted_3 ?_
  refine V_if_ne_b C (tgt := 12) dX7_sorted_6 (by decide) (fun h1 => ?_) (fun h1 => ?_)
  · skip
    have p2 := P.1 h1
    refine V_blk C (pc' := 13) (σ' := σ) (L' := [some (.ref 0), some (.int wh), none, none]) (st' := [.ref 0]) (g_c dX7_sorted_12 g_n) rfl rfl ?_
    refine V_gV C cv_X7_140 p2 ⟨_, _, _, _, rfl, rfl⟩ (by rfl) (by decide) (As := []) (rest := []) rfl rfl (Nat.le_of_ble_eq_true rfl) dX7_sorted_13 (fun rv s3 hq => ?_)
    obtain ⟨rfl, p4⟩ := hq
    refine V_blk C (pc' := 18) (σ' := s3) (L' := [some (.ref 0), some (.int wh), none, none]) (st' := [.int wh]) (g_c dX7_sorted_16 (g_c dX7_sorted_17 g_n)) rfl rfl ?_
    refine V_if_ne C (tgt := 55) dX7_sorted_18 (by decide) (fun h5 => ?_) (fun h5 => ?_)
    · skip
      have p6 := p4.2 h5
      refine V_blk C (pc' := 67) (σ' := (g_up s3 26 4 5)) (L' := [some (.ref 0), some (.int wh), none, none]) (st' := [.ref 26]) (g_c dX7_sorted_55 (g_c dX7_sorted_56 (g_c dX7_sorted_59 (g_c dX7_sorted_60 (g_c dX7_sorted_63 (g_c dX7_sorted_64 g_n)))))) rfl rfl ?_
      refine V_gV C cv_X7_161 p6 ⟨_, _, _, _, rfl, rfl⟩ (by rfl) (by decide) (As := []) (rest := []) rfl rfl (Nat.le_of_ble_eq_true rfl) dX7_sorted_67 (fun rv s7 hq => ?_)
      obtain ⟨r9, rfl, p8⟩ := hq
      refine V_blk C (pc' := 73) (σ' := s7) (L' := [some (.ref 0), some (.int wh), some (.int r9), some (.int 1)]) (st' := []) (g_c dX7_sorted_70 (g_c dX7_sorted_71 (g_c dX7_sorted_72 g_n))) rfl rfl ?_
      refine V_less (L' := [some (.ref 0), none, some (.int r9), some (.int 1)]) (by simp [g_subL]) ?_
      obtain ⟨I11, ⟨k16, hI18⟩, hS15⟩ := p8
      have lp17 : ∀ (k13 : Nat) (v10 : Int32) (s19 : gS), I11 k13 v10 s19 → gV X G K 4 Qp s19 [some (.ref 0), none, some (.int r9), some (.int v10)] [] 73 := by
        intro k13
        induction k13 using Nat.strongRecOn with
        | ind k13 ih12 =>
          intro v10 s19 hI14
          have p20 := hS15 k13 v10 s19 hI14
          refine V_blk C (pc' := 75) (σ' := s19) (L' := [some (.ref 0), none, some (.int r9), some (.int v10)]) (st' := [.int 5, .int v10]) (g_c dX7_sorted_73 (g_c dX7_sorted_74 g_n)) rfl rfl ?_
          refine V_icmp_ge2 C (tgt := 105) dX7_sorted_75 (by decide) (fun h21 => ?_) (fun h21 => ?_)
          · skip
            have p22 := p20.2 h21
            refine V_blk C (pc' := 106) (σ' := s19) (L' := [some (.ref 0), none, some (.int r9), some (.int v10)]) (st' := [.int 5]) (g_c dX7_sorted_105 g_n) rfl rfl ?_
            refine V_iret C dX7_sorted_106 ?_
            exact p22
          · skip
            have p23 := p20.1 h21
            refine V_blk C (pc' := 90) (σ' := (g_up s19 26 4 v10)) (L' := [some (.ref 0), none, some (.int r9), some (.int v10)]) (st' := [.ref 26]) (g_c dX7_sorted_78 (g_c dX7_sorted_79 (g_c dX7_sorted_82 (g_c dX7_sorted_83 (g_c dX7_sorted_86 (g_c dX7_sorted_87 g_n)))))) rfl rfl ?_
            refine V_gV C cv_X7_161 p23 ⟨_, _, _, _, rfl, rfl⟩ (by rfl) (by decide) (As := []) (rest := []) rfl rfl (Nat.le_of_ble_eq_true rfl) dX7_sorted_90 (fun rv s24 hq => ?_)
            obtain ⟨r26, rfl, p25⟩ := hq
            refine V_blk C (pc' := 94) (σ' := s24) (L' := [some (.ref 0), none, some (.int r9), some (.int v10)]) (st' := [.int r9, .int r26]) (g_c dX7_sorted_93 g_n) rfl rfl ?_
            refine V_icmp_gt C (tgt := 99) dX7_sorted_94 (by decide) (fun h27 => ?_) (fun h27 => ?_)
            · skip
              have p28 := p25.1 h27
              refine V_blk C (pc' := 102) (σ' := s24) (L' := [some (.ref 0), none, some (.int r9), some (.int (v10 + 1))]) (st' := []) (g_c dX7_sorted_99 g_n) rfl rfl ?_
              refine V_goto C (tgt := 73) dX7_sorted_102 (by decide) ?_
              obtain ⟨k29, hkk29, hIk29⟩ := p28
              exact ih12 k29 hkk29 (v10 + 1) s24 hIk29
            · skip
              have p30 := p25.2 h27
              refine V_blk C (pc' := 98) (σ' := s24) (L' := [some (.ref 0), none, some (.int r9), some (.int v10)]) (st' := [.int v10]) (g_c dX7_sorted_97 g_n) rfl rfl ?_
              refine V_iret C dX7_sorted_98 ?_
              exact p30
      exact lp17 k16 1 s7 hI18
    · skip
      have p31 := p4.1 h5
      refine V_blk C (pc' := 25) (σ' := s3) (L' := [some (.ref 0), some (.int wh), none, none]) (st' := [.ref 26]) (g_c dX7_sorted_21 (g_c dX7_sorted_22 g_n)) rfl rfl ?_
      refine V_gV C cv_X7_161 p31 ⟨_, _, _, _, rfl, rfl⟩ (by rfl) (by decide) (As := []) (rest := []) rfl rfl (Nat.le_of_ble_eq_true rfl) dX7_sorted_25 (fun rv s32 hq => ?_)
      obtain ⟨r34, rfl, p33⟩ := hq
      refine V_blk C (pc' := 49) (σ' := (g_up s32 26 5 (1 - (s32 1 12)))) (L' := [some (.ref 0), some (.int wh), some (.int r34), none]) (st' := [.ref 26]) (g_c dX7_sorted_28 (g_c dX7_sorted_29 (g_c dX7_sorted_30 (g_c dX7_sorted_33 (g_c dX7_sorted_34 (g_c dX7_sorted_35 (g_c dX7_sorted_38 (g_c dX7_sorted_41 (g_c dX7_sorted_42 (g_c dX7_sorted_45 (g_c dX7_sorted_46 g_n))))))))))) rfl rfl ?_
      refine V_gV C cv_X7_161 p33 ⟨_, _, _, _, rfl, rfl⟩ (by rfl) (by decide) (As := []) (rest := []) rfl rfl (Nat.le_of_ble_eq_true rfl) dX7_sorted_49 (fun rv s35 hq => ?_)
      obtain ⟨r37, rfl, p36⟩ := hq
      refine V_blk C (pc' := 54) (σ' := s35) (L' := [some (.ref 0), some (.int wh), some (.int r34), none]) (st' := [.int (r37 - r34)]) (g_c dX7_sorted_52 (g_c dX7_sorted_53 g_n)) rfl rfl ?_
      refine V_iret C dX7_sorted_54 ?_
      exact p36
  · skip
    have p38 := P.2 h1
    refine V_blk C (pc' := 11) (σ' := σ) (L' := [some (.ref 0), some (.int wh), none, none]) (st' := [.int (-100000)]) (g_c dX7_sorted_9 g_n) rfl rfl ?_
    refine V_iret C dX7_sorted_11 ?_
    exact p38
set_option maxRecDepth 100000 in
def P_X7_seen (h : Nat) (sh : Int32) (hr : Int32) (wh : Int32) (σ : gS) (Qp : Option Value → gS → Prop) : Prop :=
  (∃ J3 : Int32 → gS → Prop, ((g_in wh 0 1 → (g_call yX7_refusalOfSight cX7_refusalOfSight 3 (some .int) kX h [.ref 0, .int sh, .int hr] σ (fun rv s41 => ∃ r43 : Int32, rv = some (.int r43) ∧ (J3 r43 s41)))) ∧ (¬ g_in wh 0 1 → (J3 (-2) σ))) ∧ ∀ (v1 : Int32) (s2 : gS), J3 v1 s2 → (((v1 : Int32) = 0 → (∃ I14 : Nat → Int32 → Int32 → Int32 → gS → Prop, (∃ k19 : Nat, I14 k19 0 (-1) 0 s2) ∧ ∀ (k16 : Nat) (v11 : Int32) (v12 : Int32) (v13 : Int32) (s22 : gS), I14 k16 v11 v12 v13 s22 → (((v13 : Int32) < ((1 : Int32) <<< ((s22 1 8) &&& 31)) → (g_call yX7_isAsSeen cX7_isAsSeen 5 (some .boolean) kX h [.ref 0, .int sh, .int hr, .int v13] s22 (fun rv s28 => ∃ r30 : Int32, rv = some (.int r30) ∧ (((r30 : Int32) = 0 → (∃ k33 : Nat, k33 < k16 ∧ I14 k33 v11 v12 (v13 + 1) s28)) ∧ (¬ (r30 : Int32) = 0 → (∃ k36 : Nat, k36 < k16 ∧ I14 k36 (v11 + 1) (if (v11 : Int32) = 0 then v13 else v12) (v13 + 1) s28)))))) ∧ (¬ (v13 : Int32) < ((1 : Int32) <<< ((s22 1 8) &&& 31)) → (Qp (some (.int (if (wh : Int32) = 0 then v11 else v12))) s22))))) ∧ (¬ (v1 : Int32) = 0 → (Qp (some (.int v1)) s2))))
set_option maxHeartbeats 4000000 in
set_option maxRecDepth 100000 in
theorem w_X7_seen {h : Nat} (hh : 6 ≤ h) {sh : Int32} {hr : Int32} {wh : Int32} {σ : gS} {Qp : Option Value → gS → Prop} (P : P_X7_seen h sh hr wh σ Qp) : g_Met yX7_seen cX7_seen 8 (some .int) h kX [.ref 0, .int sh, .int hr, .int wh] σ Qp := by
  unfold P_X7_seen at P
  refine g_Met.of (own := 7) (L := [some (.ref 0), some (.int sh), some (.int hr), some (.int wh), none, none, none, none]) (by decide) rfl rfl (fun ad => Nat.le_of_ble_eq_true rfl) (fun ad => rfl) (fun X G K C => ?_)
  refine V_blk C (pc' := 3) (σ' := σ) (L' := [some (.ref 0), some (.int sh), some (.int hr), some (.int wh), none, none, none, none]) (st' := [.int 1, .int 0, .int wh]) (g_c dX7_seen_0 (g_c dX7_seen_1 (g_c dX7_seen_2 g_n))) rfl rfl ?_
  refine V_callSI C cs_X7_85 (c_X7_isIn σ wh 0 1) (by omega) (by decide) (fun _ h => h) (As := [.int wh, .int 0, .int 1]) (rest := []) rfl rfl (Nat.le_of_ble_eq_true rfl) dX7_seen_3 ?_
  obtain ⟨J3, p5, p6⟩ := P
  have jn4 : ∀ (v1 : Int32) (s2 : gS) (_ : J3 v1 s2), gV X G K 8 Qp s2 [some (.ref 0), some (.int sh), some (.int hr), some (.int wh), none, none, none, none] [.int v1] 20 := by
    intro v1 s2 hJ7
    have p8 := p6 v1 s2 hJ7
    refine V_blk C (pc' := 24) (σ' := s2) (L' := [some (.ref 0), some (.int sh), some (.int hr), some (.int wh), some (.int v1), none, none, none]) (st' := [.int v1]) (g_c dX7_seen_20 (g_c dX7_seen_22 g_n)) rfl rfl ?_
    refine V_if_eq C (tgt := 30) dX7_seen_24 (by decide) (fun h9 => ?_) (fun h9 => ?_)
    · skip
      have p10 := p8.1 h9
      refine V_blk C (pc' := 39) (σ' := s2) (L' := [some (.ref 0), some (.int sh), some (.int hr), some (.int wh), some (.int v1), some (.int 0), some (.int (-1)), some (.int 0)]) (st' := []) (g_c dX7_seen_30 (g_c dX7_seen_31 (g_c dX7_seen_33 (g_c dX7_seen_34 (g_c dX7_seen_36 (g_c dX7_seen_37 g_n)))))) rfl rfl ?_
      refine V_less (L' := [some (.ref 0), some (.int sh), some (.int hr), some (.int wh), none, some (.int 0), some (.int (-1)), some (.int 0)]) (by simp [g_subL]) ?_
      obtain ⟨I14, ⟨k19, hI21⟩, hS18⟩ := p10
      have lp20 : ∀ (k16 : Nat) (v11 : Int32) (v12 : Int32) (v13 : Int32) (s22 : gS), I14 k16 v11 v12 v13 s22 → gV X G K 8 Qp s22 [some (.ref 0), some (.int sh), some (.int hr), some (.int wh), none, some (.int v11), some (.int v12), some (.int v13)] [] 39 := by
        intro k16
        induction k16 using Nat.strongRecOn with
        | ind k16 ih15 =>
          intro v11 v12 v13 s22 hI17
          have p23 := hS18 k16 v11 v12 v13 s22 hI17
          refine V_blk C (pc' := 50) (σ' := s22) (L' := [some (.ref 0), some (.int sh), some (.int hr), some (.int wh), none, some (.int v11), some (.int v12), some (.int v13)]) (st' := [.int ((1 : Int32) <<< ((s22 1 8) &&& 31)), .int v13]) (g_c dX7_seen_39 (g_c dX7_seen_41 (g_c dX7_seen_42 (g_c dX7_seen_43 (g_c dX7_seen_46 (g_c dX7_seen_49 g_n)))))) rfl rfl ?_
          refine V_icmp_ge2 C (tgt := 87) dX7_seen_50 (by decide) (fun h24 => ?_) (fun h24 => ?_)
          · skip
            have p25 := p23.2 h24
            refine V_blk C (pc' := 88) (σ' := s22) (L' := [some (.ref 0), some (.int sh), some (.int hr), some (.int wh), none, some (.int v11), some (.int v12), some (.int v13)]) (st' := [.int wh]) (g_c dX7_seen_87 g_n) rfl rfl ?_
            refine V_join (P := (wh : Int32) = 0) (a := v11) (b := v12) (pcJ := 98) (rest := []) (fun x_ hx_ => ?_) (fun kT kF => ?_)
            · skip
              subst hx_
              refine V_iret C dX7_seen_98 ?_
              exact p25
            · refine V_if_ne C (tgt := 96) dX7_seen_88 (by decide) (fun h26 => ?_) (fun h26 => ?_)
              · skip
                refine V_blk C (pc' := 98) (σ' := s22) (L' := [some (.ref 0), some (.int sh), some (.int hr), some (.int wh), none, some (.int v11), some (.int v12), some (.int v13)]) (st' := [.int v12]) (g_c dX7_seen_96 g_n) rfl rfl ?_
                exact kF h26
              · skip
                refine V_blk C (pc' := 93) (σ' := s22) (L' := [some (.ref 0), some (.int sh), some (.int hr), some (.int wh), none, some (.int v11), some (.int v12), some (.int v13)]) (st' := [.int v11]) (g_c dX7_seen_91 g_n) rfl rfl ?_
                refine V_goto C (tgt := 98) dX7_seen_93 (by decide) ?_
                exact kT h26
          · skip
            have p27 := p23.1 h24
            refine V_blk C (pc' := 58) (σ' := s22) (L' := [some (.ref 0), some (.int sh), some (.int hr), some (.int wh), none, some (.int v11), some (.int v12), some (.int v13)]) (st' := [.int v13, .int hr, .int sh, .ref 0]) (g_c dX7_seen_53 (g_c dX7_seen_54 (g_c dX7_seen_55 (g_c dX7_seen_56 g_n)))) rfl rfl ?_
            refine V_gV C cv_X7_237 p27 ⟨_, _, _, _, rfl, rfl⟩ (by rfl) (by decide) (As := [.int sh, .int hr, .int v13]) (rest := []) rfl rfl (Nat.le_of_ble_eq_true rfl) dX7_seen_58 (fun rv s28 hq => ?_)
            obtain ⟨r30, rfl, p29⟩ := hq
            refine V_if_eq C (tgt := 81) dX7_seen_61 (by decide) (fun h31 => ?_) (fun h31 => ?_)
            · skip
              have p32 := p29.1 h31
              refine V_blk C (pc' := 84) (σ' := s28) (L' := [some (.ref 0), some (.int sh), some (.int hr), some (.int wh), none, some (.int v11), some (.int v12), some (.int (v13 + 1))]) (st' := []) (g_c dX7_seen_81 g_n) rfl rfl ?_
              refine V_goto C (tgt := 39) dX7_seen_84 (by decide) ?_
              obtain ⟨k33, hkk33, hIk33⟩ := p32
              exact ih15 k33 hkk33 v11 v12 (v13 + 1) s28 hIk33
            · skip
              have p34 := p29.2 h31
              refine V_blk C (pc' := 66) (σ' := s28) (L' := [some (.ref 0), some (.int sh), some (.int hr), some (.int wh), none, some (.int v11), some (.int v12), some (.int v13)]) (st' := [.int v11]) (g_c dX7_seen_64 g_n) rfl rfl ?_
              refine V_join (P := (v11 : Int32) = 0) (a := v13) (b := v12) (pcJ := 76) (rest := []) (fun x_ hx_ => ?_) (fun kT kF => ?_)
              · skip
                subst hx_
                refine V_blk C (pc' := 84) (σ' := s28) (L' := [some (.ref 0), some (.int sh), some (.int hr), some (.int wh), none, some (.int (v11 + 1)), some (.int (if (v11 : Int32) = 0 then v13 else v12)), some (.int (v13 + 1))]) (st' := []) (g_c dX7_seen_76 (g_c dX7_seen_78 (g_c dX7_seen_81 g_n))) rfl rfl ?_
                refine V_goto C (tgt := 39) dX7_seen_84 (by decide) ?_
                obtain ⟨k36, hkk36, hIk36⟩ := p34
                exact ih15 k36 hkk36 (v11 + 1) (if (v11 : Int32) = 0 then v13 else v12) (v13 + 1) s28 hIk36
              · refine V_if_ne C (tgt := 74) dX7_seen_66 (by decide) (fun h35 => ?_) (fun h35 => ?_)
                · skip
                  refine V_blk C (pc' := 76) (σ' := s28) (L' := [some (.ref 0), some (.int sh), some (.int hr), some (.int wh), none, some (.int v11), some (.int v12), some (.int v13)]) (st' := [.int v12]) (g_c dX7_seen_74 g_n) rfl rfl ?_
                  exact kF h35
                · skip
                  refine V_blk C (pc' := 71) (σ' := s28) (L' := [some (.ref 0), some (.int sh), some (.int hr), some (.int wh), none, some (.int v11), some (.int v12), some (.int v13)]) (st' := [.int v13]) (g_c dX7_seen_69 g_n) rfl rfl ?_
                  refine V_goto C (tgt := 76) dX7_seen_71 (by decide) ?_
                  exact kT h35
      exact lp20 k19 0 (-1) 0 s2 hI21
    · skip
      have p37 := p8.2 h9
      refine V_blk C (pc' := 29) (σ' := s2) (L' := [some (.ref 0), some (.int sh), some (.int hr), some (.int wh), some (.int v1), none, none, none]) (st' := [.int v1]) (g_c dX7_seen_27 g_n) rfl rfl ?_
      refine V_iret C dX7_seen_29 ?_
      exact p37
  refine V_if_eq_b C (tgt := 18) dX7_seen_6 (by decide) (fun h38 => ?_) (fun h38 => ?_)
  · skip
    have p39 := p5.2 h38
    refine V_blk C (pc' := 20) (σ' := σ) (L' := [some (.ref 0), some (.int sh), some (.int hr), some (.int wh), none, none, none, none]) (st' := [.int (-2)]) (g_c dX7_seen_18 g_n) rfl rfl ?_
    exact jn4 (-2) σ p39
  · skip
    have p40 := p5.1 h38
    refine V_blk C (pc' := 12) (σ' := σ) (L' := [some (.ref 0), some (.int sh), some (.int hr), some (.int wh), none, none, none, none]) (st' := [.int hr, .int sh, .ref 0]) (g_c dX7_seen_9 (g_c dX7_seen_10 (g_c dX7_seen_11 g_n))) rfl rfl ?_
    refine V_gV C cv_X7_234 p40 ⟨_, _, _, _, rfl, rfl⟩ (by rfl) (by decide) (As := [.int sh, .int hr]) (rest := []) rfl rfl (Nat.le_of_ble_eq_true rfl) dX7_seen_12 (fun rv s41 hq => ?_)
    obtain ⟨r43, rfl, p42⟩ := hq
    refine V_goto C (tgt := 20) dX7_seen_15 (by decide) ?_
    exact jn4 r43 s41 p42
set_option maxRecDepth 100000 in
def P_X7_strange (h : Nat) (sh : Int32) (hr : Int32) (σ : gS) (Qp : Option Value → gS → Prop) : Prop :=
  (g_call yX7_refusalOfSight cX7_refusalOfSight 3 (some .int) kX h [.ref 0, .int sh, .int hr] σ (fun rv s1 => ∃ r3 : Int32, rv = some (.int r3) ∧ (((r3 : Int32) = 0 → (∃ I7 : Nat → Int32 → gS → Prop, (∃ k12 : Nat, I7 k12 0 s1) ∧ ∀ (k9 : Nat) (v6 : Int32) (s15 : gS), I7 k9 v6 s15 → (((v6 : Int32) < (s15 1 8) → (g_call yX7_isAsSeen cX7_isAsSeen 5 (some .boolean) kX h [.ref 0, .int sh, .int hr, .int ((((1 : Int32) <<< ((s1 1 8) &&& 31)) - 1) ^^^ ((1 : Int32) <<< (v6 &&& 31)))] s15 (fun rv s20 => ∃ r22 : Int32, rv = some (.int r22) ∧ (((r22 : Int32) = 0 → (∃ k25 : Nat, k25 < k9 ∧ I7 k25 (v6 + 1) s20)) ∧ (¬ (r22 : Int32) = 0 → (Qp (some (.int v6)) s20)))))) ∧ (¬ (v6 : Int32) < (s15 1 8) → (Qp (some (.int (-1))) s15))))) ∧ (¬ (r3 : Int32) = 0 → (Qp (some (.int r3)) s1)))))
set_option maxHeartbeats 4000000 in
set_option maxRecDepth 100000 in
theorem w_X7_strange {h : Nat} (hh : 6 ≤ h) {sh : Int32} {hr : Int32} {σ : gS} {Qp : Option Value → gS → Prop} (P : P_X7_strange h sh hr σ Qp) : g_Met yX7_strange cX7_strange 6 (some .int) h kX [.ref 0, .int sh, .int hr] σ Qp := by
  unfold P_X7_strange at P
  refine g_Met.of (own := 7) (L := [some (.ref 0), some (.int sh), some (.int hr), none, none, none]) (by decide) rfl rfl (fun ad => Nat.le_of_ble_eq_true rfl) (fun ad => rfl) (fun X G K C => ?_)
  refine V_blk C (pc' := 3) (σ' := σ) (L' := [some (.ref 0), some (.int sh), some (.int hr), none, none, none]) (st' := [.int hr, .int sh, .ref 0]) (g_c dX7_strange_0 (g_c dX7_strange_1 (g_c dX7_strange_2 g_n))) rfl rfl ?_
  refine V_gV C cv_X7_234 P ⟨_, _, _, _, rfl, rfl⟩ (by rfl) (by decide) (As := [.int sh, .int hr]) (rest := []) rfl rfl (Nat.le_of_ble_eq_true rfl) dX7_strange_3 (fun rv s1 hq => ?_)
  obtain ⟨r3, rfl, p2⟩ := hq
  refine V_blk C (pc' := 8) (σ' := s1) (L' := [some (.ref 0), some (.int sh), some (.int hr), some (.int r3), none, none]) (st' := [.int r3]) (g_c dX7_strange_6 (g_c dX7_strange_7 g_n)) rfl rfl ?_
  refine V_if_eq C (tgt := 13) dX7_strange_8 (by decide) (fun h4 => ?_) (fun h4 => ?_)
  · skip
    have p5 := p2.1 h4
    refine V_blk C (pc' := 29) (σ' := s1) (L' := [some (.ref 0), some (.int sh), some (.int hr), some (.int r3), some (.int (((1 : Int32) <<< ((s1 1 8) &&& 31)) - 1)), some (.int 0)]) (st' := []) (g_c dX7_strange_13 (g_c dX7_strange_14 (g_c dX7_strange_15 (g_c dX7_strange_18 (g_c dX7_strange_21 (g_c dX7_strange_22 (g_c dX7_strange_23 (g_c dX7_strange_24 (g_c dX7_strange_26 (g_c dX7_strange_27 g_n)))))))))) rfl rfl ?_
    refine V_less (L' := [some (.ref 0), some (.int sh), some (.int hr), none, some (.int (((1 : Int32) <<< ((s1 1 8) &&& 31)) - 1)), some (.int 0)]) (by simp [g_subL]) ?_
    obtain ⟨I7, ⟨k12, hI14⟩, hS11⟩ := p5
    have lp13 : ∀ (k9 : Nat) (v6 : Int32) (s15 : gS), I7 k9 v6 s15 → gV X G K 6 Qp s15 [some (.ref 0), some (.int sh), some (.int hr), none, some (.int (((1 : Int32) <<< ((s1 1 8) &&& 31)) - 1)), some (.int v6)] [] 29 := by
      intro k9
      induction k9 using Nat.strongRecOn with
      | ind k9 ih8 =>
        intro v6 s15 hI10
        have p16 := hS11 k9 v6 s15 hI10
        refine V_blk C (pc' := 38) (σ' := s15) (L' := [some (.ref 0), some (.int sh), some (.int hr), none, some (.int (((1 : Int32) <<< ((s1 1 8) &&& 31)) - 1)), some (.int v6)]) (st' := [.int (s15 1 8), .int v6]) (g_c dX7_strange_29 (g_c dX7_strange_31 (g_c dX7_strange_32 (g_c dX7_strange_35 g_n)))) rfl rfl ?_
        refine V_icmp_ge2 C (tgt := 66) dX7_strange_38 (by decide) (fun h17 => ?_) (fun h17 => ?_)
        · skip
          have p18 := p16.2 h17
          refine V_blk C (pc' := 67) (σ' := s15) (L' := [some (.ref 0), some (.int sh), some (.int hr), none, some (.int (((1 : Int32) <<< ((s1 1 8) &&& 31)) - 1)), some (.int v6)]) (st' := [.int (-1)]) (g_c dX7_strange_66 g_n) rfl rfl ?_
          refine V_iret C dX7_strange_67 ?_
          exact p18
        · skip
          have p19 := p16.1 h17
          refine V_blk C (pc' := 51) (σ' := s15) (L' := [some (.ref 0), some (.int sh), some (.int hr), none, some (.int (((1 : Int32) <<< ((s1 1 8) &&& 31)) - 1)), some (.int v6)]) (st' := [.int ((((1 : Int32) <<< ((s1 1 8) &&& 31)) - 1) ^^^ ((1 : Int32) <<< (v6 &&& 31))), .int hr, .int sh, .ref 0]) (g_c dX7_strange_41 (g_c dX7_strange_42 (g_c dX7_strange_43 (g_c dX7_strange_44 (g_c dX7_strange_46 (g_c dX7_strange_47 (g_c dX7_strange_49 (g_c dX7_strange_50 g_n)))))))) rfl rfl ?_
          refine V_gV C cv_X7_237 p19 ⟨_, _, _, _, rfl, rfl⟩ (by rfl) (by decide) (As := [.int sh, .int hr, .int ((((1 : Int32) <<< ((s1 1 8) &&& 31)) - 1) ^^^ ((1 : Int32) <<< (v6 &&& 31)))]) (rest := []) rfl rfl (Nat.le_of_ble_eq_true rfl) dX7_strange_51 (fun rv s20 hq => ?_)
          obtain ⟨r22, rfl, p21⟩ := hq
          refine V_if_eq C (tgt := 60) dX7_strange_54 (by decide) (fun h23 => ?_) (fun h23 => ?_)
          · skip
            have p24 := p21.1 h23
            refine V_blk C (pc' := 63) (σ' := s20) (L' := [some (.ref 0), some (.int sh), some (.int hr), none, some (.int (((1 : Int32) <<< ((s1 1 8) &&& 31)) - 1)), some (.int (v6 + 1))]) (st' := []) (g_c dX7_strange_60 g_n) rfl rfl ?_
            refine V_goto C (tgt := 29) dX7_strange_63 (by decide) ?_
            obtain ⟨k25, hkk25, hIk25⟩ := p24
            exact ih8 k25 hkk25 (v6 + 1) s20 hIk25
          · skip
            have p26 := p21.2 h23
            refine V_blk C (pc' := 59) (σ' := s20) (L' := [some (.ref 0), some (.int sh), some (.int hr), none, some (.int (((1 : Int32) <<< ((s1 1 8) &&& 31)) - 1)), some (.int v6)]) (st' := [.int v6]) (g_c dX7_strange_57 g_n) rfl rfl ?_
            refine V_iret C dX7_strange_59 ?_
            exact p26
    exact lp13 k12 0 s1 hI14
  · skip
    have p27 := p2.2 h4
    refine V_blk C (pc' := 12) (σ' := s1) (L' := [some (.ref 0), some (.int sh), some (.int hr), some (.int r3), none, none]) (st' := [.int r3]) (g_c dX7_strange_11 g_n) rfl rfl ?_
    refine V_iret C dX7_strange_12 ?_
    exact p27
set_option maxRecDepth 100000 in
def P_X7_drawn (h : Nat) (seed : Int32) (σ : gS) (Qp : Option Value → gS → Prop) : Prop :=
  (g_call yX7_dawn cX7_dawn 1 (some (.object "UnderTheRoof$Day")) kX h [.ref 0] σ (fun rv s1 => rv = some (.ref 26) ∧ (g_call yX5_draw cX5_draw 4 none kX h [.ref 33, .int seed] s1 (fun rv s3 => rv = none ∧ (g_call yX0_costInAll cX0_costInAll 1 (some .int) kX h [.ref 26] s3 (fun rv s5 => ∃ r7 : Int32, rv = some (.int r7) ∧ (Qp (some (.int r7)) s5)))))))
set_option maxHeartbeats 4000000 in
set_option maxRecDepth 100000 in
theorem w_X7_drawn {h : Nat} (hh : 6 ≤ h) {seed : Int32} {σ : gS} {Qp : Option Value → gS → Prop} (P : P_X7_drawn h seed σ Qp) : g_Met yX7_drawn cX7_drawn 2 (some .int) h kX [.ref 0, .int seed] σ Qp := by
  unfold P_X7_drawn at P
  refine g_Met.of (own := 7) (L := [some (.ref 0), some (.int seed)]) (by decide) rfl rfl (fun ad => Nat.le_of_ble_eq_true rfl) (fun ad => rfl) (fun X G K C => ?_)
  refine V_blk C (pc' := 1) (σ' := σ) (L' := [some (.ref 0), some (.int seed)]) (st' := [.ref 0]) (g_c dX7_drawn_0 g_n) rfl rfl ?_
  refine V_gV C cv_X7_140 P ⟨_, _, _, _, rfl, rfl⟩ (by rfl) (by decide) (As := []) (rest := []) rfl rfl (Nat.le_of_ble_eq_true rfl) dX7_drawn_1 (fun rv s1 hq => ?_)
  obtain ⟨rfl, p2⟩ := hq
  refine V_blk C (pc' := 8) (σ' := s1) (L' := [some (.ref 0), some (.int seed)]) (st' := [.int seed, .ref 33]) (g_c dX7_drawn_4 (g_c dX7_drawn_7 g_n)) rfl rfl ?_
  refine V_gV C cv_X7_240 p2 ⟨_, _, _, _, rfl, rfl⟩ (by rfl) (by decide) (As := [.int seed]) (rest := []) rfl rfl (Nat.le_of_ble_eq_true rfl) dX7_drawn_8 (fun rv s3 hq => ?_)
  obtain ⟨rfl, p4⟩ := hq
  refine V_blk C (pc' := 15) (σ' := s3) (L' := [some (.ref 0), some (.int seed)]) (st' := [.ref 26]) (g_c dX7_drawn_11 (g_c dX7_drawn_12 g_n)) rfl rfl ?_
  refine V_gV C cv_X7_161 p4 ⟨_, _, _, _, rfl, rfl⟩ (by rfl) (by decide) (As := []) (rest := []) rfl rfl (Nat.le_of_ble_eq_true rfl) dX7_drawn_15 (fun rv s5 hq => ?_)
  obtain ⟨r7, rfl, p6⟩ := hq
  refine V_iret C dX7_drawn_18 ?_
  exact p6
set_option maxRecDepth 100000 in
def P_X7_chance (h : Nat) (seed : Int32) (n : Int32) (pa : Int32) (σ : gS) (Qp : Option Value → gS → Prop) : Prop :=
  ((g_in n 1 20 → ((g_in pa 0 1 → (∃ I8 : Nat → Int32 → Int32 → gS → Prop, (∃ k13 : Nat, I8 k13 0 0 σ) ∧ ∀ (k10 : Nat) (v6 : Int32) (v7 : Int32) (s16 : gS), I8 k10 v6 v7 s16 → (((v7 : Int32) < n → (g_call yX7_dawn cX7_dawn 1 (some (.object "UnderTheRoof$Day")) kX h [.ref 0] s16 (fun rv s28 => rv = some (.ref 26) ∧ (g_call yX5_draw cX5_draw 4 none kX h [.ref 33, .int (seed + v7)] s28 (fun rv s30 => rv = none ∧ (g_call yX0_costInAll cX0_costInAll 1 (some .int) kX h [.ref 26] s30 (fun rv s32 => ∃ r34 : Int32, rv = some (.int r34) ∧ (∃ k36 : Nat, k36 < k10 ∧ I8 k36 (v6 + (if ((s32 26 15) : Int32) = 0 then 1 else 0)) (v7 + 1) s32)))))))) ∧ (¬ (v7 : Int32) < n → (g_call yX7_sharedDivisor cX7_sharedDivisor 3 (some .int) kX h [.int v6, .int n] s16 (fun rv s20 => ∃ r22 : Int32, rv = some (.int r22) ∧ ((¬ (if (0 : Int32) < r22 then r22 else 1) = 0) ∧ (Qp (some (.long (Int32.toInt64 ((if (pa : Int32) = 0 then v6 else n) / (if (0 : Int32) < r22 then r22 else 1))))) s20)))))))) ∧ (¬ g_in pa 0 1 → (Qp (some (.long (-4611686018427387904))) σ)))) ∧ (¬ g_in n 1 20 → (Qp (some (.long (-4611686018427387904))) σ)))
set_option maxHeartbeats 4000000 in
set_option maxRecDepth 100000 in
theorem w_X7_chance {h : Nat} (hh : 6 ≤ h) {seed : Int32} {n : Int32} {pa : Int32} {σ : gS} {Qp : Option Value → gS → Prop} (P : P_X7_chance h seed n pa σ Qp) : g_Met yX7_chance cX7_chance 6 (some .long) h kX [.ref 0, .int seed, .int n, .int pa] σ Qp := by
  unfold P_X7_chance at P
  refine g_Met.of (own := 7) (L := [some (.ref 0), some (.int seed), some (.int n), some (.int pa), none, none]) (by decide) rfl rfl (fun ad => Nat.le_of_ble_eq_true rfl) (fun ad => rfl) (fun X G K C => ?_)
  refine V_blk C (pc' := 4) (σ' := σ) (L' := [some (.ref 0), some (.int seed), some (.int n), some (.int pa), none, none]) (st' := [.int 20, .int 1, .int n]) (g_c dX7_chance_0 (g_c dX7_chance_1 (g_c dX7_chance_2 g_n))) rfl rfl ?_
  refine V_callSI C cs_X7_85 (c_X7_isIn σ n 1 20) (by omega) (by decide) (fun _ h => h) (As := [.int n, .int 1, .int 20]) (rest := []) rfl rfl (Nat.le_of_ble_eq_true rfl) dX7_chance_4 ?_
  refine V_if_eq_b C (tgt := 19) dX7_chance_7 (by decide) (fun h1 => ?_) (fun h1 => ?_)
  · skip
    have p2 := P.2 h1
    refine V_blk C (pc' := 22) (σ' := σ) (L' := [some (.ref 0), some (.int seed), some (.int n), some (.int pa), none, none]) (st' := [.long (-4611686018427387904)]) (g_c dX7_chance_19 g_n) rfl rfl ?_
    refine V_lret C dX7_chance_22 ?_
    exact p2
  · skip
    have p3 := P.1 h1
    refine V_blk C (pc' := 13) (σ' := σ) (L' := [some (.ref 0), some (.int seed), some (.int n), some (.int pa), none, none]) (st' := [.int 1, .int 0, .int pa]) (g_c dX7_chance_10 (g_c dX7_chance_11 (g_c dX7_chance_12 g_n))) rfl rfl ?_
    refine V_callSI C cs_X7_85 (c_X7_isIn σ pa 0 1) (by omega) (by decide) (fun _ h => h) (As := [.int pa, .int 0, .int 1]) (rest := []) rfl rfl (Nat.le_of_ble_eq_true rfl) dX7_chance_13 ?_
    refine V_if_ne_b C (tgt := 23) dX7_chance_16 (by decide) (fun h4 => ?_) (fun h4 => ?_)
    · skip
      have p5 := p3.1 h4
      refine V_blk C (pc' := 29) (σ' := σ) (L' := [some (.ref 0), some (.int seed), some (.int n), some (.int pa), some (.int 0), some (.int 0)]) (st' := []) (g_c dX7_chance_23 (g_c dX7_chance_24 (g_c dX7_chance_26 (g_c dX7_chance_27 g_n)))) rfl rfl ?_
      obtain ⟨I8, ⟨k13, hI15⟩, hS12⟩ := p5
      have lp14 : ∀ (k10 : Nat) (v6 : Int32) (v7 : Int32) (s16 : gS), I8 k10 v6 v7 s16 → gV X G K 6 Qp s16 [some (.ref 0), some (.int seed), some (.int n), some (.int pa), some (.int v6), some (.int v7)] [] 29 := by
        intro k10
        induction k10 using Nat.strongRecOn with
        | ind k10 ih9 =>
          intro v6 v7 s16 hI11
          have p17 := hS12 k10 v6 v7 s16 hI11
          refine V_blk C (pc' := 32) (σ' := s16) (L' := [some (.ref 0), some (.int seed), some (.int n), some (.int pa), some (.int v6), some (.int v7)]) (st' := [.int n, .int v7]) (g_c dX7_chance_29 (g_c dX7_chance_31 g_n)) rfl rfl ?_
          refine V_icmp_ge2 C (tgt := 83) dX7_chance_32 (by decide) (fun h18 => ?_) (fun h18 => ?_)
          · skip
            have p19 := p17.2 h18
            refine V_blk C (pc' := 86) (σ' := s16) (L' := [some (.ref 0), some (.int seed), some (.int n), some (.int pa), some (.int v6), some (.int v7)]) (st' := [.int n, .int v6]) (g_c dX7_chance_83 (g_c dX7_chance_85 g_n)) rfl rfl ?_
            refine V_gS C cs_X7_246 p19 (by decide) (As := [.int v6, .int n]) (rest := []) rfl rfl (Nat.le_of_ble_eq_true rfl) dX7_chance_86 (fun rv s20 hq => ?_)
            obtain ⟨r22, rfl, p21⟩ := hq
            refine V_blk C (pc' := 92) (σ' := s20) (L' := [some (.ref 0), some (.int seed), some (.int n), some (.int pa), some (.int v6), some (.int r22)]) (st' := [.int pa]) (g_c dX7_chance_89 (g_c dX7_chance_91 g_n)) rfl rfl ?_
            refine V_join (P := (pa : Int32) = 0) (a := v6) (b := n) (pcJ := 101) (rest := []) (fun x_ hx_ => ?_) (fun kT kF => ?_)
            · skip
              subst hx_
              refine V_blk C (pc' := 103) (σ' := s20) (L' := [some (.ref 0), some (.int seed), some (.int n), some (.int pa), some (.int v6), some (.int r22)]) (st' := [.int r22, .int (if (pa : Int32) = 0 then v6 else n)]) (g_c dX7_chance_101 g_n) rfl rfl ?_
              refine V_join (P := (0 : Int32) < r22) (a := r22) (b := 1) (pcJ := 112) (rest := [.int (if (pa : Int32) = 0 then v6 else n)]) (fun x_ hx_ => ?_) (fun kT kF => ?_)
              · skip
                subst hx_
                have q25 := p21.1
                have p26 := p21.2
                refine V_idiv C q25 dX7_chance_112 ?_
                refine V_blk C (pc' := 114) (σ' := s20) (L' := [some (.ref 0), some (.int seed), some (.int n), some (.int pa), some (.int v6), some (.int r22)]) (st' := [.long (Int32.toInt64 ((if (pa : Int32) = 0 then v6 else n) / (if (0 : Int32) < r22 then r22 else 1)))]) (g_c dX7_chance_113 g_n) rfl rfl ?_
                refine V_lret C dX7_chance_114 ?_
                exact p26
              · refine V_if_le2 C (tgt := 111) dX7_chance_103 (by decide) (fun h24 => ?_) (fun h24 => ?_)
                · skip
                  refine V_blk C (pc' := 112) (σ' := s20) (L' := [some (.ref 0), some (.int seed), some (.int n), some (.int pa), some (.int v6), some (.int r22)]) (st' := [.int 1, .int (if (pa : Int32) = 0 then v6 else n)]) (g_c dX7_chance_111 g_n) rfl rfl ?_
                  exact kF h24
                · skip
                  refine V_blk C (pc' := 108) (σ' := s20) (L' := [some (.ref 0), some (.int seed), some (.int n), some (.int pa), some (.int v6), some (.int r22)]) (st' := [.int r22, .int (if (pa : Int32) = 0 then v6 else n)]) (g_c dX7_chance_106 g_n) rfl rfl ?_
                  refine V_goto C (tgt := 112) dX7_chance_108 (by decide) ?_
                  exact kT h24
            · refine V_if_ne C (tgt := 100) dX7_chance_92 (by decide) (fun h23 => ?_) (fun h23 => ?_)
              · skip
                refine V_blk C (pc' := 101) (σ' := s20) (L' := [some (.ref 0), some (.int seed), some (.int n), some (.int pa), some (.int v6), some (.int r22)]) (st' := [.int n]) (g_c dX7_chance_100 g_n) rfl rfl ?_
                exact kF h23
              · skip
                refine V_blk C (pc' := 97) (σ' := s20) (L' := [some (.ref 0), some (.int seed), some (.int n), some (.int pa), some (.int v6), some (.int r22)]) (st' := [.int v6]) (g_c dX7_chance_95 g_n) rfl rfl ?_
                refine V_goto C (tgt := 101) dX7_chance_97 (by decide) ?_
                exact kT h23
          · skip
            have p27 := p17.1 h18
            refine V_blk C (pc' := 36) (σ' := s16) (L' := [some (.ref 0), some (.int seed), some (.int n), some (.int pa), some (.int v6), some (.int v7)]) (st' := [.ref 0]) (g_c dX7_chance_35 g_n) rfl rfl ?_
            refine V_gV C cv_X7_140 p27 ⟨_, _, _, _, rfl, rfl⟩ (by rfl) (by decide) (As := []) (rest := []) rfl rfl (Nat.le_of_ble_eq_true rfl) dX7_chance_36 (fun rv s28 hq => ?_)
            obtain ⟨rfl, p29⟩ := hq
            refine V_blk C (pc' := 46) (σ' := s28) (L' := [some (.ref 0), some (.int seed), some (.int n), some (.int pa), some (.int v6), some (.int v7)]) (st' := [.int (seed + v7), .ref 33]) (g_c dX7_chance_39 (g_c dX7_chance_42 (g_c dX7_chance_43 (g_c dX7_chance_45 g_n)))) rfl rfl ?_
            refine V_gV C cv_X7_240 p29 ⟨_, _, _, _, rfl, rfl⟩ (by rfl) (by decide) (As := [.int (seed + v7)]) (rest := []) rfl rfl (Nat.le_of_ble_eq_true rfl) dX7_chance_46 (fun rv s30 hq => ?_)
            obtain ⟨rfl, p31⟩ := hq
            refine V_blk C (pc' := 53) (σ' := s30) (L' := [some (.ref 0), some (.int seed), some (.int n), some (.int pa), some (.int v6), some (.int v7)]) (st' := [.ref 26]) (g_c dX7_chance_49 (g_c dX7_chance_50 g_n)) rfl rfl ?_
            refine V_gV C cv_X7_161 p31 ⟨_, _, _, _, rfl, rfl⟩ (by rfl) (by decide) (As := []) (rest := []) rfl rfl (Nat.le_of_ble_eq_true rfl) dX7_chance_53 (fun rv s32 hq => ?_)
            obtain ⟨r34, rfl, p33⟩ := hq
            refine V_blk C (pc' := 66) (σ' := s32) (L' := [some (.ref 0), some (.int seed), some (.int n), some (.int pa), some (.int v6), some (.int v7)]) (st' := [.int (s32 26 15), .int v6]) (g_c dX7_chance_56 (g_c dX7_chance_57 (g_c dX7_chance_59 (g_c dX7_chance_60 (g_c dX7_chance_63 g_n))))) rfl rfl ?_
            refine V_join (P := ((s32 26 15) : Int32) = 0) (a := 1) (b := 0) (pcJ := 74) (rest := [.int v6]) (fun x_ hx_ => ?_) (fun kT kF => ?_)
            · skip
              subst hx_
              refine V_blk C (pc' := 80) (σ' := s32) (L' := [some (.ref 0), some (.int seed), some (.int n), some (.int pa), some (.int (v6 + (if ((s32 26 15) : Int32) = 0 then 1 else 0))), some (.int (v7 + 1))]) (st' := []) (g_c dX7_chance_74 (g_c dX7_chance_75 (g_c dX7_chance_77 g_n))) rfl rfl ?_
              refine V_goto C (tgt := 29) dX7_chance_80 (by decide) ?_
              obtain ⟨k36, hkk36, hIk36⟩ := p33
              exact ih9 k36 hkk36 (v6 + (if ((s32 26 15) : Int32) = 0 then 1 else 0)) (v7 + 1) s32 hIk36
            · refine V_if_ne C (tgt := 73) dX7_chance_66 (by decide) (fun h35 => ?_) (fun h35 => ?_)
              · skip
                refine V_blk C (pc' := 74) (σ' := s32) (L' := [some (.ref 0), some (.int seed), some (.int n), some (.int pa), some (.int v6), some (.int v7)]) (st' := [.int 0, .int v6]) (g_c dX7_chance_73 g_n) rfl rfl ?_
                exact kF h35
              · skip
                refine V_blk C (pc' := 70) (σ' := s32) (L' := [some (.ref 0), some (.int seed), some (.int n), some (.int pa), some (.int v6), some (.int v7)]) (st' := [.int 1, .int v6]) (g_c dX7_chance_69 g_n) rfl rfl ?_
                refine V_goto C (tgt := 74) dX7_chance_70 (by decide) ?_
                exact kT h35
      exact lp14 k13 0 0 σ hI15
    · skip
      have p37 := p3.2 h4
      refine V_blk C (pc' := 22) (σ' := σ) (L' := [some (.ref 0), some (.int seed), some (.int n), some (.int pa), none, none]) (st' := [.long (-4611686018427387904)]) (g_c dX7_chance_19 g_n) rfl rfl ?_
      refine V_lret C dX7_chance_22 ?_
      exact p37
set_option maxRecDepth 100000 in
def P_X7_rains (h : Nat) (sh : Int32) (so : Int32) (fr : Int32) (n : Int32) (σ : gS) (Qp : Option Value → gS → Prop) : Prop :=
  ((g_in sh 0 3 → ((g_in so 0 2 → ((g_in n 0 20 → (∃ j11 : Nat, sh = nI j11 ∧ j11 < 4 ∧ ((((σ (37 + 2 * j11) 0) : Int32) = (-1) → (Qp (some (.int (-11))) σ)) ∧ (¬ ((σ (37 + 2 * j11) 0) : Int32) = (-1) → ((((σ (37 + 2 * j11) 0) : Int32) = so → (g_call yX7_rainBy cX7_rainBy 9 (some .int) kX h [.ref 0, .ref (37 + 2 * j11), .int fr, .int n] σ (fun rv s19 => ∃ r21 : Int32, rv = some (.int r21) ∧ (Qp (some (.int r21)) s19)))) ∧ (¬ ((σ (37 + 2 * j11) 0) : Int32) = so → (Qp (some (.int (-13))) σ))))))) ∧ (¬ g_in n 0 20 → (Qp (some (.int (-2))) σ)))) ∧ (¬ g_in so 0 2 → (Qp (some (.int (-2))) σ)))) ∧ (¬ g_in sh 0 3 → (Qp (some (.int (-2))) σ)))
set_option maxHeartbeats 4000000 in
set_option maxRecDepth 100000 in
theorem w_X7_rains {h : Nat} (hh : 6 ≤ h) {sh : Int32} {so : Int32} {fr : Int32} {n : Int32} {σ : gS} {Qp : Option Value → gS → Prop} (P : P_X7_rains h sh so fr n σ Qp) : g_Met yX7_rains cX7_rains 6 (some .int) h kX [.ref 0, .int sh, .int so, .int fr, .int n] σ Qp := by
  unfold P_X7_rains at P
  refine g_Met.of (own := 7) (L := [some (.ref 0), some (.int sh), some (.int so), some (.int fr), some (.int n), none]) (by decide) rfl rfl (fun ad => Nat.le_of_ble_eq_true rfl) (fun ad => rfl) (fun X G K C => ?_)
  refine V_blk C (pc' := 1) (σ' := σ) (L' := [some (.ref 0), some (.int sh), some (.int so), some (.int fr), some (.int n), none]) (st' := [.int sh]) (g_c dX7_rains_0 g_n) rfl rfl ?_
  refine V_callSI C cs_X7_262 (c_X7_isSheet σ sh) (by omega) (by decide) (fun _ h => h) (As := [.int sh]) (rest := []) rfl rfl (Nat.le_of_ble_eq_true rfl) dX7_rains_1 ?_
  refine V_if_eq_b C (tgt := 27) dX7_rains_4 (by decide) (fun h1 => ?_) (fun h1 => ?_)
  · skip
    have p2 := P.2 h1
    refine V_blk C (pc' := 29) (σ' := σ) (L' := [some (.ref 0), some (.int sh), some (.int so), some (.int fr), some (.int n), none]) (st' := [.int (-2)]) (g_c dX7_rains_27 g_n) rfl rfl ?_
    refine V_iret C dX7_rains_29 ?_
    exact p2
  · skip
    have p3 := P.1 h1
    refine V_blk C (pc' := 10) (σ' := σ) (L' := [some (.ref 0), some (.int sh), some (.int so), some (.int fr), some (.int n), none]) (st' := [.int 2, .int 0, .int so]) (g_c dX7_rains_7 (g_c dX7_rains_8 (g_c dX7_rains_9 g_n))) rfl rfl ?_
    refine V_callSI C cs_X7_85 (c_X7_isIn σ so 0 2) (by omega) (by decide) (fun _ h => h) (As := [.int so, .int 0, .int 2]) (rest := []) rfl rfl (Nat.le_of_ble_eq_true rfl) dX7_rains_10 ?_
    refine V_if_eq_b C (tgt := 27) dX7_rains_13 (by decide) (fun h4 => ?_) (fun h4 => ?_)
    · skip
      have p5 := p3.2 h4
      refine V_blk C (pc' := 29) (σ' := σ) (L' := [some (.ref 0), some (.int sh), some (.int so), some (.int fr), some (.int n), none]) (st' := [.int (-2)]) (g_c dX7_rains_27 g_n) rfl rfl ?_
      refine V_iret C dX7_rains_29 ?_
      exact p5
    · skip
      have p6 := p3.1 h4
      refine V_blk C (pc' := 21) (σ' := σ) (L' := [some (.ref 0), some (.int sh), some (.int so), some (.int fr), some (.int n), none]) (st' := [.int 20, .int 0, .int n]) (g_c dX7_rains_16 (g_c dX7_rains_18 (g_c dX7_rains_19 g_n))) rfl rfl ?_
      refine V_callSI C cs_X7_85 (c_X7_isIn σ n 0 20) (by omega) (by decide) (fun _ h => h) (As := [.int n, .int 0, .int 20]) (rest := []) rfl rfl (Nat.le_of_ble_eq_true rfl) dX7_rains_21 ?_
      refine V_if_ne_b C (tgt := 30) dX7_rains_24 (by decide) (fun h7 => ?_) (fun h7 => ?_)
      · skip
        have p8 := p6.1 h7
        refine V_blk C (pc' := 35) (σ' := σ) (L' := [some (.ref 0), some (.int sh), some (.int so), some (.int fr), some (.int n), none]) (st' := [.int sh, .ref 22]) (g_c dX7_rains_30 (g_c dX7_rains_31 (g_c dX7_rains_34 g_n))) rfl rfl ?_
        obtain ⟨j11, e12, l10, p9⟩ := p8
        refine V_eq rfl rfl (st' := [.int (nI j11), .ref 22]) (by rw [← e12]) ?_
        have g13 : j11 < 4 := (by omega)
        refine V_aldS C (i := j11) g13 (by rfl) dX7_rains_35 ?_
        refine V_blk C (pc' := 40) (σ' := σ) (L' := [some (.ref 0), some (.int sh), some (.int so), some (.int fr), some (.int n), some (.ref (37 + 2 * j11))]) (st' := [.ref (37 + 2 * j11)]) (g_c dX7_rains_36 (g_c dX7_rains_38 g_n)) rfl rfl ?_
        refine V_get4i C (t := j11) (j := 0) g13 (by decide) fl_X7_267 (kX_lt (by omega)) dX7_rains_40 ?_
        refine V_blk C (pc' := 44) (σ' := σ) (L' := [some (.ref 0), some (.int sh), some (.int so), some (.int fr), some (.int n), some (.ref (37 + 2 * j11))]) (st' := [.int (-1), .int (σ (37 + 2 * j11) 0)]) (g_c dX7_rains_43 g_n) rfl rfl ?_
        refine V_icmp_ne C (tgt := 50) dX7_rains_44 (by decide) (fun h14 => ?_) (fun h14 => ?_)
        · skip
          have p15 := p9.2 h14
          refine V_blk C (pc' := 52) (σ' := σ) (L' := [some (.ref 0), some (.int sh), some (.int so), some (.int fr), some (.int n), some (.ref (37 + 2 * j11))]) (st' := [.ref (37 + 2 * j11)]) (g_c dX7_rains_50 g_n) rfl rfl ?_
          refine V_get4i C (t := j11) (j := 0) g13 (by decide) fl_X7_267 (kX_lt (by omega)) dX7_rains_52 ?_
          refine V_blk C (pc' := 56) (σ' := σ) (L' := [some (.ref 0), some (.int sh), some (.int so), some (.int fr), some (.int n), some (.ref (37 + 2 * j11))]) (st' := [.int so, .int (σ (37 + 2 * j11) 0)]) (g_c dX7_rains_55 g_n) rfl rfl ?_
          refine V_icmp_ne C (tgt := 71) dX7_rains_56 (by decide) (fun h16 => ?_) (fun h16 => ?_)
          · skip
            have p17 := p15.2 h16
            refine V_blk C (pc' := 73) (σ' := σ) (L' := [some (.ref 0), some (.int sh), some (.int so), some (.int fr), some (.int n), some (.ref (37 + 2 * j11))]) (st' := [.int (-13)]) (g_c dX7_rains_71 g_n) rfl rfl ?_
            refine V_iret C dX7_rains_73 ?_
            exact p17
          · skip
            have p18 := p15.1 h16
            refine V_blk C (pc' := 65) (σ' := σ) (L' := [some (.ref 0), some (.int sh), some (.int so), some (.int fr), some (.int n), some (.ref (37 + 2 * j11))]) (st' := [.int n, .int fr, .ref (37 + 2 * j11), .ref 0]) (g_c dX7_rains_59 (g_c dX7_rains_60 (g_c dX7_rains_62 (g_c dX7_rains_63 g_n)))) rfl rfl ?_
            refine V_gV C cv_X7_283 p18 ⟨_, _, _, _, rfl, rfl⟩ (by rfl) (by decide) (As := [.ref (37 + 2 * j11), .int fr, .int n]) (rest := []) rfl rfl (Nat.le_of_ble_eq_true rfl) dX7_rains_65 (fun rv s19 hq => ?_)
            obtain ⟨r21, rfl, p20⟩ := hq
            refine V_goto C (tgt := 73) dX7_rains_68 (by decide) ?_
            refine V_iret C dX7_rains_73 ?_
            exact p20
        · skip
          have p22 := p9.1 h14
          refine V_blk C (pc' := 49) (σ' := σ) (L' := [some (.ref 0), some (.int sh), some (.int so), some (.int fr), some (.int n), some (.ref (37 + 2 * j11))]) (st' := [.int (-11)]) (g_c dX7_rains_47 g_n) rfl rfl ?_
          refine V_iret C dX7_rains_49 ?_
          exact p22
      · skip
        have p23 := p6.2 h7
        refine V_blk C (pc' := 29) (σ' := σ) (L' := [some (.ref 0), some (.int sh), some (.int so), some (.int fr), some (.int n), none]) (st' := [.int (-2)]) (g_c dX7_rains_27 g_n) rfl rfl ?_
        refine V_iret C dX7_rains_29 ?_
        exact p23
set_option maxRecDepth 100000 in
def P_X7_dawn (h : Nat)  (σ : gS) (Qp : Option Value → gS → Prop) : Prop :=
  (∃ J2 : gS → Prop, ((g_in (σ 1 13) 0 5 → (∃ j15 : Nat, (σ 1 13) = nI j15 ∧ j15 < 6 ∧ (J2 (g_up σ 23 0 (nI j15))))) ∧ (¬ g_in (σ 1 13) 0 5 → (J2 σ))) ∧ ∀  (s1 : gS), J2 s1 → (g_call yX0_begin cX0_begin 1 none kX h [.ref 26] s1 (fun rv s8 => rv = none ∧ (Qp (some (.ref 26)) s8))))
set_option maxHeartbeats 4000000 in
set_option maxRecDepth 100000 in
theorem w_X7_dawn {h : Nat} (hh : 6 ≤ h)  {σ : gS} {Qp : Option Value → gS → Prop} (P : P_X7_dawn h  σ Qp) : g_Met yX7_dawn cX7_dawn 1 (some (.object "UnderTheRoof$Day")) h kX [.ref 0] σ Qp := by
  unfold P_X7_dawn at P
  refine g_Met.of (own := 7) (L := [some (.ref 0)]) (by decide) rfl rfl (fun ad => Nat.le_of_ble_eq_true rfl) (fun ad => rfl) (fun X G K C => ?_)
  refine V_blk C (pc' := 9) (σ' := σ) (L' := [some (.ref 0)]) (st' := [.int 5, .int 0, .int (σ 1 13)]) (g_c dX7_dawn_0 (g_c dX7_dawn_1 (g_c dX7_dawn_4 (g_c dX7_dawn_7 (g_c dX7_dawn_8 g_n))))) rfl rfl ?_
  refine V_callSI C cs_X7_85 (c_X7_isIn σ (σ 1 13) 0 5) (by omega) (by decide) (fun _ h => h) (As := [.int (σ 1 13), .int 0, .int 5]) (rest := []) rfl rfl (Nat.le_of_ble_eq_true rfl) dX7_dawn_9 ?_
  obtain ⟨J2, p4, p5⟩ := P
  have jn3 : ∀  (s1 : gS) (_ : J2 s1), gV X G K 1 Qp s1 [some (.ref 0)] [] 34 := by
    intro s1 hJ6
    have p7 := p5 s1 hJ6
    refine V_blk C (pc' := 38) (σ' := s1) (L' := [some (.ref 0)]) (st' := [.ref 26]) (g_c dX7_dawn_34 (g_c dX7_dawn_35 g_n)) rfl rfl ?_
    refine V_gV C cv_X7_298 p7 ⟨_, _, _, _, rfl, rfl⟩ (by rfl) (by decide) (As := []) (rest := []) rfl rfl (Nat.le_of_ble_eq_true rfl) dX7_dawn_38 (fun rv s8 hq => ?_)
    obtain ⟨rfl, p9⟩ := hq
    refine V_blk C (pc' := 45) (σ' := s8) (L' := [some (.ref 0)]) (st' := [.ref 26]) (g_c dX7_dawn_41 (g_c dX7_dawn_42 g_n)) rfl rfl ?_
    refine V_aret C dX7_dawn_45 ?_
    exact p9
  refine V_if_eq_b C (tgt := 34) dX7_dawn_12 (by decide) (fun h10 => ?_) (fun h10 => ?_)
  · skip
    have p11 := p4.2 h10
    exact jn3 σ p11
  · skip
    have p12 := p4.1 h10
    refine V_blk C (pc' := 30) (σ' := σ) (L' := [some (.ref 0)]) (st' := [.int (σ 1 13), .ref 21, .ref 23]) (g_c dX7_dawn_15 (g_c dX7_dawn_16 (g_c dX7_dawn_19 (g_c dX7_dawn_20 (g_c dX7_dawn_23 (g_c dX7_dawn_24 (g_c dX7_dawn_27 g_n))))))) rfl rfl ?_
    obtain ⟨j15, e16, l14, p13⟩ := p12
    refine V_eq rfl rfl (st' := [.int (nI j15), .ref 21, .ref 23]) (by rw [← e16]) ?_
    have g17 : j15 < 6 := (by omega)
    refine V_aldT C (i := j15) g17 (by rfl) dX7_dawn_30 ?_
    refine V_putT C (k := 23) (t := j15) fl_X7_294 rfl rfl (by rfl) rfl g17 dX7_dawn_31 ?_
    exact jn3 (g_up σ 23 0 (nI j15)) p13
set_option maxRecDepth 100000 in
def P_X7_bestHours (h : Nat) (lf bl bi : Int32) (best : Int64) (σ : gS) (Qp : Option Value → gS → Prop) : Prop :=
  (∃ J1 : Prop, (((0 : Int32) < lf → (((3 : Int32) < lf → (J1)) ∧ (¬ (3 : Int32) < lf → (∃ I17 : Nat → Int64 → Int32 → gS → Prop, (∃ k22 : Nat, I17 k22 best 0 σ) ∧ ∀ (k19 : Nat) (v15 : Int64) (v16 : Int32) (s25 : gS), I17 k19 v15 v16 s25 → (((v16 : Int32) < bl → (g_call yX7_bestHours cX7_bestHours 7 (some .long) kX h [.ref 26, .int (lf - 1), .int v16, .int (bi ||| ((1 : Int32) <<< (v16 &&& 31))), .long v15] s25 (fun rv s30 => ∃ r32 : Int64, rv = some (.long r32) ∧ (∃ k33 : Nat, k33 < k19 ∧ I17 k33 r32 (v16 + 1) s30)))) ∧ (¬ (v16 : Int32) < bl → (Qp (some (.long v15)) s25))))))) ∧ (¬ (0 : Int32) < lf → (J1))) ∧ (J1 → (g_call yX0_better cX0_better 4 (some .long) kX h [.ref 26, .long best, .int bi] (g_up σ 26 3 bi) (fun rv s7 => ∃ r9 : Int64, rv = some (.long r9) ∧ (Qp (some (.long r9)) s7)))))
set_option maxHeartbeats 4000000 in
set_option maxRecDepth 100000 in
theorem w_X7_bestHours {h : Nat} (hh : 6 ≤ h) {lf bl bi : Int32} {best : Int64} {σ : gS} {Qp : Option Value → gS → Prop} (P : P_X7_bestHours h lf bl bi best σ Qp) : g_Met yX7_bestHours cX7_bestHours 7 (some .long) h kX [.ref 26, .int lf, .int bl, .int bi, .long best] σ Qp := by
  unfold P_X7_bestHours at P
  refine g_Met.of (own := 7) (L := [some (.ref 26), some (.int lf), some (.int bl), some (.int bi), some (.long best), none, none]) (by decide) rfl rfl (fun ad => Nat.le_of_ble_eq_true rfl) (fun ad => rfl) (fun X G K C => ?_)
  refine V_blk C (pc' := 1) (σ' := σ) (L' := [some (.ref 26), some (.int lf), some (.int bl), some (.int bi), some (.long best), none, none]) (st' := [.int lf]) (g_c dX7_bestHours_0 g_n) rfl rfl ?_
  obtain ⟨J1, p3, p4⟩ := P
  have jn2 : ∀ (_ : J1 ), gV X G K 7 Qp σ [some (.ref 26), none, none, some (.int bi), some (.long best), none, none] [] 9 := by
    intro  hJ5
    have p6 := p4  hJ5
    refine V_blk C (pc' := 18) (σ' := (g_up σ 26 3 bi)) (L' := [some (.ref 26), none, none, some (.int bi), some (.long best), none, none]) (st' := [.int bi, .long best, .ref 26]) (g_c dX7_bestHours_9 (g_c dX7_bestHours_10 (g_c dX7_bestHours_11 (g_c dX7_bestHours_14 (g_c dX7_bestHours_15 (g_c dX7_bestHours_17 g_n)))))) rfl rfl ?_
    refine V_gV C cv_X7_199 p6 ⟨_, _, _, _, rfl, rfl⟩ (by rfl) (by decide) (As := [.long best, .int bi]) (rest := []) rfl rfl (Nat.le_of_ble_eq_true rfl) dX7_bestHours_18 (fun rv s7 hq => ?_)
    obtain ⟨r9, rfl, p8⟩ := hq
    refine V_lret C dX7_bestHours_21 ?_
    exact p8
  refine V_if_le2 C (tgt := 9) dX7_bestHours_1 (by decide) (fun h10 => ?_) (fun h10 => ?_)
  · skip
    have p11 := p3.2 h10
    refine V_less (L' := [some (.ref 26), none, none, some (.int bi), some (.long best), none, none]) (by simp [g_subL]) ?_
    exact jn2 p11
  · skip
    have p12 := p3.1 h10
    refine V_blk C (pc' := 6) (σ' := σ) (L' := [some (.ref 26), some (.int lf), some (.int bl), some (.int bi), some (.long best), none, none]) (st' := [.int 3, .int lf]) (g_c dX7_bestHours_4 (g_c dX7_bestHours_5 g_n)) rfl rfl ?_
    refine V_icmp_le2 C (tgt := 22) dX7_bestHours_6 (by decide) (fun h13 => ?_) (fun h13 => ?_)
    · skip
      have p14 := p12.2 h13
      refine V_blk C (pc' := 25) (σ' := σ) (L' := [some (.ref 26), some (.int lf), some (.int bl), some (.int bi), some (.long best), none, some (.int 0)]) (st' := []) (g_c dX7_bestHours_22 (g_c dX7_bestHours_23 g_n)) rfl rfl ?_
      obtain ⟨I17, ⟨k22, hI24⟩, hS21⟩ := p14
      have lp23 : ∀ (k19 : Nat) (v15 : Int64) (v16 : Int32) (s25 : gS), I17 k19 v15 v16 s25 → gV X G K 7 Qp s25 [some (.ref 26), some (.int lf), some (.int bl), some (.int bi), some (.long v15), none, some (.int v16)] [] 25 := by
        intro k19
        induction k19 using Nat.strongRecOn with
        | ind k19 ih18 =>
          intro v15 v16 s25 hI20
          have p26 := hS21 k19 v15 v16 s25 hI20
          refine V_blk C (pc' := 28) (σ' := s25) (L' := [some (.ref 26), some (.int lf), some (.int bl), some (.int bi), some (.long v15), none, some (.int v16)]) (st' := [.int bl, .int v16]) (g_c dX7_bestHours_25 (g_c dX7_bestHours_27 g_n)) rfl rfl ?_
          refine V_icmp_ge2 C (tgt := 56) dX7_bestHours_28 (by decide) (fun h27 => ?_) (fun h27 => ?_)
          · skip
            have p28 := p26.2 h27
            refine V_blk C (pc' := 58) (σ' := s25) (L' := [some (.ref 26), some (.int lf), some (.int bl), some (.int bi), some (.long v15), none, some (.int v16)]) (st' := [.long v15]) (g_c dX7_bestHours_56 g_n) rfl rfl ?_
            refine V_lret C dX7_bestHours_58 ?_
            exact p28
          · skip
            have p29 := p26.1 h27
            refine V_blk C (pc' := 45) (σ' := s25) (L' := [some (.ref 26), some (.int lf), some (.int bl), some (.int bi), some (.long v15), none, some (.int v16)]) (st' := [.long v15, .int (bi ||| ((1 : Int32) <<< (v16 &&& 31))), .int v16, .int (lf - 1), .ref 26]) (g_c dX7_bestHours_31 (g_c dX7_bestHours_32 (g_c dX7_bestHours_33 (g_c dX7_bestHours_34 (g_c dX7_bestHours_35 (g_c dX7_bestHours_37 (g_c dX7_bestHours_38 (g_c dX7_bestHours_39 (g_c dX7_bestHours_41 (g_c dX7_bestHours_42 (g_c dX7_bestHours_43 g_n))))))))))) rfl rfl ?_
            refine V_gS C cs_X7_213 p29 (by decide) (As := [.ref 26, .int (lf - 1), .int v16, .int (bi ||| ((1 : Int32) <<< (v16 &&& 31))), .long v15]) (rest := []) rfl rfl (Nat.le_of_ble_eq_true rfl) dX7_bestHours_45 (fun rv s30 hq => ?_)
            obtain ⟨r32, rfl, p31⟩ := hq
            refine V_blk C (pc' := 53) (σ' := s30) (L' := [some (.ref 26), some (.int lf), some (.int bl), some (.int bi), some (.long r32), none, some (.int (v16 + 1))]) (st' := []) (g_c dX7_bestHours_48 (g_c dX7_bestHours_50 g_n)) rfl rfl ?_
            refine V_goto C (tgt := 25) dX7_bestHours_53 (by decide) ?_
            obtain ⟨k33, hkk33, hIk33⟩ := p31
            exact ih18 k33 hkk33 r32 (v16 + 1) s30 hIk33
      exact lp23 k22 best 0 σ hI24
    · skip
      have p34 := p12.1 h13
      refine V_less (L' := [some (.ref 26), none, none, some (.int bi), some (.long best), none, none]) (by simp [g_subL]) ?_
      exact jn2 p34
set_option maxRecDepth 100000 in
def P_X7_refusalOfSight (h : Nat) (sh : Int32) (hr : Int32) (σ : gS) (Qp : Option Value → gS → Prop) : Prop :=
  ((g_in sh 0 3 → ((g_in hr 0 23 → (∃ j8 : Nat, sh = nI j8 ∧ j8 < 4 ∧ ((((σ (37 + 2 * j8) 0) : Int32) = (-1) → (Qp (some (.int (-11))) σ)) ∧ (¬ ((σ (37 + 2 * j8) 0) : Int32) = (-1) → (Qp (some (.int (if ((σ (37 + 2 * j8) 1) : Int32) = (σ 1 9) then 0 else (-2)))) σ))))) ∧ (¬ g_in hr 0 23 → (Qp (some (.int (-2))) σ)))) ∧ (¬ g_in sh 0 3 → (Qp (some (.int (-2))) σ)))
set_option maxHeartbeats 4000000 in
set_option maxRecDepth 100000 in
theorem w_X7_refusalOfSight {h : Nat} (hh : 6 ≤ h) {sh : Int32} {hr : Int32} {σ : gS} {Qp : Option Value → gS → Prop} (P : P_X7_refusalOfSight h sh hr σ Qp) : g_Met yX7_refusalOfSight cX7_refusalOfSight 3 (some .int) h kX [.ref 0, .int sh, .int hr] σ Qp := by
  unfold P_X7_refusalOfSight at P
  refine g_Met.of (own := 7) (L := [some (.ref 0), some (.int sh), some (.int hr)]) (by decide) rfl rfl (fun ad => Nat.le_of_ble_eq_true rfl) (fun ad => rfl) (fun X G K C => ?_)
  refine V_blk C (pc' := 1) (σ' := σ) (L' := [some (.ref 0), some (.int sh), some (.int hr)]) (st' := [.int sh]) (g_c dX7_refusalOfSight_0 g_n) rfl rfl ?_
  refine V_callSI C cs_X7_262 (c_X7_isSheet σ sh) (by omega) (by decide) (fun _ h => h) (As := [.int sh]) (rest := []) rfl rfl (Nat.le_of_ble_eq_true rfl) dX7_refusalOfSight_1 ?_
  refine V_if_eq_b C (tgt := 14) dX7_refusalOfSight_4 (by decide) (fun h1 => ?_) (fun h1 => ?_)
  · skip
    have p2 := P.2 h1
    refine V_blk C (pc' := 16) (σ' := σ) (L' := [some (.ref 0), some (.int sh), some (.int hr)]) (st' := [.int (-2)]) (g_c dX7_refusalOfSight_14 g_n) rfl rfl ?_
    refine V_iret C dX7_refusalOfSight_16 ?_
    exact p2
  · skip
    have p3 := P.1 h1
    refine V_blk C (pc' := 8) (σ' := σ) (L' := [some (.ref 0), some (.int sh), some (.int hr)]) (st' := [.int hr]) (g_c dX7_refusalOfSight_7 g_n) rfl rfl ?_
    refine V_callSI C cs_X7_82 (c_X7_isHour σ hr) (by omega) (by decide) (fun _ h => h) (As := [.int hr]) (rest := []) rfl rfl (Nat.le_of_ble_eq_true rfl) dX7_refusalOfSight_8 ?_
    refine V_if_ne_b C (tgt := 17) dX7_refusalOfSight_11 (by decide) (fun h4 => ?_) (fun h4 => ?_)
    · skip
      have p5 := p3.1 h4
      refine V_blk C (pc' := 22) (σ' := σ) (L' := [some (.ref 0), some (.int sh), some (.int hr)]) (st' := [.int sh, .ref 22]) (g_c dX7_refusalOfSight_17 (g_c dX7_refusalOfSight_18 (g_c dX7_refusalOfSight_21 g_n))) rfl rfl ?_
      obtain ⟨j8, e9, l7, p6⟩ := p5
      refine V_eq rfl rfl (st' := [.int (nI j8), .ref 22]) (by rw [← e9]) ?_
      have g10 : j8 < 4 := (by omega)
      refine V_aldS C (i := j8) g10 (by rfl) dX7_refusalOfSight_22 ?_
      refine V_get4i C (t := j8) (j := 0) g10 (by decide) fl_X7_267 (kX_lt (by omega)) dX7_refusalOfSight_23 ?_
      refine V_blk C (pc' := 27) (σ' := σ) (L' := [some (.ref 0), some (.int sh), some (.int hr)]) (st' := [.int (-1), .int (σ (37 + 2 * j8) 0)]) (g_c dX7_refusalOfSight_26 g_n) rfl rfl ?_
      refine V_icmp_ne C (tgt := 33) dX7_refusalOfSight_27 (by decide) (fun h11 => ?_) (fun h11 => ?_)
      · skip
        have p12 := p6.2 h11
        refine V_blk C (pc' := 38) (σ' := σ) (L' := [some (.ref 0), some (.int sh), some (.int hr)]) (st' := [.int sh, .ref 22]) (g_c dX7_refusalOfSight_33 (g_c dX7_refusalOfSight_34 (g_c dX7_refusalOfSight_37 g_n))) rfl rfl ?_
        refine V_eq rfl rfl (st' := [.int (nI j8), .ref 22]) (by rw [← e9]) ?_
        have g13 : j8 < 4 := (by omega)
        refine V_aldS C (i := j8) g13 (by rfl) dX7_refusalOfSight_38 ?_
        refine V_get4i C (t := j8) (j := 1) g13 (by decide) fl_X7_301 (kX_lt (by omega)) dX7_refusalOfSight_39 ?_
        refine V_blk C (pc' := 49) (σ' := σ) (L' := [some (.ref 0), some (.int sh), some (.int hr)]) (st' := [.int (σ 1 9), .int (σ (37 + 2 * j8) 1)]) (g_c dX7_refusalOfSight_42 (g_c dX7_refusalOfSight_43 (g_c dX7_refusalOfSight_46 g_n))) rfl rfl ?_
        refine V_join (P := ((σ (37 + 2 * j8) 1) : Int32) = (σ 1 9)) (a := 0) (b := (-2)) (pcJ := 58) (rest := []) (fun x_ hx_ => ?_) (fun kT kF => ?_)
        · skip
          subst hx_
          refine V_iret C dX7_refusalOfSight_58 ?_
          exact p12
        · refine V_icmp_ne C (tgt := 56) dX7_refusalOfSight_49 (by decide) (fun h14 => ?_) (fun h14 => ?_)
          · skip
            refine V_blk C (pc' := 58) (σ' := σ) (L' := [some (.ref 0), some (.int sh), some (.int hr)]) (st' := [.int (-2)]) (g_c dX7_refusalOfSight_56 g_n) rfl rfl ?_
            exact kF h14
          · skip
            refine V_blk C (pc' := 53) (σ' := σ) (L' := [some (.ref 0), some (.int sh), some (.int hr)]) (st' := [.int 0]) (g_c dX7_refusalOfSight_52 g_n) rfl rfl ?_
            refine V_goto C (tgt := 58) dX7_refusalOfSight_53 (by decide) ?_
            exact kT h14
      · skip
        have p15 := p6.1 h11
        refine V_blk C (pc' := 32) (σ' := σ) (L' := [some (.ref 0), some (.int sh), some (.int hr)]) (st' := [.int (-11)]) (g_c dX7_refusalOfSight_30 g_n) rfl rfl ?_
        refine V_iret C dX7_refusalOfSight_32 ?_
        exact p15
    · skip
      have p16 := p3.2 h4
      refine V_blk C (pc' := 16) (σ' := σ) (L' := [some (.ref 0), some (.int sh), some (.int hr)]) (st' := [.int (-2)]) (g_c dX7_refusalOfSight_14 g_n) rfl rfl ?_
      refine V_iret C dX7_refusalOfSight_16 ?_
      exact p16
set_option maxRecDepth 100000 in
def P_X7_isAsSeen (h : Nat) (sh : Int32) (hr : Int32) (set_ : Int32) (σ : gS) (Qp : Option Value → gS → Prop) : Prop :=
  (g_call yX7_dawn cX7_dawn 1 (some (.object "UnderTheRoof$Day")) kX h [.ref 0] σ (fun rv s1 => rv = some (.ref 26) ∧ (g_call yX5_keep cX5_keep 3 none kX h [.ref 33, .int set_] s1 (fun rv s3 => rv = none ∧ (g_call yX0_lay cX0_lay 2 none kX h [.ref 26] s3 (fun rv s5 => rv = none ∧ (g_call yX0_run cX0_run 4 none kX h [.ref 26, .int (hr + 1), .int 2147483647] s5 (fun rv s7 => rv = none ∧ (∃ I10 : Nat → Int32 → Prop, (∃ k15 : Nat, I10 k15 0) ∧ ∀ (k12 : Nat) (v9 : Int32), I10 k12 v9 → (((v9 : Int32) < (s7 1 9) → (((v9 : Int32) < 5 → (∃ j28 : Nat, v9 = nI j28 ∧ j28 < 5 ∧ (∃ j32 : Nat, sh = nI j32 ∧ j32 < 4 ∧ ((((s7 29 j28) : Int32) = (s7 (38 + 2 * j32) j28) → (∃ k37 : Nat, k37 < k12 ∧ I10 k37 (v9 + 1))) ∧ (¬ ((s7 29 j28) : Int32) = (s7 (38 + 2 * j32) j28) → (Qp (some (.int 0)) s7)))))) ∧ (¬ (v9 : Int32) < 5 → (Qp (some (.int 1)) s7)))) ∧ (¬ (v9 : Int32) < (s7 1 9) → (Qp (some (.int 1)) s7))))))))))))
set_option maxHeartbeats 4000000 in
set_option maxRecDepth 100000 in
theorem w_X7_isAsSeen {h : Nat} (hh : 6 ≤ h) {sh : Int32} {hr : Int32} {set_ : Int32} {σ : gS} {Qp : Option Value → gS → Prop} (P : P_X7_isAsSeen h sh hr set_ σ Qp) : g_Met yX7_isAsSeen cX7_isAsSeen 5 (some .boolean) h kX [.ref 0, .int sh, .int hr, .int set_] σ Qp := by
  unfold P_X7_isAsSeen at P
  refine g_Met.of (own := 7) (L := [some (.ref 0), some (.int sh), some (.int hr), some (.int set_), none]) (by decide) rfl rfl (fun ad => Nat.le_of_ble_eq_true rfl) (fun ad => rfl) (fun X G K C => ?_)
  refine V_blk C (pc' := 1) (σ' := σ) (L' := [some (.ref 0), some (.int sh), some (.int hr), some (.int set_), none]) (st' := [.ref 0]) (g_c dX7_isAsSeen_0 g_n) rfl rfl ?_
  refine V_gV C cv_X7_140 P ⟨_, _, _, _, rfl, rfl⟩ (by rfl) (by decide) (As := []) (rest := []) rfl rfl (Nat.le_of_ble_eq_true rfl) dX7_isAsSeen_1 (fun rv s1 hq => ?_)
  obtain ⟨rfl, p2⟩ := hq
  refine V_blk C (pc' := 8) (σ' := s1) (L' := [some (.ref 0), some (.int sh), some (.int hr), some (.int set_), none]) (st' := [.int set_, .ref 33]) (g_c dX7_isAsSeen_4 (g_c dX7_isAsSeen_7 g_n)) rfl rfl ?_
  refine V_gV C cv_X7_302 p2 ⟨_, _, _, _, rfl, rfl⟩ (by rfl) (by decide) (As := [.int set_]) (rest := []) rfl rfl (Nat.le_of_ble_eq_true rfl) dX7_isAsSeen_8 (fun rv s3 hq => ?_)
  obtain ⟨rfl, p4⟩ := hq
  refine V_blk C (pc' := 15) (σ' := s3) (L' := [some (.ref 0), some (.int sh), some (.int hr), some (.int set_), none]) (st' := [.ref 26]) (g_c dX7_isAsSeen_11 (g_c dX7_isAsSeen_12 g_n)) rfl rfl ?_
  refine V_gV C cv_X7_179 p4 ⟨_, _, _, _, rfl, rfl⟩ (by rfl) (by decide) (As := []) (rest := []) rfl rfl (Nat.le_of_ble_eq_true rfl) dX7_isAsSeen_15 (fun rv s5 hq => ?_)
  obtain ⟨rfl, p6⟩ := hq
  refine V_blk C (pc' := 27) (σ' := s5) (L' := [some (.ref 0), some (.int sh), some (.int hr), some (.int set_), none]) (st' := [.int 2147483647, .int (hr + 1), .ref 26]) (g_c dX7_isAsSeen_18 (g_c dX7_isAsSeen_19 (g_c dX7_isAsSeen_22 (g_c dX7_isAsSeen_23 (g_c dX7_isAsSeen_24 (g_c dX7_isAsSeen_25 g_n)))))) rfl rfl ?_
  refine V_gV C cv_X7_183 p6 ⟨_, _, _, _, rfl, rfl⟩ (by rfl) (by decide) (As := [.int (hr + 1), .int 2147483647]) (rest := []) rfl rfl (Nat.le_of_ble_eq_true rfl) dX7_isAsSeen_27 (fun rv s7 hq => ?_)
  obtain ⟨rfl, p8⟩ := hq
  refine V_blk C (pc' := 33) (σ' := s7) (L' := [some (.ref 0), some (.int sh), some (.int hr), some (.int set_), some (.int 0)]) (st' := []) (g_c dX7_isAsSeen_30 (g_c dX7_isAsSeen_31 g_n)) rfl rfl ?_
  refine V_less (L' := [some (.ref 0), some (.int sh), none, none, some (.int 0)]) (by simp [g_subL]) ?_
  obtain ⟨I10, ⟨k15, hI17⟩, hS14⟩ := p8
  have lp16 : ∀ (k12 : Nat) (v9 : Int32), I10 k12 v9 → gV X G K 5 Qp s7 [some (.ref 0), some (.int sh), none, none, some (.int v9)] [] 33 := by
    intro k12
    induction k12 using Nat.strongRecOn with
    | ind k12 ih11 =>
      intro v9 hI13
      have p19 := hS14 k12 v9 hI13
      refine V_blk C (pc' := 42) (σ' := s7) (L' := [some (.ref 0), some (.int sh), none, none, some (.int v9)]) (st' := [.int (s7 1 9), .int v9]) (g_c dX7_isAsSeen_33 (g_c dX7_isAsSeen_35 (g_c dX7_isAsSeen_36 (g_c dX7_isAsSeen_39 g_n)))) rfl rfl ?_
      refine V_icmp_ge2 C (tgt := 84) dX7_isAsSeen_42 (by decide) (fun h20 => ?_) (fun h20 => ?_)
      · skip
        have p21 := p19.2 h20
        refine V_blk C (pc' := 85) (σ' := s7) (L' := [some (.ref 0), some (.int sh), none, none, some (.int v9)]) (st' := [.int 1]) (g_c dX7_isAsSeen_84 g_n) rfl rfl ?_
        refine V_zret C (by decide) dX7_isAsSeen_85 ?_
        exact p21
      · skip
        have p22 := p19.1 h20
        refine V_blk C (pc' := 48) (σ' := s7) (L' := [some (.ref 0), some (.int sh), none, none, some (.int v9)]) (st' := [.int 5, .int v9]) (g_c dX7_isAsSeen_45 (g_c dX7_isAsSeen_47 g_n)) rfl rfl ?_
        refine V_icmp_ge2 C (tgt := 84) dX7_isAsSeen_48 (by decide) (fun h23 => ?_) (fun h23 => ?_)
        · skip
          have p24 := p22.2 h23
          refine V_blk C (pc' := 85) (σ' := s7) (L' := [some (.ref 0), some (.int sh), none, none, some (.int v9)]) (st' := [.int 1]) (g_c dX7_isAsSeen_84 g_n) rfl rfl ?_
          refine V_zret C (by decide) dX7_isAsSeen_85 ?_
          exact p24
        · skip
          have p25 := p22.1 h23
          refine V_blk C (pc' := 60) (σ' := s7) (L' := [some (.ref 0), some (.int sh), none, none, some (.int v9)]) (st' := [.int v9, .ref 29]) (g_c dX7_isAsSeen_51 (g_c dX7_isAsSeen_52 (g_c dX7_isAsSeen_55 (g_c dX7_isAsSeen_58 g_n)))) rfl rfl ?_
          obtain ⟨j28, e29, l27, p26⟩ := p25
          refine V_ialdJ C (j := j28) (k := 29) (n := 5) (by rfl) (by rfl) e29 ⟨(by omega), (by omega)⟩ dX7_isAsSeen_60 ?_
          refine V_blk C (pc' := 66) (σ' := s7) (L' := [some (.ref 0), some (.int sh), none, none, some (.int v9)]) (st' := [.int sh, .ref 22, .int (s7 29 j28)]) (g_c dX7_isAsSeen_61 (g_c dX7_isAsSeen_62 (g_c dX7_isAsSeen_65 g_n))) rfl rfl ?_
          obtain ⟨j32, e33, l31, p30⟩ := p26
          refine V_eq rfl rfl (st' := [.int (nI j32), .ref 22, .int (s7 29 j28)]) (by rw [← e33]) ?_
          have g34 : j32 < 4 := (by omega)
          refine V_aldS C (i := j32) g34 (by rfl) dX7_isAsSeen_66 ?_
          refine V_get4r C (t := j32) g34 fl_X7_274 (kX_lt (by omega)) dX7_isAsSeen_67 ?_
          refine V_blk C (pc' := 72) (σ' := s7) (L' := [some (.ref 0), some (.int sh), none, none, some (.int v9)]) (st' := [.int v9, .ref (38 + 2 * j32), .int (s7 29 j28)]) (g_c dX7_isAsSeen_70 g_n) rfl rfl ?_
          refine V_ialdJ C (j := j28) (k := (38 + 2 * j32)) (n := 40) (sh_items g34) (kX_lt (by omega)) e29 ⟨(by omega), (by omega)⟩ dX7_isAsSeen_72 ?_
          refine V_icmp_eq C (tgt := 78) dX7_isAsSeen_73 (by decide) (fun h35 => ?_) (fun h35 => ?_)
          · skip
            have p36 := p30.1 h35
            refine V_blk C (pc' := 81) (σ' := s7) (L' := [some (.ref 0), some (.int sh), none, none, some (.int (v9 + 1))]) (st' := []) (g_c dX7_isAsSeen_78 g_n) rfl rfl ?_
            refine V_goto C (tgt := 33) dX7_isAsSeen_81 (by decide) ?_
            obtain ⟨k37, hkk37, hIk37⟩ := p36
            exact ih11 k37 hkk37 (v9 + 1) hIk37
          · skip
            have p38 := p30.2 h35
            refine V_blk C (pc' := 77) (σ' := s7) (L' := [some (.ref 0), some (.int sh), none, none, some (.int v9)]) (st' := [.int 0]) (g_c dX7_isAsSeen_76 g_n) rfl rfl ?_
            refine V_zret C (by decide) dX7_isAsSeen_77 ?_
            exact p38
  exact lp16 k15 0 hI17
set_option maxRecDepth 100000 in
def P_X7_sharedDivisor (h : Nat) (a : Int32) (b : Int32) (σ : gS) (Qp : Option Value → gS → Prop) : Prop :=
  (∃ I2 : Nat → Int32 → Prop, (∃ k7 : Nat, I2 k7 b) ∧ ∀ (k4 : Nat) (v1 : Int32), I2 k4 v1 → (((1 : Int32) < v1 → ((¬ v1 = 0) ∧ ((((a - a / v1 * v1) : Int32) = 0 → ((¬ v1 = 0) ∧ ((((b - b / v1 * v1) : Int32) = 0 → (Qp (some (.int v1)) σ)) ∧ (¬ ((b - b / v1 * v1) : Int32) = 0 → (∃ k25 : Nat, k25 < k4 ∧ I2 k25 (v1 + (-1))))))) ∧ (¬ ((a - a / v1 * v1) : Int32) = 0 → (∃ k19 : Nat, k19 < k4 ∧ I2 k19 (v1 + (-1))))))) ∧ (¬ (1 : Int32) < v1 → (Qp (some (.int 1)) σ))))
set_option maxHeartbeats 4000000 in
set_option maxRecDepth 100000 in
theorem w_X7_sharedDivisor {h : Nat} (hh : 6 ≤ h) {a : Int32} {b : Int32} {σ : gS} {Qp : Option Value → gS → Prop} (P : P_X7_sharedDivisor h a b σ Qp) : g_Met yX7_sharedDivisor cX7_sharedDivisor 3 (some .int) h kX [.int a, .int b] σ Qp := by
  unfold P_X7_sharedDivisor at P
  refine g_Met.of (own := 7) (L := [some (.int a), some (.int b), none]) (by decide) rfl rfl (fun ad => Nat.le_of_ble_eq_true rfl) (fun ad => rfl) (fun X G K C => ?_)
  refine V_blk C (pc' := 2) (σ' := σ) (L' := [some (.int a), some (.int b), some (.int b)]) (st' := []) (g_c dX7_sharedDivisor_0 (g_c dX7_sharedDivisor_1 g_n)) rfl rfl ?_
  obtain ⟨I2, ⟨k7, hI9⟩, hS6⟩ := P
  have lp8 : ∀ (k4 : Nat) (v1 : Int32), I2 k4 v1 → gV X G K 3 Qp σ [some (.int a), some (.int b), some (.int v1)] [] 2 := by
    intro k4
    induction k4 using Nat.strongRecOn with
    | ind k4 ih3 =>
      intro v1 hI5
      have p11 := hS6 k4 v1 hI5
      refine V_blk C (pc' := 4) (σ' := σ) (L' := [some (.int a), some (.int b), some (.int v1)]) (st' := [.int 1, .int v1]) (g_c dX7_sharedDivisor_2 (g_c dX7_sharedDivisor_3 g_n)) rfl rfl ?_
      refine V_icmp_le2 C (tgt := 27) dX7_sharedDivisor_4 (by decide) (fun h12 => ?_) (fun h12 => ?_)
      · skip
        have p13 := p11.2 h12
        refine V_blk C (pc' := 28) (σ' := σ) (L' := [some (.int a), some (.int b), some (.int v1)]) (st' := [.int 1]) (g_c dX7_sharedDivisor_27 g_n) rfl rfl ?_
        refine V_iret C dX7_sharedDivisor_28 ?_
        exact p13
      · skip
        have p14 := p11.1 h12
        refine V_blk C (pc' := 9) (σ' := σ) (L' := [some (.int a), some (.int b), some (.int v1)]) (st' := [.int v1, .int a]) (g_c dX7_sharedDivisor_7 (g_c dX7_sharedDivisor_8 g_n)) rfl rfl ?_
        have q15 := p14.1
        have p16 := p14.2
        refine V_irem C q15 dX7_sharedDivisor_9 ?_
        refine V_if_ne C (tgt := 21) dX7_sharedDivisor_10 (by decide) (fun h17 => ?_) (fun h17 => ?_)
        · skip
          have p18 := p16.2 h17
          refine V_blk C (pc' := 24) (σ' := σ) (L' := [some (.int a), some (.int b), some (.int (v1 + (-1)))]) (st' := []) (g_c dX7_sharedDivisor_21 g_n) rfl rfl ?_
          refine V_goto C (tgt := 2) dX7_sharedDivisor_24 (by decide) ?_
          obtain ⟨k19, hkk19, hIk19⟩ := p18
          exact ih3 k19 hkk19 (v1 + (-1)) hIk19
        · skip
          have p20 := p16.1 h17
          refine V_blk C (pc' := 15) (σ' := σ) (L' := [some (.int a), some (.int b), some (.int v1)]) (st' := [.int v1, .int b]) (g_c dX7_sharedDivisor_13 (g_c dX7_sharedDivisor_14 g_n)) rfl rfl ?_
          have q21 := p20.1
          have p22 := p20.2
          refine V_irem C q21 dX7_sharedDivisor_15 ?_
          refine V_if_ne C (tgt := 21) dX7_sharedDivisor_16 (by decide) (fun h23 => ?_) (fun h23 => ?_)
          · skip
            have p24 := p22.2 h23
            refine V_blk C (pc' := 24) (σ' := σ) (L' := [some (.int a), some (.int b), some (.int (v1 + (-1)))]) (st' := []) (g_c dX7_sharedDivisor_21 g_n) rfl rfl ?_
            refine V_goto C (tgt := 2) dX7_sharedDivisor_24 (by decide) ?_
            obtain ⟨k25, hkk25, hIk25⟩ := p24
            exact ih3 k25 hkk25 (v1 + (-1)) hIk25
          · skip
            have p26 := p22.1 h23
            refine V_blk C (pc' := 20) (σ' := σ) (L' := [some (.int a), some (.int b), some (.int v1)]) (st' := [.int v1]) (g_c dX7_sharedDivisor_19 g_n) rfl rfl ?_
            refine V_iret C dX7_sharedDivisor_20 ?_
            exact p26
  exact lp8 k7 b hI9
set_option maxRecDepth 100000 in
def P_X7_rainBy (h : Nat) (t : Nat) (fr n : Int32) (σ : gS) (Qp : Option Value → gS → Prop) : Prop :=
  (∃ I3 : Nat → Int32 → Int32 → gS → Prop, (∃ k8 : Nat, I3 k8 0 0 σ) ∧ ∀ (k5 : Nat) (v1 : Int32) (v2 : Int32) (s11 : gS), I3 k5 v1 v2 s11 → (((v2 : Int32) < n → (g_call yX4_hasAll cX4_hasAll 3 (some .boolean) kX h [.ref (37 + 2 * t), .int (fr + (2 * v2)), .int 2] s11 (fun rv s16 => ∃ r18 : Int32, rv = some (.int r18) ∧ (((r18 : Int32) = 0 → (Qp (some (.int (-12))) s16)) ∧ (¬ (r18 : Int32) = 0 → (∃ j23 : Nat, (fr + (2 * v2)) = nI j23 ∧ j23 < 40 ∧ (∃ j27 : Nat, ((fr + (2 * v2)) + 1) = nI j27 ∧ j27 < 40 ∧ ((g_in (s16 (38 + 2 * t) j23) 0 23 → ((g_in (s16 (38 + 2 * t) j27) 0 9 → (∃ j39 : Nat, (s16 (38 + 2 * t) j23) = nI j39 ∧ j39 < 24 ∧ (∃ k41 : Nat, k41 < k5 ∧ I3 k41 (v1 + 1) (v2 + 1) (g_up s16 2 j39 (s16 (38 + 2 * t) j27))))) ∧ (¬ g_in (s16 (38 + 2 * t) j27) 0 9 → (∃ k35 : Nat, k35 < k5 ∧ I3 k35 v1 (v2 + 1) s16)))) ∧ (¬ g_in (s16 (38 + 2 * t) j23) 0 23 → (∃ k31 : Nat, k31 < k5 ∧ I3 k31 v1 (v2 + 1) s16)))))))))) ∧ (¬ (v2 : Int32) < n → (Qp (some (.int v1)) s11))))
set_option maxHeartbeats 4000000 in
set_option maxRecDepth 100000 in
theorem w_X7_rainBy {h : Nat} (hh : 6 ≤ h) {t : Nat} {fr n : Int32} {σ : gS} {Qp : Option Value → gS → Prop} (ht : t < 4) (P : P_X7_rainBy h t fr n σ Qp) : g_Met yX7_rainBy cX7_rainBy 9 (some .int) h kX [.ref 0, .ref (37 + 2 * t), .int fr, .int n] σ Qp := by
  unfold P_X7_rainBy at P
  refine g_Met.of (own := 7) (L := [some (.ref 0), some (.ref (37 + 2 * t)), some (.int fr), some (.int n), none, none, none, none, none]) (by decide) rfl rfl (fun ad => Nat.le_of_ble_eq_true rfl) (fun ad => rfl) (fun X G K C => ?_)
  refine V_blk C (pc' := 6) (σ' := σ) (L' := [some (.ref 0), some (.ref (37 + 2 * t)), some (.int fr), some (.int n), some (.int 0), some (.int 0), none, none, none]) (st' := []) (g_c dX7_rainBy_0 (g_c dX7_rainBy_1 (g_c dX7_rainBy_3 (g_c dX7_rainBy_4 g_n)))) rfl rfl ?_
  obtain ⟨I3, ⟨k8, hI10⟩, hS7⟩ := P
  have lp9 : ∀ (k5 : Nat) (v1 : Int32) (v2 : Int32) (s11 : gS), I3 k5 v1 v2 s11 → gV X G K 9 Qp s11 [some (.ref 0), some (.ref (37 + 2 * t)), some (.int fr), some (.int n), some (.int v1), some (.int v2), none, none, none] [] 6 := by
    intro k5
    induction k5 using Nat.strongRecOn with
    | ind k5 ih4 =>
      intro v1 v2 s11 hI6
      have p12 := hS7 k5 v1 v2 s11 hI6
      refine V_blk C (pc' := 9) (σ' := s11) (L' := [some (.ref 0), some (.ref (37 + 2 * t)), some (.int fr), some (.int n), some (.int v1), some (.int v2), none, none, none]) (st' := [.int n, .int v2]) (g_c dX7_rainBy_6 (g_c dX7_rainBy_8 g_n)) rfl rfl ?_
      refine V_icmp_ge2 C (tgt := 93) dX7_rainBy_9 (by decide) (fun h13 => ?_) (fun h13 => ?_)
      · skip
        have p14 := p12.2 h13
        refine V_blk C (pc' := 95) (σ' := s11) (L' := [some (.ref 0), some (.ref (37 + 2 * t)), some (.int fr), some (.int n), some (.int v1), some (.int v2), none, none, none]) (st' := [.int v1]) (g_c dX7_rainBy_93 g_n) rfl rfl ?_
        refine V_iret C dX7_rainBy_95 ?_
        exact p14
      · skip
        have p15 := p12.1 h13
        refine V_blk C (pc' := 24) (σ' := s11) (L' := [some (.ref 0), some (.ref (37 + 2 * t)), some (.int fr), some (.int n), some (.int v1), some (.int v2), some (.int (fr + (2 * v2))), none, none]) (st' := [.int 2, .int (fr + (2 * v2)), .ref (37 + 2 * t)]) (g_c dX7_rainBy_12 (g_c dX7_rainBy_13 (g_c dX7_rainBy_14 (g_c dX7_rainBy_16 (g_c dX7_rainBy_17 (g_c dX7_rainBy_18 (g_c dX7_rainBy_20 (g_c dX7_rainBy_21 (g_c dX7_rainBy_23 g_n))))))))) rfl rfl ?_
        refine V_gV C cv_X7_271 p15 ⟨4, _, _, _, sh_sheet ht, rfl⟩ (kX_lt (by omega)) (by decide) (As := [.int (fr + (2 * v2)), .int 2]) (rest := []) rfl rfl (Nat.le_of_ble_eq_true rfl) dX7_rainBy_24 (fun rv s16 hq => ?_)
        obtain ⟨r18, rfl, p17⟩ := hq
        refine V_if_ne C (tgt := 33) dX7_rainBy_27 (by decide) (fun h19 => ?_) (fun h19 => ?_)
        · skip
          have p20 := p17.2 h19
          refine V_blk C (pc' := 34) (σ' := s16) (L' := [some (.ref 0), some (.ref (37 + 2 * t)), some (.int fr), some (.int n), some (.int v1), some (.int v2), some (.int (fr + (2 * v2))), none, none]) (st' := [.ref (37 + 2 * t)]) (g_c dX7_rainBy_33 g_n) rfl rfl ?_
          refine V_get4r C (t := t) ht fl_X7_274 (kX_lt (by omega)) dX7_rainBy_34 ?_
          refine V_blk C (pc' := 39) (σ' := s16) (L' := [some (.ref 0), some (.ref (37 + 2 * t)), some (.int fr), some (.int n), some (.int v1), some (.int v2), some (.int (fr + (2 * v2))), none, none]) (st' := [.int (fr + (2 * v2)), .ref (38 + 2 * t)]) (g_c dX7_rainBy_37 g_n) rfl rfl ?_
          obtain ⟨j23, e24, l22, p21⟩ := p20
          refine V_ialdJ C (j := j23) (k := (38 + 2 * t)) (n := 40) (sh_items ht) (kX_lt (by omega)) e24 ⟨(by omega), (by omega)⟩ dX7_rainBy_39 ?_
          refine V_blk C (pc' := 43) (σ' := s16) (L' := [some (.ref 0), some (.ref (37 + 2 * t)), some (.int fr), some (.int n), some (.int v1), some (.int v2), some (.int (fr + (2 * v2))), some (.int (s16 (38 + 2 * t) j23)), none]) (st' := [.ref (37 + 2 * t)]) (g_c dX7_rainBy_40 (g_c dX7_rainBy_42 g_n)) rfl rfl ?_
          refine V_get4r C (t := t) ht fl_X7_274 (kX_lt (by omega)) dX7_rainBy_43 ?_
          refine V_blk C (pc' := 50) (σ' := s16) (L' := [some (.ref 0), some (.ref (37 + 2 * t)), some (.int fr), some (.int n), some (.int v1), some (.int v2), some (.int (fr + (2 * v2))), some (.int (s16 (38 + 2 * t) j23)), none]) (st' := [.int ((fr + (2 * v2)) + 1), .ref (38 + 2 * t)]) (g_c dX7_rainBy_46 (g_c dX7_rainBy_48 (g_c dX7_rainBy_49 g_n))) rfl rfl ?_
          obtain ⟨j27, e28, l26, p25⟩ := p21
          refine V_ialdJ C (j := j27) (k := (38 + 2 * t)) (n := 40) (sh_items ht) (kX_lt (by omega)) e28 ⟨(by omega), (by omega)⟩ dX7_rainBy_50 ?_
          refine V_blk C (pc' := 55) (σ' := s16) (L' := [some (.ref 0), some (.ref (37 + 2 * t)), some (.int fr), some (.int n), some (.int v1), some (.int v2), some (.int (fr + (2 * v2))), some (.int (s16 (38 + 2 * t) j23)), some (.int (s16 (38 + 2 * t) j27))]) (st' := [.int (s16 (38 + 2 * t) j23)]) (g_c dX7_rainBy_51 (g_c dX7_rainBy_53 g_n)) rfl rfl ?_
          refine V_callSI C cs_X7_82 (c_X7_isHour s16 (s16 (38 + 2 * t) j23)) (by omega) (by decide) (fun _ h => h) (As := [.int (s16 (38 + 2 * t) j23)]) (rest := []) rfl rfl (Nat.le_of_ble_eq_true rfl) dX7_rainBy_55 ?_
          refine V_if_eq_b C (tgt := 87) dX7_rainBy_58 (by decide) (fun h29 => ?_) (fun h29 => ?_)
          · skip
            have p30 := p25.2 h29
            refine V_blk C (pc' := 90) (σ' := s16) (L' := [some (.ref 0), some (.ref (37 + 2 * t)), some (.int fr), some (.int n), some (.int v1), some (.int (v2 + 1)), some (.int (fr + (2 * v2))), some (.int (s16 (38 + 2 * t) j23)), some (.int (s16 (38 + 2 * t) j27))]) (st' := []) (g_c dX7_rainBy_87 g_n) rfl rfl ?_
            refine V_goto C (tgt := 6) dX7_rainBy_90 (by decide) ?_
            refine V_less (L' := [some (.ref 0), some (.ref (37 + 2 * t)), some (.int fr), some (.int n), some (.int v1), some (.int (v2 + 1)), none, none, none]) (by simp [g_subL]) ?_
            obtain ⟨k31, hkk31, hIk31⟩ := p30
            exact ih4 k31 hkk31 v1 (v2 + 1) s16 hIk31
          · skip
            have p32 := p25.1 h29
            refine V_blk C (pc' := 66) (σ' := s16) (L' := [some (.ref 0), some (.ref (37 + 2 * t)), some (.int fr), some (.int n), some (.int v1), some (.int v2), some (.int (fr + (2 * v2))), some (.int (s16 (38 + 2 * t) j23)), some (.int (s16 (38 + 2 * t) j27))]) (st' := [.int 9, .int 0, .int (s16 (38 + 2 * t) j27)]) (g_c dX7_rainBy_61 (g_c dX7_rainBy_63 (g_c dX7_rainBy_64 g_n))) rfl rfl ?_
            refine V_callSI C cs_X7_85 (c_X7_isIn s16 (s16 (38 + 2 * t) j27) 0 9) (by omega) (by decide) (fun _ h => h) (As := [.int (s16 (38 + 2 * t) j27), .int 0, .int 9]) (rest := []) rfl rfl (Nat.le_of_ble_eq_true rfl) dX7_rainBy_66 ?_
            refine V_if_eq_b C (tgt := 87) dX7_rainBy_69 (by decide) (fun h33 => ?_) (fun h33 => ?_)
            · skip
              have p34 := p32.2 h33
              refine V_blk C (pc' := 90) (σ' := s16) (L' := [some (.ref 0), some (.ref (37 + 2 * t)), some (.int fr), some (.int n), some (.int v1), some (.int (v2 + 1)), some (.int (fr + (2 * v2))), some (.int (s16 (38 + 2 * t) j23)), some (.int (s16 (38 + 2 * t) j27))]) (st' := []) (g_c dX7_rainBy_87 g_n) rfl rfl ?_
              refine V_goto C (tgt := 6) dX7_rainBy_90 (by decide) ?_
              refine V_less (L' := [some (.ref 0), some (.ref (37 + 2 * t)), some (.int fr), some (.int n), some (.int v1), some (.int (v2 + 1)), none, none, none]) (by simp [g_subL]) ?_
              obtain ⟨k35, hkk35, hIk35⟩ := p34
              exact ih4 k35 hkk35 v1 (v2 + 1) s16 hIk35
            · skip
              have p36 := p32.1 h33
              refine V_blk C (pc' := 83) (σ' := s16) (L' := [some (.ref 0), some (.ref (37 + 2 * t)), some (.int fr), some (.int n), some (.int v1), some (.int v2), some (.int (fr + (2 * v2))), some (.int (s16 (38 + 2 * t) j23)), some (.int (s16 (38 + 2 * t) j27))]) (st' := [.int (s16 (38 + 2 * t) j27), .int (s16 (38 + 2 * t) j23), .ref 2]) (g_c dX7_rainBy_72 (g_c dX7_rainBy_73 (g_c dX7_rainBy_76 (g_c dX7_rainBy_79 (g_c dX7_rainBy_81 g_n))))) rfl rfl ?_
              obtain ⟨j39, e40, l38, p37⟩ := p36
              refine V_iastJ C (j := j39) (k := 2) (n := 24) (by rfl) (by rfl) e40 ⟨(by omega), (by omega)⟩ dX7_rainBy_83 ?_
              refine V_blk C (pc' := 90) (σ' := (g_up s16 2 j39 (s16 (38 + 2 * t) j27))) (L' := [some (.ref 0), some (.ref (37 + 2 * t)), some (.int fr), some (.int n), some (.int (v1 + 1)), some (.int (v2 + 1)), some (.int (fr + (2 * v2))), some (.int (s16 (38 + 2 * t) j23)), some (.int (s16 (38 + 2 * t) j27))]) (st' := []) (g_c dX7_rainBy_84 (g_c dX7_rainBy_87 g_n)) rfl rfl ?_
              refine V_goto C (tgt := 6) dX7_rainBy_90 (by decide) ?_
              refine V_less (L' := [some (.ref 0), some (.ref (37 + 2 * t)), some (.int fr), some (.int n), some (.int (v1 + 1)), some (.int (v2 + 1)), none, none, none]) (by simp [g_subL]) ?_
              obtain ⟨k41, hkk41, hIk41⟩ := p37
              exact ih4 k41 hkk41 (v1 + 1) (v2 + 1) (g_up s16 2 j39 (s16 (38 + 2 * t) j27)) hIk41
        · skip
          have p42 := p17.1 h19
          refine V_blk C (pc' := 32) (σ' := s16) (L' := [some (.ref 0), some (.ref (37 + 2 * t)), some (.int fr), some (.int n), some (.int v1), some (.int v2), some (.int (fr + (2 * v2))), none, none]) (st' := [.int (-12)]) (g_c dX7_rainBy_30 g_n) rfl rfl ?_
          refine V_iret C dX7_rainBy_32 ?_
          exact p42
  exact lp9 k8 0 0 σ hI10
