set_option maxRecDepth 100000 in
def P_X0_begin (h : Nat)  (σ : gS) (Qp : Option Value → gS → Prop) : Prop :=
  (g_call yX5_begin cX5_begin 2 none kX h [.ref 33] σ (fun rv s1 => rv = none ∧ (Qp none (g_cp (g_up (g_up (g_up s1 26 3 (s1 1 10)) 26 4 (s1 1 11)) 26 5 (s1 1 12)) 8 27 0 0 5))))
set_option maxHeartbeats 4000000 in
set_option maxRecDepth 100000 in
theorem w_X0_begin {h : Nat} (hh : 6 ≤ h)  {σ : gS} {Qp : Option Value → gS → Prop} (P : P_X0_begin h  σ Qp) : g_Met yX0_begin cX0_begin 1 none h kX [.ref 26] σ Qp := by
  unfold P_X0_begin at P
  refine g_Met.of (own := 0) (L := [some (.ref 26)]) (by decide) rfl rfl (fun ad => Nat.le_of_ble_eq_true rfl) (fun ad => rfl) (fun X G K C => ?_)
  refine V_blk C (pc' := 4) (σ' := σ) (L' := [some (.ref 26)]) (st' := [.ref 33]) (g_c dX0_begin_0 (g_c dX0_begin_1 g_n)) rfl rfl ?_
  refine V_gV C cv_X0_47 P ⟨_, _, _, _, rfl, rfl⟩ (by rfl) (by decide) (As := []) (rest := []) rfl rfl (Nat.le_of_ble_eq_true rfl) dX0_begin_4 (fun rv s1 hq => ?_)
  obtain ⟨rfl, p2⟩ := hq
  refine V_blk C (pc' := 54) (σ' := (g_up (g_up (g_up s1 26 3 (s1 1 10)) 26 4 (s1 1 11)) 26 5 (s1 1 12))) (L' := [some (.ref 26)]) (st' := [.int 5, .int 0, .ref 27, .int 0, .ref 8]) (g_c dX0_begin_7 (g_c dX0_begin_8 (g_c dX0_begin_9 (g_c dX0_begin_12 (g_c dX0_begin_15 (g_c dX0_begin_18 (g_c dX0_begin_19 (g_c dX0_begin_20 (g_c dX0_begin_23 (g_c dX0_begin_26 (g_c dX0_begin_29 (g_c dX0_begin_30 (g_c dX0_begin_31 (g_c dX0_begin_34 (g_c dX0_begin_37 (g_c dX0_begin_40 (g_c dX0_begin_41 (g_c dX0_begin_44 (g_c dX0_begin_47 (g_c dX0_begin_48 (g_c dX0_begin_49 (g_c dX0_begin_52 (g_c dX0_begin_53 g_n))))))))))))))))))))))) rfl rfl ?_
  refine V_copy C (ks := 8) (kd := 27) (ns := 5) (nd := 5) (sp := 0) (dp := 0) (n := 5) ca_X0_66 (by rfl) (by rfl) (by rfl) (by rfl) (by rfl) (by rfl) (by rfl) (by decide) (by decide) (by omega) (by decide) dX0_begin_54 ?_
  refine V_vret C dX0_begin_57 ?_
  exact p2
set_option maxRecDepth 100000 in
def P_X0_lay (h : Nat)  (σ : gS) (Qp : Option Value → gS → Prop) : Prop :=
  (g_call yX5_lay cX5_lay 4 none kX h [.ref 33] σ (fun rv s1 => rv = none ∧ (∃ I4 : Nat → Int32 → gS → Prop, (∃ k9 : Nat, I4 k9 0 s1) ∧ ∀ (k6 : Nat) (v3 : Int32) (s12 : gS), I4 k6 v3 s12 → (((v3 : Int32) < 192 → (∃ j19 : Nat, v3 = nI j19 ∧ j19 < 192 ∧ (∃ k21 : Nat, k21 < k6 ∧ I4 k21 (v3 + 1) (g_up s12 31 j19 (-1))))) ∧ (¬ (v3 : Int32) < 192 → (Qp none s12))))))
set_option maxHeartbeats 4000000 in
set_option maxRecDepth 100000 in
theorem w_X0_lay {h : Nat} (hh : 6 ≤ h)  {σ : gS} {Qp : Option Value → gS → Prop} (P : P_X0_lay h  σ Qp) : g_Met yX0_lay cX0_lay 2 none h kX [.ref 26] σ Qp := by
  unfold P_X0_lay at P
  refine g_Met.of (own := 0) (L := [some (.ref 26), none]) (by decide) rfl rfl (fun ad => Nat.le_of_ble_eq_true rfl) (fun ad => rfl) (fun X G K C => ?_)
  refine V_blk C (pc' := 4) (σ' := σ) (L' := [some (.ref 26), none]) (st' := [.ref 33]) (g_c dX0_lay_0 (g_c dX0_lay_1 g_n)) rfl rfl ?_
  refine V_gV C cv_X0_72 P ⟨_, _, _, _, rfl, rfl⟩ (by rfl) (by decide) (As := []) (rest := []) rfl rfl (Nat.le_of_ble_eq_true rfl) dX0_lay_4 (fun rv s1 hq => ?_)
  obtain ⟨rfl, p2⟩ := hq
  refine V_blk C (pc' := 9) (σ' := s1) (L' := [some (.ref 26), some (.int 0)]) (st' := []) (g_c dX0_lay_7 (g_c dX0_lay_8 g_n)) rfl rfl ?_
  obtain ⟨I4, ⟨k9, hI11⟩, hS8⟩ := p2
  have lp10 : ∀ (k6 : Nat) (v3 : Int32) (s12 : gS), I4 k6 v3 s12 → gV X G K 2 Qp s12 [some (.ref 26), some (.int v3)] [] 9 := by
    intro k6
    induction k6 using Nat.strongRecOn with
    | ind k6 ih5 =>
      intro v3 s12 hI7
      have p13 := hS8 k6 v3 s12 hI7
      refine V_blk C (pc' := 13) (σ' := s12) (L' := [some (.ref 26), some (.int v3)]) (st' := [.int 192, .int v3]) (g_c dX0_lay_9 (g_c dX0_lay_10 g_n)) rfl rfl ?_
      refine V_icmp_ge2 C (tgt := 29) dX0_lay_13 (by decide) (fun h14 => ?_) (fun h14 => ?_)
      · skip
        have p15 := p13.2 h14
        refine V_vret C dX0_lay_29 ?_
        exact p15
      · skip
        have p16 := p13.1 h14
        refine V_blk C (pc' := 22) (σ' := s12) (L' := [some (.ref 26), some (.int v3)]) (st' := [.int (-1), .int v3, .ref 31]) (g_c dX0_lay_16 (g_c dX0_lay_17 (g_c dX0_lay_20 (g_c dX0_lay_21 g_n)))) rfl rfl ?_
        obtain ⟨j19, e20, l18, p17⟩ := p16
        refine V_iastJ C (j := j19) (k := 31) (n := 192) (by rfl) (by rfl) e20 ⟨(by omega), (by omega)⟩ dX0_lay_22 ?_
        refine V_blk C (pc' := 26) (σ' := (g_up s12 31 j19 (-1))) (L' := [some (.ref 26), some (.int (v3 + 1))]) (st' := []) (g_c dX0_lay_23 g_n) rfl rfl ?_
        refine V_goto C (tgt := 9) dX0_lay_26 (by decide) ?_
        obtain ⟨k21, hkk21, hIk21⟩ := p17
        exact ih5 k21 hkk21 (v3 + 1) (g_up s12 31 j19 (-1)) hIk21
  exact lp10 k9 0 s1 hI11
set_option maxRecDepth 100000 in
def P_X0_costInAll (h : Nat)  (σ : gS) (Qp : Option Value → gS → Prop) : Prop :=
  (g_call yX0_lay cX0_lay 2 none kX h [.ref 26] σ (fun rv s1 => rv = none ∧ (g_call yX0_run cX0_run 4 none kX h [.ref 26, .int 24, .int 2147483647] s1 (fun rv s3 => rv = none ∧ (g_call yX0_cost cX0_cost 1 (some .int) kX h [.ref 26] s3 (fun rv s5 => ∃ r7 : Int32, rv = some (.int r7) ∧ (Qp (some (.int r7)) s5)))))))
set_option maxHeartbeats 4000000 in
set_option maxRecDepth 100000 in
theorem w_X0_costInAll {h : Nat} (hh : 6 ≤ h)  {σ : gS} {Qp : Option Value → gS → Prop} (P : P_X0_costInAll h  σ Qp) : g_Met yX0_costInAll cX0_costInAll 1 (some .int) h kX [.ref 26] σ Qp := by
  unfold P_X0_costInAll at P
  refine g_Met.of (own := 0) (L := [some (.ref 26)]) (by decide) rfl rfl (fun ad => Nat.le_of_ble_eq_true rfl) (fun ad => rfl) (fun X G K C => ?_)
  refine V_blk C (pc' := 1) (σ' := σ) (L' := [some (.ref 26)]) (st' := [.ref 26]) (g_c dX0_costInAll_0 g_n) rfl rfl ?_
  refine V_gV C cv_X0_75 P ⟨_, _, _, _, rfl, rfl⟩ (by rfl) (by decide) (As := []) (rest := []) rfl rfl (Nat.le_of_ble_eq_true rfl) dX0_costInAll_1 (fun rv s1 hq => ?_)
  obtain ⟨rfl, p2⟩ := hq
  refine V_blk C (pc' := 9) (σ' := s1) (L' := [some (.ref 26)]) (st' := [.int 2147483647, .int 24, .ref 26]) (g_c dX0_costInAll_4 (g_c dX0_costInAll_5 (g_c dX0_costInAll_7 g_n))) rfl rfl ?_
  refine V_gV C cv_X0_77 p2 ⟨_, _, _, _, rfl, rfl⟩ (by rfl) (by decide) (As := [.int 24, .int 2147483647]) (rest := []) rfl rfl (Nat.le_of_ble_eq_true rfl) dX0_costInAll_9 (fun rv s3 hq => ?_)
  obtain ⟨rfl, p4⟩ := hq
  refine V_blk C (pc' := 13) (σ' := s3) (L' := [some (.ref 26)]) (st' := [.ref 26]) (g_c dX0_costInAll_12 g_n) rfl rfl ?_
  refine V_gV C cv_X0_81 p4 ⟨_, _, _, _, rfl, rfl⟩ (by rfl) (by decide) (As := []) (rest := []) rfl rfl (Nat.le_of_ble_eq_true rfl) dX0_costInAll_13 (fun rv s5 hq => ?_)
  obtain ⟨r7, rfl, p6⟩ := hq
  refine V_iret C dX0_costInAll_16 ?_
  exact p6
set_option maxRecDepth 100000 in
def P_X0_cost (h : Nat)  (σ : gS) (Qp : Option Value → gS → Prop) : Prop :=
  (Qp (some (.int ((σ 26 13) + (σ 26 14)))) σ)
set_option maxHeartbeats 4000000 in
set_option maxRecDepth 100000 in
theorem w_X0_cost {h : Nat} (hh : 6 ≤ h)  {σ : gS} {Qp : Option Value → gS → Prop} (P : P_X0_cost h  σ Qp) : g_Met yX0_cost cX0_cost 1 (some .int) h kX [.ref 26] σ Qp := by
  unfold P_X0_cost at P
  refine g_Met.of (own := 0) (L := [some (.ref 26)]) (by decide) rfl rfl (fun ad => Nat.le_of_ble_eq_true rfl) (fun ad => rfl) (fun X G K C => ?_)
  refine V_blk C (pc' := 9) (σ' := σ) (L' := [some (.ref 26)]) (st' := [.int ((σ 26 13) + (σ 26 14))]) (g_c dX0_cost_0 (g_c dX0_cost_1 (g_c dX0_cost_4 (g_c dX0_cost_5 (g_c dX0_cost_8 g_n))))) rfl rfl ?_
  refine V_iret C dX0_cost_9 ?_
  exact P
set_option maxRecDepth 100000 in
def P_X0_setOut (h : Nat)  (σ : gS) (Qp : Option Value → gS → Prop) : Prop :=
  (∃ I2 : Nat → Int32 → gS → Prop, (∃ k7 : Nat, I2 k7 0 σ) ∧ ∀ (k4 : Nat) (v1 : Int32) (s10 : gS), I2 k4 v1 s10 → (((v1 : Int32) < 8 → (∃ j48 : Nat, v1 = nI j48 ∧ j48 < 8 ∧ (∃ k50 : Nat, k50 < k4 ∧ I2 k50 (v1 + 1) (g_up (g_up s10 28 j48 (-1)) 30 j48 0)))) ∧ (¬ (v1 : Int32) < 8 → (∃ I15 : Nat → Int32 → gS → Prop, (∃ k20 : Nat, I15 k20 0 s10) ∧ ∀ (k17 : Nat) (v14 : Int32) (s23 : gS), I15 k17 v14 s23 → (((v14 : Int32) < 5 → (∃ j30 : Nat, v14 = nI j30 ∧ j30 < 5 ∧ (((v14 : Int32) < (s23 1 9) → ((g_in (s23 27 j30) 0 7 → (∃ j42 : Nat, (s23 27 j30) = nI j42 ∧ j42 < 8 ∧ (∃ k44 : Nat, k44 < k17 ∧ I15 k44 (v14 + 1) (g_up (g_up s23 29 j30 (s23 9 j30)) 28 j42 v14)))) ∧ (¬ g_in (s23 27 j30) 0 7 → (∃ k38 : Nat, k38 < k17 ∧ I15 k38 (v14 + 1) (g_up s23 29 j30 (s23 9 j30)))))) ∧ (¬ (v14 : Int32) < (s23 1 9) → (∃ k34 : Nat, k34 < k17 ∧ I15 k34 (v14 + 1) (g_up s23 29 j30 (s23 9 j30))))))) ∧ (¬ (v14 : Int32) < 5 → (Qp none s23)))))))
set_option maxHeartbeats 4000000 in
set_option maxRecDepth 100000 in
theorem w_X0_setOut {h : Nat} (hh : 6 ≤ h)  {σ : gS} {Qp : Option Value → gS → Prop} (P : P_X0_setOut h  σ Qp) : g_Met yX0_setOut cX0_setOut 2 none h kX [.ref 26] σ Qp := by
  unfold P_X0_setOut at P
  refine g_Met.of (own := 0) (L := [some (.ref 26), none]) (by decide) rfl rfl (fun ad => Nat.le_of_ble_eq_true rfl) (fun ad => rfl) (fun X G K C => ?_)
  refine V_blk C (pc' := 2) (σ' := σ) (L' := [some (.ref 26), some (.int 0)]) (st' := []) (g_c dX0_setOut_0 (g_c dX0_setOut_1 g_n)) rfl rfl ?_
  obtain ⟨I2, ⟨k7, hI9⟩, hS6⟩ := P
  have lp8 : ∀ (k4 : Nat) (v1 : Int32) (s10 : gS), I2 k4 v1 s10 → gV X G K 2 Qp s10 [some (.ref 26), some (.int v1)] [] 2 := by
    intro k4
    induction k4 using Nat.strongRecOn with
    | ind k4 ih3 =>
      intro v1 s10 hI5
      have p11 := hS6 k4 v1 s10 hI5
      refine V_blk C (pc' := 5) (σ' := s10) (L' := [some (.ref 26), some (.int v1)]) (st' := [.int 8, .int v1]) (g_c dX0_setOut_2 (g_c dX0_setOut_3 g_n)) rfl rfl ?_
      refine V_icmp_ge2 C (tgt := 28) dX0_setOut_5 (by decide) (fun h12 => ?_) (fun h12 => ?_)
      · skip
        have p13 := p11.2 h12
        refine V_blk C (pc' := 30) (σ' := s10) (L' := [some (.ref 26), some (.int 0)]) (st' := []) (g_c dX0_setOut_28 (g_c dX0_setOut_29 g_n)) rfl rfl ?_
        obtain ⟨I15, ⟨k20, hI22⟩, hS19⟩ := p13
        have lp21 : ∀ (k17 : Nat) (v14 : Int32) (s23 : gS), I15 k17 v14 s23 → gV X G K 2 Qp s23 [some (.ref 26), some (.int v14)] [] 30 := by
          intro k17
          induction k17 using Nat.strongRecOn with
          | ind k17 ih16 =>
            intro v14 s23 hI18
            have p24 := hS19 k17 v14 s23 hI18
            refine V_blk C (pc' := 32) (σ' := s23) (L' := [some (.ref 26), some (.int v14)]) (st' := [.int 5, .int v14]) (g_c dX0_setOut_30 (g_c dX0_setOut_31 g_n)) rfl rfl ?_
            refine V_icmp_ge2 C (tgt := 91) dX0_setOut_32 (by decide) (fun h25 => ?_) (fun h25 => ?_)
            · skip
              have p26 := p24.2 h25
              refine V_vret C dX0_setOut_91 ?_
              exact p26
            · skip
              have p27 := p24.1 h25
              refine V_blk C (pc' := 48) (σ' := s23) (L' := [some (.ref 26), some (.int v14)]) (st' := [.int v14, .ref 9, .int v14, .ref 29]) (g_c dX0_setOut_35 (g_c dX0_setOut_36 (g_c dX0_setOut_39 (g_c dX0_setOut_40 (g_c dX0_setOut_41 (g_c dX0_setOut_44 (g_c dX0_setOut_47 g_n))))))) rfl rfl ?_
              obtain ⟨j30, e31, l29, p28⟩ := p27
              refine V_ialdJ C (j := j30) (k := 9) (n := 5) (by rfl) (by rfl) e31 ⟨(by omega), (by omega)⟩ dX0_setOut_48 ?_
              refine V_iastJ C (j := j30) (k := 29) (n := 5) (by rfl) (by rfl) e31 ⟨(by omega), (by omega)⟩ dX0_setOut_49 ?_
              refine V_blk C (pc' := 58) (σ' := (g_up s23 29 j30 (s23 9 j30))) (L' := [some (.ref 26), some (.int v14)]) (st' := [.int (s23 1 9), .int v14]) (g_c dX0_setOut_50 (g_c dX0_setOut_51 (g_c dX0_setOut_52 (g_c dX0_setOut_55 g_n)))) rfl rfl ?_
              refine V_icmp_ge2 C (tgt := 85) dX0_setOut_58 (by decide) (fun h32 => ?_) (fun h32 => ?_)
              · skip
                have p33 := p28.2 h32
                refine V_blk C (pc' := 88) (σ' := (g_up s23 29 j30 (s23 9 j30))) (L' := [some (.ref 26), some (.int (v14 + 1))]) (st' := []) (g_c dX0_setOut_85 g_n) rfl rfl ?_
                refine V_goto C (tgt := 30) dX0_setOut_88 (by decide) ?_
                obtain ⟨k34, hkk34, hIk34⟩ := p33
                exact ih16 k34 hkk34 (v14 + 1) (g_up s23 29 j30 (s23 9 j30)) hIk34
              · skip
                have p35 := p28.1 h32
                refine V_blk C (pc' := 66) (σ' := (g_up s23 29 j30 (s23 9 j30))) (L' := [some (.ref 26), some (.int v14)]) (st' := [.int v14, .ref 27]) (g_c dX0_setOut_61 (g_c dX0_setOut_62 (g_c dX0_setOut_65 g_n))) rfl rfl ?_
                refine V_ialdJ C (j := j30) (k := 27) (n := 5) (by rfl) (by rfl) e31 ⟨(by omega), (by omega)⟩ dX0_setOut_66 ?_
                refine V_eq rfl rfl (st' := [.int (s23 27 j30)]) (by simp [g_up]) ?_
                refine V_callNI C cn_X0_139 (c_X7_isPlace (g_up s23 29 j30 (s23 9 j30)) (s23 27 j30)) (by omega) (by decide) (fun _ h => h) (As := [.int (s23 27 j30)]) (rest := []) rfl rfl (Nat.le_of_ble_eq_true rfl) dX0_setOut_67 ?_
                refine V_if_eq_b C (tgt := 85) dX0_setOut_70 (by decide) (fun h36 => ?_) (fun h36 => ?_)
                · skip
                  have p37 := p35.2 h36
                  refine V_blk C (pc' := 88) (σ' := (g_up s23 29 j30 (s23 9 j30))) (L' := [some (.ref 26), some (.int (v14 + 1))]) (st' := []) (g_c dX0_setOut_85 g_n) rfl rfl ?_
                  refine V_goto C (tgt := 30) dX0_setOut_88 (by decide) ?_
                  obtain ⟨k38, hkk38, hIk38⟩ := p37
                  exact ih16 k38 hkk38 (v14 + 1) (g_up s23 29 j30 (s23 9 j30)) hIk38
                · skip
                  have p39 := p35.1 h36
                  refine V_blk C (pc' := 82) (σ' := (g_up s23 29 j30 (s23 9 j30))) (L' := [some (.ref 26), some (.int v14)]) (st' := [.int v14, .ref 27, .ref 28]) (g_c dX0_setOut_73 (g_c dX0_setOut_74 (g_c dX0_setOut_77 (g_c dX0_setOut_78 (g_c dX0_setOut_81 g_n))))) rfl rfl ?_
                  refine V_ialdJ C (j := j30) (k := 27) (n := 5) (by rfl) (by rfl) e31 ⟨(by omega), (by omega)⟩ dX0_setOut_82 ?_
                  refine V_eq rfl rfl (st' := [.int (s23 27 j30), .ref 28]) (by simp [g_up]) ?_
                  refine V_blk C (pc' := 84) (σ' := (g_up s23 29 j30 (s23 9 j30))) (L' := [some (.ref 26), some (.int v14)]) (st' := [.int v14, .int (s23 27 j30), .ref 28]) (g_c dX0_setOut_83 g_n) rfl rfl ?_
                  obtain ⟨j42, e43, l41, p40⟩ := p39
                  refine V_iastJ C (j := j42) (k := 28) (n := 8) (by rfl) (by rfl) e43 ⟨(by omega), (by omega)⟩ dX0_setOut_84 ?_
                  refine V_blk C (pc' := 88) (σ' := (g_up (g_up s23 29 j30 (s23 9 j30)) 28 j42 v14)) (L' := [some (.ref 26), some (.int (v14 + 1))]) (st' := []) (g_c dX0_setOut_85 g_n) rfl rfl ?_
                  refine V_goto C (tgt := 30) dX0_setOut_88 (by decide) ?_
                  obtain ⟨k44, hkk44, hIk44⟩ := p40
                  exact ih16 k44 hkk44 (v14 + 1) (g_up (g_up s23 29 j30 (s23 9 j30)) 28 j42 v14) hIk44
        exact lp21 k20 0 s10 hI22
      · skip
        have p45 := p11.1 h12
        refine V_blk C (pc' := 14) (σ' := s10) (L' := [some (.ref 26), some (.int v1)]) (st' := [.int (-1), .int v1, .ref 28]) (g_c dX0_setOut_8 (g_c dX0_setOut_9 (g_c dX0_setOut_12 (g_c dX0_setOut_13 g_n)))) rfl rfl ?_
        obtain ⟨j48, e49, l47, p46⟩ := p45
        refine V_iastJ C (j := j48) (k := 28) (n := 8) (by rfl) (by rfl) e49 ⟨(by omega), (by omega)⟩ dX0_setOut_14 ?_
        refine V_blk C (pc' := 21) (σ' := (g_up s10 28 j48 (-1))) (L' := [some (.ref 26), some (.int v1)]) (st' := [.int 0, .int v1, .ref 30]) (g_c dX0_setOut_15 (g_c dX0_setOut_16 (g_c dX0_setOut_19 (g_c dX0_setOut_20 g_n)))) rfl rfl ?_
        refine V_iastJ C (j := j48) (k := 30) (n := 8) (by rfl) (by rfl) e49 ⟨(by omega), (by omega)⟩ dX0_setOut_21 ?_
        refine V_blk C (pc' := 25) (σ' := (g_up (g_up s10 28 j48 (-1)) 30 j48 0)) (L' := [some (.ref 26), some (.int (v1 + 1))]) (st' := []) (g_c dX0_setOut_22 g_n) rfl rfl ?_
        refine V_goto C (tgt := 2) dX0_setOut_25 (by decide) ?_
        obtain ⟨k50, hkk50, hIk50⟩ := p46
        exact ih3 k50 hkk50 (v1 + 1) (g_up (g_up s10 28 j48 (-1)) 30 j48 0) hIk50
  exact lp8 k7 0 σ hI9
set_option maxRecDepth 100000 in
def P_X0_emptySome (h : Nat)  (σ : gS) (Qp : Option Value → gS → Prop) : Prop :=
  (∃ I2 : Nat → Int32 → gS → Prop, (∃ k7 : Nat, I2 k7 0 σ) ∧ ∀ (k4 : Nat) (v1 : Int32) (s10 : gS), I2 k4 v1 s10 → (((v1 : Int32) < (s10 26 4) → (((v1 : Int32) < 5 → (g_call yX0_nextToEmpty cX0_nextToEmpty 5 (some .int) kX h [.ref 26] s10 (fun rv s18 => ∃ r20 : Int32, rv = some (.int r20) ∧ ((g_in r20 0 4 → (∃ j25 : Nat, r20 = nI j25 ∧ j25 < 5 ∧ (∃ k27 : Nat, k27 < k4 ∧ I2 k27 (v1 + 1) (g_up s18 29 j25 0)))) ∧ (¬ g_in r20 0 4 → (Qp none s18)))))) ∧ (¬ (v1 : Int32) < 5 → (Qp none s10)))) ∧ (¬ (v1 : Int32) < (s10 26 4) → (Qp none s10))))
set_option maxHeartbeats 4000000 in
set_option maxRecDepth 100000 in
theorem w_X0_emptySome {h : Nat} (hh : 6 ≤ h)  {σ : gS} {Qp : Option Value → gS → Prop} (P : P_X0_emptySome h  σ Qp) : g_Met yX0_emptySome cX0_emptySome 3 none h kX [.ref 26] σ Qp := by
  unfold P_X0_emptySome at P
  refine g_Met.of (own := 0) (L := [some (.ref 26), none, none]) (by decide) rfl rfl (fun ad => Nat.le_of_ble_eq_true rfl) (fun ad => rfl) (fun X G K C => ?_)
  refine V_blk C (pc' := 2) (σ' := σ) (L' := [some (.ref 26), some (.int 0), none]) (st' := []) (g_c dX0_emptySome_0 (g_c dX0_emptySome_1 g_n)) rfl rfl ?_
  obtain ⟨I2, ⟨k7, hI9⟩, hS6⟩ := P
  have lp8 : ∀ (k4 : Nat) (v1 : Int32) (s10 : gS), I2 k4 v1 s10 → gV X G K 3 Qp s10 [some (.ref 26), some (.int v1), none] [] 2 := by
    intro k4
    induction k4 using Nat.strongRecOn with
    | ind k4 ih3 =>
      intro v1 s10 hI5
      have p11 := hS6 k4 v1 s10 hI5
      refine V_blk C (pc' := 7) (σ' := s10) (L' := [some (.ref 26), some (.int v1), none]) (st' := [.int (s10 26 4), .int v1]) (g_c dX0_emptySome_2 (g_c dX0_emptySome_3 (g_c dX0_emptySome_4 g_n))) rfl rfl ?_
      refine V_icmp_ge2 C (tgt := 43) dX0_emptySome_7 (by decide) (fun h12 => ?_) (fun h12 => ?_)
      · skip
        have p13 := p11.2 h12
        refine V_vret C dX0_emptySome_43 ?_
        exact p13
      · skip
        have p14 := p11.1 h12
        refine V_blk C (pc' := 12) (σ' := s10) (L' := [some (.ref 26), some (.int v1), none]) (st' := [.int 5, .int v1]) (g_c dX0_emptySome_10 (g_c dX0_emptySome_11 g_n)) rfl rfl ?_
        refine V_icmp_ge2 C (tgt := 43) dX0_emptySome_12 (by decide) (fun h15 => ?_) (fun h15 => ?_)
        · skip
          have p16 := p14.2 h15
          refine V_vret C dX0_emptySome_43 ?_
          exact p16
        · skip
          have p17 := p14.1 h15
          refine V_blk C (pc' := 16) (σ' := s10) (L' := [some (.ref 26), some (.int v1), none]) (st' := [.ref 26]) (g_c dX0_emptySome_15 g_n) rfl rfl ?_
          refine V_gV C cv_X0_143 p17 ⟨_, _, _, _, rfl, rfl⟩ (by rfl) (by decide) (As := []) (rest := []) rfl rfl (Nat.le_of_ble_eq_true rfl) dX0_emptySome_16 (fun rv s18 hq => ?_)
          obtain ⟨r20, rfl, p19⟩ := hq
          refine V_blk C (pc' := 23) (σ' := s18) (L' := [some (.ref 26), some (.int v1), some (.int r20)]) (st' := [.int 4, .int 0, .int r20]) (g_c dX0_emptySome_19 (g_c dX0_emptySome_20 (g_c dX0_emptySome_21 (g_c dX0_emptySome_22 g_n)))) rfl rfl ?_
          refine V_callNI C cn_X0_146 (c_X7_isIn s18 r20 0 4) (by omega) (by decide) (fun _ h => h) (As := [.int r20, .int 0, .int 4]) (rest := []) rfl rfl (Nat.le_of_ble_eq_true rfl) dX0_emptySome_23 ?_
          refine V_if_ne_b C (tgt := 30) dX0_emptySome_26 (by decide) (fun h21 => ?_) (fun h21 => ?_)
          · skip
            have p22 := p19.1 h21
            refine V_blk C (pc' := 36) (σ' := s18) (L' := [some (.ref 26), some (.int v1), some (.int r20)]) (st' := [.int 0, .int r20, .ref 29]) (g_c dX0_emptySome_30 (g_c dX0_emptySome_31 (g_c dX0_emptySome_34 (g_c dX0_emptySome_35 g_n)))) rfl rfl ?_
            obtain ⟨j25, e26, l24, p23⟩ := p22
            refine V_iastJ C (j := j25) (k := 29) (n := 5) (by rfl) (by rfl) e26 ⟨(by omega), (by omega)⟩ dX0_emptySome_36 ?_
            refine V_blk C (pc' := 40) (σ' := (g_up s18 29 j25 0)) (L' := [some (.ref 26), some (.int (v1 + 1)), some (.int r20)]) (st' := []) (g_c dX0_emptySome_37 g_n) rfl rfl ?_
            refine V_goto C (tgt := 2) dX0_emptySome_40 (by decide) ?_
            refine V_less (L' := [some (.ref 26), some (.int (v1 + 1)), none]) (by simp [g_subL]) ?_
            obtain ⟨k27, hkk27, hIk27⟩ := p23
            exact ih3 k27 hkk27 (v1 + 1) (g_up s18 29 j25 0) hIk27
          · skip
            have p28 := p19.2 h21
            refine V_vret C dX0_emptySome_29 ?_
            exact p28
  exact lp8 k7 0 σ hI9
set_option maxRecDepth 100000 in
def P_X0_nextToEmpty (h : Nat)  (σ : gS) (Qp : Option Value → gS → Prop) : Prop :=
  (∃ I4 : Nat → Int32 → Int32 → Int32 → Prop, (∃ k9 : Nat, I4 k9 (-1) 0 0) ∧ ∀ (k6 : Nat) (v1 : Int32) (v2 : Int32) (v3 : Int32), I4 k6 v1 v2 v3 → (((v3 : Int32) < (σ 1 9) → (((v3 : Int32) < 5 → (∃ j22 : Nat, v3 = nI j22 ∧ j22 < 5 ∧ ((((σ 27 j22) : Int32) = (-1) → (∃ k26 : Nat, k26 < k6 ∧ I4 k26 v1 v2 (v3 + 1))) ∧ (¬ ((σ 27 j22) : Int32) = (-1) → (((0 : Int32) < (σ 29 j22) → (((v1 : Int32) = (-1) → (∃ k35 : Nat, k35 < k6 ∧ I4 k35 v3 (if ((σ 26 5) : Int32) = 0 then (σ 29 j22) else ((σ 29 j22) - (σ 7 j22))) (v3 + 1))) ∧ (¬ (v1 : Int32) = (-1) → (((v2 : Int32) < (if ((σ 26 5) : Int32) = 0 then (σ 29 j22) else ((σ 29 j22) - (σ 7 j22))) → (∃ k41 : Nat, k41 < k6 ∧ I4 k41 v3 (if ((σ 26 5) : Int32) = 0 then (σ 29 j22) else ((σ 29 j22) - (σ 7 j22))) (v3 + 1))) ∧ (¬ (v2 : Int32) < (if ((σ 26 5) : Int32) = 0 then (σ 29 j22) else ((σ 29 j22) - (σ 7 j22))) → (∃ k39 : Nat, k39 < k6 ∧ I4 k39 v1 v2 (v3 + 1))))))) ∧ (¬ (0 : Int32) < (σ 29 j22) → (∃ k30 : Nat, k30 < k6 ∧ I4 k30 v1 v2 (v3 + 1)))))))) ∧ (¬ (v3 : Int32) < 5 → (Qp (some (.int v1)) σ)))) ∧ (¬ (v3 : Int32) < (σ 1 9) → (Qp (some (.int v1)) σ))))
set_option maxHeartbeats 4000000 in
set_option maxRecDepth 100000 in
theorem w_X0_nextToEmpty {h : Nat} (hh : 6 ≤ h)  {σ : gS} {Qp : Option Value → gS → Prop} (P : P_X0_nextToEmpty h  σ Qp) : g_Met yX0_nextToEmpty cX0_nextToEmpty 5 (some .int) h kX [.ref 26] σ Qp := by
  unfold P_X0_nextToEmpty at P
  refine g_Met.of (own := 0) (L := [some (.ref 26), none, none, none, none]) (by decide) rfl rfl (fun ad => Nat.le_of_ble_eq_true rfl) (fun ad => rfl) (fun X G K C => ?_)
  refine V_blk C (pc' := 6) (σ' := σ) (L' := [some (.ref 26), some (.int (-1)), some (.int 0), some (.int 0), none]) (st' := []) (g_c dX0_nextToEmpty_0 (g_c dX0_nextToEmpty_1 (g_c dX0_nextToEmpty_2 (g_c dX0_nextToEmpty_3 (g_c dX0_nextToEmpty_4 (g_c dX0_nextToEmpty_5 g_n)))))) rfl rfl ?_
  obtain ⟨I4, ⟨k9, hI11⟩, hS8⟩ := P
  have lp10 : ∀ (k6 : Nat) (v1 : Int32) (v2 : Int32) (v3 : Int32), I4 k6 v1 v2 v3 → gV X G K 5 Qp σ [some (.ref 26), some (.int v1), some (.int v2), some (.int v3), none] [] 6 := by
    intro k6
    induction k6 using Nat.strongRecOn with
    | ind k6 ih5 =>
      intro v1 v2 v3 hI7
      have p13 := hS8 k6 v1 v2 v3 hI7
      refine V_blk C (pc' := 14) (σ' := σ) (L' := [some (.ref 26), some (.int v1), some (.int v2), some (.int v3), none]) (st' := [.int (σ 1 9), .int v3]) (g_c dX0_nextToEmpty_6 (g_c dX0_nextToEmpty_7 (g_c dX0_nextToEmpty_8 (g_c dX0_nextToEmpty_11 g_n)))) rfl rfl ?_
      refine V_icmp_ge2 C (tgt := 97) dX0_nextToEmpty_14 (by decide) (fun h14 => ?_) (fun h14 => ?_)
      · skip
        have p15 := p13.2 h14
        refine V_blk C (pc' := 98) (σ' := σ) (L' := [some (.ref 26), some (.int v1), some (.int v2), some (.int v3), none]) (st' := [.int v1]) (g_c dX0_nextToEmpty_97 g_n) rfl rfl ?_
        refine V_iret C dX0_nextToEmpty_98 ?_
        exact p15
      · skip
        have p16 := p13.1 h14
        refine V_blk C (pc' := 19) (σ' := σ) (L' := [some (.ref 26), some (.int v1), some (.int v2), some (.int v3), none]) (st' := [.int 5, .int v3]) (g_c dX0_nextToEmpty_17 (g_c dX0_nextToEmpty_18 g_n)) rfl rfl ?_
        refine V_icmp_ge2 C (tgt := 97) dX0_nextToEmpty_19 (by decide) (fun h17 => ?_) (fun h17 => ?_)
        · skip
          have p18 := p16.2 h17
          refine V_blk C (pc' := 98) (σ' := σ) (L' := [some (.ref 26), some (.int v1), some (.int v2), some (.int v3), none]) (st' := [.int v1]) (g_c dX0_nextToEmpty_97 g_n) rfl rfl ?_
          refine V_iret C dX0_nextToEmpty_98 ?_
          exact p18
        · skip
          have p19 := p16.1 h17
          refine V_blk C (pc' := 27) (σ' := σ) (L' := [some (.ref 26), some (.int v1), some (.int v2), some (.int v3), none]) (st' := [.int v3, .ref 27]) (g_c dX0_nextToEmpty_22 (g_c dX0_nextToEmpty_23 (g_c dX0_nextToEmpty_26 g_n))) rfl rfl ?_
          obtain ⟨j22, e23, l21, p20⟩ := p19
          refine V_ialdJ C (j := j22) (k := 27) (n := 5) (by rfl) (by rfl) e23 ⟨(by omega), (by omega)⟩ dX0_nextToEmpty_27 ?_
          refine V_blk C (pc' := 29) (σ' := σ) (L' := [some (.ref 26), some (.int v1), some (.int v2), some (.int v3), none]) (st' := [.int (-1), .int (σ 27 j22)]) (g_c dX0_nextToEmpty_28 g_n) rfl rfl ?_
          refine V_icmp_eq C (tgt := 91) dX0_nextToEmpty_29 (by decide) (fun h24 => ?_) (fun h24 => ?_)
          · skip
            have p25 := p20.1 h24
            refine V_blk C (pc' := 94) (σ' := σ) (L' := [some (.ref 26), some (.int v1), some (.int v2), some (.int (v3 + 1)), none]) (st' := []) (g_c dX0_nextToEmpty_91 g_n) rfl rfl ?_
            refine V_goto C (tgt := 6) dX0_nextToEmpty_94 (by decide) ?_
            obtain ⟨k26, hkk26, hIk26⟩ := p25
            exact ih5 k26 hkk26 v1 v2 (v3 + 1) hIk26
          · skip
            have p27 := p20.2 h24
            refine V_blk C (pc' := 37) (σ' := σ) (L' := [some (.ref 26), some (.int v1), some (.int v2), some (.int v3), none]) (st' := [.int v3, .ref 29]) (g_c dX0_nextToEmpty_32 (g_c dX0_nextToEmpty_33 (g_c dX0_nextToEmpty_36 g_n))) rfl rfl ?_
            refine V_ialdJ C (j := j22) (k := 29) (n := 5) (by rfl) (by rfl) e23 ⟨(by omega), (by omega)⟩ dX0_nextToEmpty_37 ?_
            refine V_if_le2 C (tgt := 91) dX0_nextToEmpty_38 (by decide) (fun h28 => ?_) (fun h28 => ?_)
            · skip
              have p29 := p27.2 h28
              refine V_blk C (pc' := 94) (σ' := σ) (L' := [some (.ref 26), some (.int v1), some (.int v2), some (.int (v3 + 1)), none]) (st' := []) (g_c dX0_nextToEmpty_91 g_n) rfl rfl ?_
              refine V_goto C (tgt := 6) dX0_nextToEmpty_94 (by decide) ?_
              obtain ⟨k30, hkk30, hIk30⟩ := p29
              exact ih5 k30 hkk30 v1 v2 (v3 + 1) hIk30
            · skip
              have p31 := p27.1 h28
              refine V_blk C (pc' := 45) (σ' := σ) (L' := [some (.ref 26), some (.int v1), some (.int v2), some (.int v3), none]) (st' := [.int (σ 26 5)]) (g_c dX0_nextToEmpty_41 (g_c dX0_nextToEmpty_42 g_n)) rfl rfl ?_
              refine V_join (P := ((σ 26 5) : Int32) = 0) (a := (σ 29 j22)) (b := ((σ 29 j22) - (σ 7 j22))) (pcJ := 73) (rest := []) (fun x_ hx_ => ?_) (fun kT kF => ?_)
              · skip
                subst hx_
                refine V_blk C (pc' := 77) (σ' := σ) (L' := [some (.ref 26), some (.int v1), some (.int v2), some (.int v3), some (.int (if ((σ 26 5) : Int32) = 0 then (σ 29 j22) else ((σ 29 j22) - (σ 7 j22))))]) (st' := [.int (-1), .int v1]) (g_c dX0_nextToEmpty_73 (g_c dX0_nextToEmpty_75 (g_c dX0_nextToEmpty_76 g_n))) rfl rfl ?_
                refine V_icmp_eq C (tgt := 86) dX0_nextToEmpty_77 (by decide) (fun h33 => ?_) (fun h33 => ?_)
                · skip
                  have p34 := p31.1 h33
                  refine V_blk C (pc' := 94) (σ' := σ) (L' := [some (.ref 26), some (.int v3), some (.int (if ((σ 26 5) : Int32) = 0 then (σ 29 j22) else ((σ 29 j22) - (σ 7 j22)))), some (.int (v3 + 1)), some (.int (if ((σ 26 5) : Int32) = 0 then (σ 29 j22) else ((σ 29 j22) - (σ 7 j22))))]) (st' := []) (g_c dX0_nextToEmpty_86 (g_c dX0_nextToEmpty_87 (g_c dX0_nextToEmpty_88 (g_c dX0_nextToEmpty_90 (g_c dX0_nextToEmpty_91 g_n))))) rfl rfl ?_
                  refine V_goto C (tgt := 6) dX0_nextToEmpty_94 (by decide) ?_
                  refine V_less (L' := [some (.ref 26), some (.int v3), some (.int (if ((σ 26 5) : Int32) = 0 then (σ 29 j22) else ((σ 29 j22) - (σ 7 j22)))), some (.int (v3 + 1)), none]) (by simp [g_subL]) ?_
                  obtain ⟨k35, hkk35, hIk35⟩ := p34
                  exact ih5 k35 hkk35 v3 (if ((σ 26 5) : Int32) = 0 then (σ 29 j22) else ((σ 29 j22) - (σ 7 j22))) (v3 + 1) hIk35
                · skip
                  have p36 := p31.2 h33
                  refine V_blk C (pc' := 83) (σ' := σ) (L' := [some (.ref 26), some (.int v1), some (.int v2), some (.int v3), some (.int (if ((σ 26 5) : Int32) = 0 then (σ 29 j22) else ((σ 29 j22) - (σ 7 j22))))]) (st' := [.int v2, .int (if ((σ 26 5) : Int32) = 0 then (σ 29 j22) else ((σ 29 j22) - (σ 7 j22)))]) (g_c dX0_nextToEmpty_80 (g_c dX0_nextToEmpty_82 g_n)) rfl rfl ?_
                  refine V_icmp_le2 C (tgt := 91) dX0_nextToEmpty_83 (by decide) (fun h37 => ?_) (fun h37 => ?_)
                  · skip
                    have p38 := p36.2 h37
                    refine V_blk C (pc' := 94) (σ' := σ) (L' := [some (.ref 26), some (.int v1), some (.int v2), some (.int (v3 + 1)), some (.int (if ((σ 26 5) : Int32) = 0 then (σ 29 j22) else ((σ 29 j22) - (σ 7 j22))))]) (st' := []) (g_c dX0_nextToEmpty_91 g_n) rfl rfl ?_
                    refine V_goto C (tgt := 6) dX0_nextToEmpty_94 (by decide) ?_
                    refine V_less (L' := [some (.ref 26), some (.int v1), some (.int v2), some (.int (v3 + 1)), none]) (by simp [g_subL]) ?_
                    obtain ⟨k39, hkk39, hIk39⟩ := p38
                    exact ih5 k39 hkk39 v1 v2 (v3 + 1) hIk39
                  · skip
                    have p40 := p36.1 h37
                    refine V_blk C (pc' := 94) (σ' := σ) (L' := [some (.ref 26), some (.int v3), some (.int (if ((σ 26 5) : Int32) = 0 then (σ 29 j22) else ((σ 29 j22) - (σ 7 j22)))), some (.int (v3 + 1)), some (.int (if ((σ 26 5) : Int32) = 0 then (σ 29 j22) else ((σ 29 j22) - (σ 7 j22))))]) (st' := []) (g_c dX0_nextToEmpty_86 (g_c dX0_nextToEmpty_87 (g_c dX0_nextToEmpty_88 (g_c dX0_nextToEmpty_90 (g_c dX0_nextToEmpty_91 g_n))))) rfl rfl ?_
                    refine V_goto C (tgt := 6) dX0_nextToEmpty_94 (by decide) ?_
                    refine V_less (L' := [some (.ref 26), some (.int v3), some (.int (if ((σ 26 5) : Int32) = 0 then (σ 29 j22) else ((σ 29 j22) - (σ 7 j22)))), some (.int (v3 + 1)), none]) (by simp [g_subL]) ?_
                    obtain ⟨k41, hkk41, hIk41⟩ := p40
                    exact ih5 k41 hkk41 v3 (if ((σ 26 5) : Int32) = 0 then (σ 29 j22) else ((σ 29 j22) - (σ 7 j22))) (v3 + 1) hIk41
              · refine V_if_ne C (tgt := 57) dX0_nextToEmpty_45 (by decide) (fun h32 => ?_) (fun h32 => ?_)
                · skip
                  refine V_blk C (pc' := 62) (σ' := σ) (L' := [some (.ref 26), some (.int v1), some (.int v2), some (.int v3), none]) (st' := [.int v3, .ref 29]) (g_c dX0_nextToEmpty_57 (g_c dX0_nextToEmpty_58 (g_c dX0_nextToEmpty_61 g_n))) rfl rfl ?_
                  refine V_ialdJ C (j := j22) (k := 29) (n := 5) (by rfl) (by rfl) e23 ⟨(by omega), (by omega)⟩ dX0_nextToEmpty_62 ?_
                  refine V_blk C (pc' := 71) (σ' := σ) (L' := [some (.ref 26), some (.int v1), some (.int v2), some (.int v3), none]) (st' := [.int v3, .ref 7, .int (σ 29 j22)]) (g_c dX0_nextToEmpty_63 (g_c dX0_nextToEmpty_64 (g_c dX0_nextToEmpty_67 (g_c dX0_nextToEmpty_70 g_n)))) rfl rfl ?_
                  refine V_ialdJ C (j := j22) (k := 7) (n := 5) (by rfl) (by rfl) e23 ⟨(by omega), (by omega)⟩ dX0_nextToEmpty_71 ?_
                  refine V_blk C (pc' := 73) (σ' := σ) (L' := [some (.ref 26), some (.int v1), some (.int v2), some (.int v3), none]) (st' := [.int ((σ 29 j22) - (σ 7 j22))]) (g_c dX0_nextToEmpty_72 g_n) rfl rfl ?_
                  exact kF h32
                · skip
                  refine V_blk C (pc' := 53) (σ' := σ) (L' := [some (.ref 26), some (.int v1), some (.int v2), some (.int v3), none]) (st' := [.int v3, .ref 29]) (g_c dX0_nextToEmpty_48 (g_c dX0_nextToEmpty_49 (g_c dX0_nextToEmpty_52 g_n))) rfl rfl ?_
                  refine V_ialdJ C (j := j22) (k := 29) (n := 5) (by rfl) (by rfl) e23 ⟨(by omega), (by omega)⟩ dX0_nextToEmpty_53 ?_
                  refine V_goto C (tgt := 73) dX0_nextToEmpty_54 (by decide) ?_
                  exact kT h32
  exact lp10 k9 (-1) 0 0 hI11
set_option maxRecDepth 100000 in
def P_X0_better (h : Nat) (best : Int64) (ch : Int32) (σ : gS) (Qp : Option Value → gS → Prop) : Prop :=
  (g_call yX0_run cX0_run 4 none kX h [.ref 26, .int 24, .int (Int64.toInt32 (best >>> (Int32.toInt64 32 &&& 63)))] σ (fun rv s1 => rv = none ∧ (g_call yX0_cost cX0_cost 1 (some .int) kX h [.ref 26] s1 (fun rv s3 => ∃ r5 : Int32, rv = some (.int r5) ∧ (((r5 : Int32) < (Int64.toInt32 (best >>> (Int32.toInt64 32 &&& 63))) → (g_call yX0_cost cX0_cost 1 (some .int) kX h [.ref 26] s3 (fun rv s9 => ∃ r11 : Int32, rv = some (.int r11) ∧ (Qp (some (.long (((Int32.toInt64 r11) <<< (Int32.toInt64 32 &&& 63)) ||| ((Int32.toInt64 ch) &&& 4294967295)))) s9)))) ∧ (¬ (r5 : Int32) < (Int64.toInt32 (best >>> (Int32.toInt64 32 &&& 63))) → (Qp (some (.long best)) s3)))))))
set_option maxHeartbeats 4000000 in
set_option maxRecDepth 100000 in
theorem w_X0_better {h : Nat} (hh : 6 ≤ h) {best : Int64} {ch : Int32} {σ : gS} {Qp : Option Value → gS → Prop} (P : P_X0_better h best ch σ Qp) : g_Met yX0_better cX0_better 4 (some .long) h kX [.ref 26, .long best, .int ch] σ Qp := by
  unfold P_X0_better at P
  refine g_Met.of (own := 0) (L := [some (.ref 26), some (.long best), none, some (.int ch)]) (by decide) rfl rfl (fun ad => Nat.le_of_ble_eq_true rfl) (fun ad => rfl) (fun X G K C => ?_)
  refine V_blk C (pc' := 4) (σ' := σ) (L' := [some (.ref 26), some (.long best), none, some (.int ch)]) (st' := [.long best, .int 24, .ref 26]) (g_c dX0_better_0 (g_c dX0_better_1 (g_c dX0_better_3 g_n))) rfl rfl ?_
  refine V_callNI C cn_X0_91 (c_X7_costOf σ best) (by omega) (by decide) (fun _ h => h) (As := [.long best]) (rest := [.int 24, .ref 26]) rfl rfl (Nat.le_of_ble_eq_true rfl) dX0_better_4 ?_
  refine V_gV C cv_X0_77 P ⟨_, _, _, _, rfl, rfl⟩ (by rfl) (by decide) (As := [.int 24, .int (Int64.toInt32 (best >>> (Int32.toInt64 32 &&& 63)))]) (rest := []) rfl rfl (Nat.le_of_ble_eq_true rfl) dX0_better_7 (fun rv s1 hq => ?_)
  obtain ⟨rfl, p2⟩ := hq
  refine V_blk C (pc' := 11) (σ' := s1) (L' := [some (.ref 26), some (.long best), none, some (.int ch)]) (st' := [.ref 26]) (g_c dX0_better_10 g_n) rfl rfl ?_
  refine V_gV C cv_X0_81 p2 ⟨_, _, _, _, rfl, rfl⟩ (by rfl) (by decide) (As := []) (rest := []) rfl rfl (Nat.le_of_ble_eq_true rfl) dX0_better_11 (fun rv s3 hq => ?_)
  obtain ⟨r5, rfl, p4⟩ := hq
  refine V_blk C (pc' := 15) (σ' := s3) (L' := [some (.ref 26), some (.long best), none, some (.int ch)]) (st' := [.long best, .int r5]) (g_c dX0_better_14 g_n) rfl rfl ?_
  refine V_callNI C cn_X0_91 (c_X7_costOf s3 best) (by omega) (by decide) (fun _ h => h) (As := [.long best]) (rest := [.int r5]) rfl rfl (Nat.le_of_ble_eq_true rfl) dX0_better_15 ?_
  refine V_icmp_ge2 C (tgt := 39) dX0_better_18 (by decide) (fun h6 => ?_) (fun h6 => ?_)
  · skip
    have p7 := p4.2 h6
    refine V_blk C (pc' := 40) (σ' := s3) (L' := [some (.ref 26), some (.long best), none, some (.int ch)]) (st' := [.long best]) (g_c dX0_better_39 g_n) rfl rfl ?_
    refine V_lret C dX0_better_40 ?_
    exact p7
  · skip
    have p8 := p4.1 h6
    refine V_blk C (pc' := 22) (σ' := s3) (L' := [some (.ref 26), some (.long best), none, some (.int ch)]) (st' := [.ref 26]) (g_c dX0_better_21 g_n) rfl rfl ?_
    refine V_gV C cv_X0_81 p8 ⟨_, _, _, _, rfl, rfl⟩ (by rfl) (by decide) (As := []) (rest := []) rfl rfl (Nat.le_of_ble_eq_true rfl) dX0_better_22 (fun rv s9 hq => ?_)
    obtain ⟨r11, rfl, p10⟩ := hq
    refine V_blk C (pc' := 36) (σ' := s9) (L' := [some (.ref 26), some (.long best), none, some (.int ch)]) (st' := [.long (((Int32.toInt64 r11) <<< (Int32.toInt64 32 &&& 63)) ||| ((Int32.toInt64 ch) &&& 4294967295))]) (g_c dX0_better_25 (g_c dX0_better_26 (g_c dX0_better_28 (g_c dX0_better_29 (g_c dX0_better_30 (g_c dX0_better_31 (g_c dX0_better_34 (g_c dX0_better_35 g_n)))))))) rfl rfl ?_
    refine V_goto C (tgt := 40) dX0_better_36 (by decide) ?_
    refine V_lret C dX0_better_40 ?_
    exact p10
set_option maxRecDepth 100000 in
def P_X0_isStoodBy (h : Nat) (way : Int32) (σ : gS) (Qp : Option Value → gS → Prop) : Prop :=
  (∃ I3 : Nat → Int32 → Int32 → gS → Prop, (∃ k8 : Nat, I3 k8 0 0 σ) ∧ ∀ (k5 : Nat) (v1 : Int32) (v2 : Int32) (s11 : gS), I3 k5 v1 v2 s11 → (((v2 : Int32) < (s11 1 9) → (((v2 : Int32) < 5 → (g_call yX0_placeBy cX0_placeBy 3 (some .int) kX h [.ref 26, .int way, .int v2] s11 (fun rv s19 => ∃ r21 : Int32, rv = some (.int r21) ∧ (((((v1 >>> (r21 &&& 31)) &&& 1) : Int32) = 0 → (∃ j26 : Nat, v2 = nI j26 ∧ j26 < 5 ∧ (∃ k28 : Nat, k28 < k5 ∧ I3 k28 (v1 ||| ((1 : Int32) <<< (r21 &&& 31))) (v2 + 1) (g_up s19 27 j26 r21)))) ∧ (¬ (((v1 >>> (r21 &&& 31)) &&& 1) : Int32) = 0 → (Qp (some (.int 0)) s19)))))) ∧ (¬ (v2 : Int32) < 5 → (Qp (some (.int 1)) s11)))) ∧ (¬ (v2 : Int32) < (s11 1 9) → (Qp (some (.int 1)) s11))))
set_option maxHeartbeats 4000000 in
set_option maxRecDepth 100000 in
theorem w_X0_isStoodBy {h : Nat} (hh : 6 ≤ h) {way : Int32} {σ : gS} {Qp : Option Value → gS → Prop} (P : P_X0_isStoodBy h way σ Qp) : g_Met yX0_isStoodBy cX0_isStoodBy 5 (some .boolean) h kX [.ref 26, .int way] σ Qp := by
  unfold P_X0_isStoodBy at P
  refine g_Met.of (own := 0) (L := [some (.ref 26), some (.int way), none, none, none]) (by decide) rfl rfl (fun ad => Nat.le_of_ble_eq_true rfl) (fun ad => rfl) (fun X G K C => ?_)
  refine V_blk C (pc' := 4) (σ' := σ) (L' := [some (.ref 26), some (.int way), some (.int 0), some (.int 0), none]) (st' := []) (g_c dX0_isStoodBy_0 (g_c dX0_isStoodBy_1 (g_c dX0_isStoodBy_2 (g_c dX0_isStoodBy_3 g_n)))) rfl rfl ?_
  obtain ⟨I3, ⟨k8, hI10⟩, hS7⟩ := P
  have lp9 : ∀ (k5 : Nat) (v1 : Int32) (v2 : Int32) (s11 : gS), I3 k5 v1 v2 s11 → gV X G K 5 Qp s11 [some (.ref 26), some (.int way), some (.int v1), some (.int v2), none] [] 4 := by
    intro k5
    induction k5 using Nat.strongRecOn with
    | ind k5 ih4 =>
      intro v1 v2 s11 hI6
      have p12 := hS7 k5 v1 v2 s11 hI6
      refine V_blk C (pc' := 12) (σ' := s11) (L' := [some (.ref 26), some (.int way), some (.int v1), some (.int v2), none]) (st' := [.int (s11 1 9), .int v2]) (g_c dX0_isStoodBy_4 (g_c dX0_isStoodBy_5 (g_c dX0_isStoodBy_6 (g_c dX0_isStoodBy_9 g_n)))) rfl rfl ?_
      refine V_icmp_ge2 C (tgt := 60) dX0_isStoodBy_12 (by decide) (fun h13 => ?_) (fun h13 => ?_)
      · skip
        have p14 := p12.2 h13
        refine V_blk C (pc' := 61) (σ' := s11) (L' := [some (.ref 26), some (.int way), some (.int v1), some (.int v2), none]) (st' := [.int 1]) (g_c dX0_isStoodBy_60 g_n) rfl rfl ?_
        refine V_zret C (by decide) dX0_isStoodBy_61 ?_
        exact p14
      · skip
        have p15 := p12.1 h13
        refine V_blk C (pc' := 17) (σ' := s11) (L' := [some (.ref 26), some (.int way), some (.int v1), some (.int v2), none]) (st' := [.int 5, .int v2]) (g_c dX0_isStoodBy_15 (g_c dX0_isStoodBy_16 g_n)) rfl rfl ?_
        refine V_icmp_ge2 C (tgt := 60) dX0_isStoodBy_17 (by decide) (fun h16 => ?_) (fun h16 => ?_)
        · skip
          have p17 := p15.2 h16
          refine V_blk C (pc' := 61) (σ' := s11) (L' := [some (.ref 26), some (.int way), some (.int v1), some (.int v2), none]) (st' := [.int 1]) (g_c dX0_isStoodBy_60 g_n) rfl rfl ?_
          refine V_zret C (by decide) dX0_isStoodBy_61 ?_
          exact p17
        · skip
          have p18 := p15.1 h16
          refine V_blk C (pc' := 23) (σ' := s11) (L' := [some (.ref 26), some (.int way), some (.int v1), some (.int v2), none]) (st' := [.int v2, .int way, .ref 26]) (g_c dX0_isStoodBy_20 (g_c dX0_isStoodBy_21 (g_c dX0_isStoodBy_22 g_n))) rfl rfl ?_
          refine V_gV C cv_X0_100 p18 ⟨_, _, _, _, rfl, rfl⟩ (by rfl) (by decide) (As := [.int way, .int v2]) (rest := []) rfl rfl (Nat.le_of_ble_eq_true rfl) dX0_isStoodBy_23 (fun rv s19 hq => ?_)
          obtain ⟨r21, rfl, p20⟩ := hq
          refine V_blk C (pc' := 34) (σ' := s19) (L' := [some (.ref 26), some (.int way), some (.int v1), some (.int v2), some (.int r21)]) (st' := [.int ((v1 >>> (r21 &&& 31)) &&& 1)]) (g_c dX0_isStoodBy_26 (g_c dX0_isStoodBy_28 (g_c dX0_isStoodBy_29 (g_c dX0_isStoodBy_31 (g_c dX0_isStoodBy_32 (g_c dX0_isStoodBy_33 g_n)))))) rfl rfl ?_
          refine V_if_eq C (tgt := 39) dX0_isStoodBy_34 (by decide) (fun h22 => ?_) (fun h22 => ?_)
          · skip
            have p23 := p20.1 h22
            refine V_blk C (pc' := 53) (σ' := s19) (L' := [some (.ref 26), some (.int way), some (.int (v1 ||| ((1 : Int32) <<< (r21 &&& 31)))), some (.int v2), some (.int r21)]) (st' := [.int r21, .int v2, .ref 27]) (g_c dX0_isStoodBy_39 (g_c dX0_isStoodBy_40 (g_c dX0_isStoodBy_41 (g_c dX0_isStoodBy_43 (g_c dX0_isStoodBy_44 (g_c dX0_isStoodBy_45 (g_c dX0_isStoodBy_46 (g_c dX0_isStoodBy_47 (g_c dX0_isStoodBy_50 (g_c dX0_isStoodBy_51 g_n)))))))))) rfl rfl ?_
            obtain ⟨j26, e27, l25, p24⟩ := p23
            refine V_iastJ C (j := j26) (k := 27) (n := 5) (by rfl) (by rfl) e27 ⟨(by omega), (by omega)⟩ dX0_isStoodBy_53 ?_
            refine V_blk C (pc' := 57) (σ' := (g_up s19 27 j26 r21)) (L' := [some (.ref 26), some (.int way), some (.int (v1 ||| ((1 : Int32) <<< (r21 &&& 31)))), some (.int (v2 + 1)), some (.int r21)]) (st' := []) (g_c dX0_isStoodBy_54 g_n) rfl rfl ?_
            refine V_goto C (tgt := 4) dX0_isStoodBy_57 (by decide) ?_
            refine V_less (L' := [some (.ref 26), some (.int way), some (.int (v1 ||| ((1 : Int32) <<< (r21 &&& 31)))), some (.int (v2 + 1)), none]) (by simp [g_subL]) ?_
            obtain ⟨k28, hkk28, hIk28⟩ := p24
            exact ih4 k28 hkk28 (v1 ||| ((1 : Int32) <<< (r21 &&& 31))) (v2 + 1) (g_up s19 27 j26 r21) hIk28
          · skip
            have p29 := p20.2 h22
            refine V_blk C (pc' := 38) (σ' := s19) (L' := [some (.ref 26), some (.int way), some (.int v1), some (.int v2), some (.int r21)]) (st' := [.int 0]) (g_c dX0_isStoodBy_37 g_n) rfl rfl ?_
            refine V_zret C (by decide) dX0_isStoodBy_38 ?_
            exact p29
  exact lp9 k8 0 0 σ hI10
set_option maxRecDepth 100000 in
def P_X0_placeBy (h : Nat) (way : Int32) (ve : Int32) (σ : gS) (Qp : Option Value → gS → Prop) : Prop :=
  (Qp (some (.int ((way >>> ((3 * (((σ 1 9) - 1) - ve)) &&& 31)) &&& 7))) σ)
set_option maxHeartbeats 4000000 in
set_option maxRecDepth 100000 in
theorem w_X0_placeBy {h : Nat} (hh : 6 ≤ h) {way : Int32} {ve : Int32} {σ : gS} {Qp : Option Value → gS → Prop} (P : P_X0_placeBy h way ve σ Qp) : g_Met yX0_placeBy cX0_placeBy 3 (some .int) h kX [.ref 26, .int way, .int ve] σ Qp := by
  unfold P_X0_placeBy at P
  refine g_Met.of (own := 0) (L := [some (.ref 26), some (.int way), some (.int ve)]) (by decide) rfl rfl (fun ad => Nat.le_of_ble_eq_true rfl) (fun ad => rfl) (fun X G K C => ?_)
  refine V_blk C (pc' := 18) (σ' := σ) (L' := [some (.ref 26), some (.int way), some (.int ve)]) (st' := [.int ((way >>> ((3 * (((σ 1 9) - 1) - ve)) &&& 31)) &&& 7)]) (g_c dX0_placeBy_0 (g_c dX0_placeBy_1 (g_c dX0_placeBy_2 (g_c dX0_placeBy_3 (g_c dX0_placeBy_6 (g_c dX0_placeBy_9 (g_c dX0_placeBy_10 (g_c dX0_placeBy_11 (g_c dX0_placeBy_12 (g_c dX0_placeBy_13 (g_c dX0_placeBy_14 (g_c dX0_placeBy_15 (g_c dX0_placeBy_17 g_n))))))))))))) rfl rfl ?_
  refine V_iret C dX0_placeBy_18 ?_
  exact P
set_option maxRecDepth 100000 in
def P_X0_run (h : Nat) (hrs : Int32) (en : Int32) (σ : gS) (Qp : Option Value → gS → Prop) : Prop :=
  (g_call yX0_setOut cX0_setOut 2 none kX h [.ref 26] (g_up (g_up (g_up (g_up (g_up (g_up σ 26 13 0) 26 14 0) 26 15 0) 26 16 (-1)) 26 17 0) 26 12 0) (fun rv s1 => rv = none ∧ (∃ I4 : Nat → Int32 → gS → Prop, (∃ k9 : Nat, I4 k9 0 s1) ∧ ∀ (k6 : Nat) (v3 : Int32) (s12 : gS), I4 k6 v3 s12 → (((v3 : Int32) < hrs → (((v3 : Int32) < 24 → (g_call yX0_cost cX0_cost 1 (some .int) kX h [.ref 26] s12 (fun rv s20 => ∃ r22 : Int32, rv = some (.int r22) ∧ (((r22 : Int32) < en → (∃ J27 : gS → Prop, ((((((s20 26 3) >>> (v3 &&& 31)) &&& 1) : Int32) = 0 → (J27 s20)) ∧ (¬ ((((s20 26 3) >>> (v3 &&& 31)) &&& 1) : Int32) = 0 → (∃ j41 : Nat, v3 = nI j41 ∧ j41 < 24 ∧ (g_call yX3_name cX3_name 7 none kX h [.ref 23, .int (s20 34 j41), .int v3, .int 0, .int 0, .int 0, .int (s20 26 12)] s20 (fun rv s43 => rv = none ∧ (g_call yX3_tells cX3_tells 9 (some .int) kX h [.ref 23, .int 2, .int 999] s43 (fun rv s45 => ∃ r47 : Int32, rv = some (.int r47) ∧ (g_call yX0_emptySome cX0_emptySome 3 none kX h [.ref 26] (g_up s45 26 14 ((s43 26 14) + r47)) (fun rv s48 => rv = none ∧ (J27 (g_up s48 26 12 0))))))))))) ∧ ∀  (s26 : gS), J27 s26 → (g_call yX0_pour cX0_pour 6 none kX h [.ref 26, .int v3] s26 (fun rv s33 => rv = none ∧ (∃ k35 : Nat, k35 < k6 ∧ I4 k35 (v3 + 1) (g_up s33 26 12 ((s33 26 12) + 1))))))) ∧ (¬ (r22 : Int32) < en → (Qp none s20)))))) ∧ (¬ (v3 : Int32) < 24 → (Qp none s12)))) ∧ (¬ (v3 : Int32) < hrs → (Qp none s12))))))
set_option maxHeartbeats 4000000 in
set_option maxRecDepth 100000 in
theorem w_X0_run {h : Nat} (hh : 6 ≤ h) {hrs : Int32} {en : Int32} {σ : gS} {Qp : Option Value → gS → Prop} (P : P_X0_run h hrs en σ Qp) : g_Met yX0_run cX0_run 4 none h kX [.ref 26, .int hrs, .int en] σ Qp := by
  unfold P_X0_run at P
  refine g_Met.of (own := 0) (L := [some (.ref 26), some (.int hrs), some (.int en), none]) (by decide) rfl rfl (fun ad => Nat.le_of_ble_eq_true rfl) (fun ad => rfl) (fun X G K C => ?_)
  refine V_blk C (pc' := 31) (σ' := (g_up (g_up (g_up (g_up (g_up (g_up σ 26 13 0) 26 14 0) 26 15 0) 26 16 (-1)) 26 17 0) 26 12 0)) (L' := [some (.ref 26), some (.int hrs), some (.int en), none]) (st' := [.ref 26]) (g_c dX0_run_0 (g_c dX0_run_1 (g_c dX0_run_2 (g_c dX0_run_5 (g_c dX0_run_6 (g_c dX0_run_7 (g_c dX0_run_10 (g_c dX0_run_11 (g_c dX0_run_12 (g_c dX0_run_15 (g_c dX0_run_16 (g_c dX0_run_17 (g_c dX0_run_20 (g_c dX0_run_21 (g_c dX0_run_22 (g_c dX0_run_25 (g_c dX0_run_26 (g_c dX0_run_27 (g_c dX0_run_30 g_n))))))))))))))))))) rfl rfl ?_
  refine V_gV C cv_X0_116 P ⟨_, _, _, _, rfl, rfl⟩ (by rfl) (by decide) (As := []) (rest := []) rfl rfl (Nat.le_of_ble_eq_true rfl) dX0_run_31 (fun rv s1 hq => ?_)
  obtain ⟨rfl, p2⟩ := hq
  refine V_blk C (pc' := 36) (σ' := s1) (L' := [some (.ref 26), some (.int hrs), some (.int en), some (.int 0)]) (st' := []) (g_c dX0_run_34 (g_c dX0_run_35 g_n)) rfl rfl ?_
  obtain ⟨I4, ⟨k9, hI11⟩, hS8⟩ := p2
  have lp10 : ∀ (k6 : Nat) (v3 : Int32) (s12 : gS), I4 k6 v3 s12 → gV X G K 4 Qp s12 [some (.ref 26), some (.int hrs), some (.int en), some (.int v3)] [] 36 := by
    intro k6
    induction k6 using Nat.strongRecOn with
    | ind k6 ih5 =>
      intro v3 s12 hI7
      have p13 := hS8 k6 v3 s12 hI7
      refine V_blk C (pc' := 38) (σ' := s12) (L' := [some (.ref 26), some (.int hrs), some (.int en), some (.int v3)]) (st' := [.int hrs, .int v3]) (g_c dX0_run_36 (g_c dX0_run_37 g_n)) rfl rfl ?_
      refine V_icmp_ge2 C (tgt := 140) dX0_run_38 (by decide) (fun h14 => ?_) (fun h14 => ?_)
      · skip
        have p15 := p13.2 h14
        refine V_vret C dX0_run_140 ?_
        exact p15
      · skip
        have p16 := p13.1 h14
        refine V_blk C (pc' := 44) (σ' := s12) (L' := [some (.ref 26), some (.int hrs), some (.int en), some (.int v3)]) (st' := [.int 24, .int v3]) (g_c dX0_run_41 (g_c dX0_run_42 g_n)) rfl rfl ?_
        refine V_icmp_ge2 C (tgt := 140) dX0_run_44 (by decide) (fun h17 => ?_) (fun h17 => ?_)
        · skip
          have p18 := p16.2 h17
          refine V_vret C dX0_run_140 ?_
          exact p18
        · skip
          have p19 := p16.1 h17
          refine V_blk C (pc' := 48) (σ' := s12) (L' := [some (.ref 26), some (.int hrs), some (.int en), some (.int v3)]) (st' := [.ref 26]) (g_c dX0_run_47 g_n) rfl rfl ?_
          refine V_gV C cv_X0_81 p19 ⟨_, _, _, _, rfl, rfl⟩ (by rfl) (by decide) (As := []) (rest := []) rfl rfl (Nat.le_of_ble_eq_true rfl) dX0_run_48 (fun rv s20 hq => ?_)
          obtain ⟨r22, rfl, p21⟩ := hq
          refine V_blk C (pc' := 52) (σ' := s20) (L' := [some (.ref 26), some (.int hrs), some (.int en), some (.int v3)]) (st' := [.int en, .int r22]) (g_c dX0_run_51 g_n) rfl rfl ?_
          refine V_icmp_ge2 C (tgt := 140) dX0_run_52 (by decide) (fun h23 => ?_) (fun h23 => ?_)
          · skip
            have p24 := p21.2 h23
            refine V_vret C dX0_run_140 ?_
            exact p24
          · skip
            have p25 := p21.1 h23
            refine V_blk C (pc' := 63) (σ' := s20) (L' := [some (.ref 26), some (.int hrs), some (.int en), some (.int v3)]) (st' := [.int (((s20 26 3) >>> (v3 &&& 31)) &&& 1)]) (g_c dX0_run_55 (g_c dX0_run_56 (g_c dX0_run_59 (g_c dX0_run_60 (g_c dX0_run_61 (g_c dX0_run_62 g_n)))))) rfl rfl ?_
            obtain ⟨J27, p29, p30⟩ := p25
            have jn28 : ∀  (s26 : gS) (_ : J27 s26), gV X G K 4 Qp s26 [some (.ref 26), some (.int hrs), some (.int en), some (.int v3)] [] 119 := by
              intro s26 hJ31
              have p32 := p30 s26 hJ31
              refine V_blk C (pc' := 121) (σ' := s26) (L' := [some (.ref 26), some (.int hrs), some (.int en), some (.int v3)]) (st' := [.int v3, .ref 26]) (g_c dX0_run_119 (g_c dX0_run_120 g_n)) rfl rfl ?_
              refine V_gV C cv_X0_134 p32 ⟨_, _, _, _, rfl, rfl⟩ (by rfl) (by decide) (As := [.int v3]) (rest := []) rfl rfl (Nat.le_of_ble_eq_true rfl) dX0_run_121 (fun rv s33 hq => ?_)
              obtain ⟨rfl, p34⟩ := hq
              refine V_blk C (pc' := 137) (σ' := (g_up s33 26 12 ((s33 26 12) + 1))) (L' := [some (.ref 26), some (.int hrs), some (.int en), some (.int (v3 + 1))]) (st' := []) (g_c dX0_run_124 (g_c dX0_run_125 (g_c dX0_run_126 (g_c dX0_run_129 (g_c dX0_run_130 (g_c dX0_run_131 (g_c dX0_run_134 g_n))))))) rfl rfl ?_
              refine V_goto C (tgt := 36) dX0_run_137 (by decide) ?_
              obtain ⟨k35, hkk35, hIk35⟩ := p34
              exact ih5 k35 hkk35 (v3 + 1) (g_up s33 26 12 ((s33 26 12) + 1)) hIk35
            refine V_if_eq C (tgt := 119) dX0_run_63 (by decide) (fun h36 => ?_) (fun h36 => ?_)
            · skip
              have p37 := p29.1 h36
              exact jn28 s20 p37
            · skip
              have p38 := p29.2 h36
              refine V_blk C (pc' := 78) (σ' := s20) (L' := [some (.ref 26), some (.int hrs), some (.int en), some (.int v3)]) (st' := [.int v3, .ref 34, .ref 23]) (g_c dX0_run_66 (g_c dX0_run_67 (g_c dX0_run_70 (g_c dX0_run_71 (g_c dX0_run_74 (g_c dX0_run_77 g_n)))))) rfl rfl ?_
              obtain ⟨j41, e42, l40, p39⟩ := p38
              refine V_ialdJ C (j := j41) (k := 34) (n := 24) (by rfl) (by rfl) e42 ⟨(by omega), (by omega)⟩ dX0_run_78 ?_
              refine V_blk C (pc' := 87) (σ' := s20) (L' := [some (.ref 26), some (.int hrs), some (.int en), some (.int v3)]) (st' := [.int (s20 26 12), .int 0, .int 0, .int 0, .int v3, .int (s20 34 j41), .ref 23]) (g_c dX0_run_79 (g_c dX0_run_80 (g_c dX0_run_81 (g_c dX0_run_82 (g_c dX0_run_83 (g_c dX0_run_84 g_n)))))) rfl rfl ?_
              refine V_gV C cv_X0_122 p39 ⟨_, _, _, _, rfl, rfl⟩ (by rfl) (by decide) (As := [.int (s20 34 j41), .int v3, .int 0, .int 0, .int 0, .int (s20 26 12)]) (rest := []) rfl rfl (Nat.le_of_ble_eq_true rfl) dX0_run_87 (fun rv s43 hq => ?_)
              obtain ⟨rfl, p44⟩ := hq
              refine V_blk C (pc' := 103) (σ' := s43) (L' := [some (.ref 26), some (.int hrs), some (.int en), some (.int v3)]) (st' := [.int 999, .int 2, .ref 23, .int (s43 26 14), .ref 26]) (g_c dX0_run_90 (g_c dX0_run_91 (g_c dX0_run_92 (g_c dX0_run_95 (g_c dX0_run_96 (g_c dX0_run_99 (g_c dX0_run_100 g_n))))))) rfl rfl ?_
              refine V_gV C cv_X0_128 p44 ⟨_, _, _, _, rfl, rfl⟩ (by rfl) (by decide) (As := [.int 2, .int 999]) (rest := [.int (s43 26 14), .ref 26]) rfl rfl (Nat.le_of_ble_eq_true rfl) dX0_run_103 (fun rv s45 hq => ?_)
              obtain ⟨r47, rfl, p46⟩ := hq
              refine V_blk C (pc' := 111) (σ' := (g_up s45 26 14 ((s43 26 14) + r47))) (L' := [some (.ref 26), some (.int hrs), some (.int en), some (.int v3)]) (st' := [.ref 26]) (g_c dX0_run_106 (g_c dX0_run_107 (g_c dX0_run_110 g_n))) rfl rfl ?_
              refine V_gV C cv_X0_131 p46 ⟨_, _, _, _, rfl, rfl⟩ (by rfl) (by decide) (As := []) (rest := []) rfl rfl (Nat.le_of_ble_eq_true rfl) dX0_run_111 (fun rv s48 hq => ?_)
              obtain ⟨rfl, p49⟩ := hq
              refine V_blk C (pc' := 119) (σ' := (g_up s48 26 12 0)) (L' := [some (.ref 26), some (.int hrs), some (.int en), some (.int v3)]) (st' := []) (g_c dX0_run_114 (g_c dX0_run_115 (g_c dX0_run_116 g_n))) rfl rfl ?_
              exact jn28 (g_up s48 26 12 0) p49
  exact lp10 k9 0 s1 hI11
set_option maxRecDepth 100000 in
def P_X0_pour (h : Nat) (hr : Int32) (σ : gS) (Qp : Option Value → gS → Prop) : Prop :=
  (∃ I2 : Nat → Int32 → gS → Prop, (∃ k7 : Nat, I2 k7 0 σ) ∧ ∀ (k4 : Nat) (v1 : Int32) (s10 : gS), I2 k4 v1 s10 → (((v1 : Int32) < 8 → (∃ j17 : Nat, ((hr * 8) + v1) = nI j17 ∧ j17 < 192 ∧ (∃ j21 : Nat, v1 = nI j21 ∧ j21 < 8 ∧ (∃ J25 : Int32 → gS → Prop, (((0 : Int32) < (s10 36 j17) → ((g_in (s10 28 j21) 0 4 → (∃ j48 : Nat, (s10 28 j21) = nI j48 ∧ j48 < 5 ∧ (J25 ((s10 36 j17) - (if ((s10 7 j48) - (s10 29 j48)) < (s10 36 j17) then ((s10 7 j48) - (s10 29 j48)) else (s10 36 j17))) (g_up (g_up s10 26 17 ((s10 26 17) + (s10 36 j17))) 29 j48 ((s10 29 j48) + (if ((s10 7 j48) - (s10 29 j48)) < (s10 36 j17) then ((s10 7 j48) - (s10 29 j48)) else (s10 36 j17))))))) ∧ (¬ g_in (s10 28 j21) 0 4 → (J25 (s10 36 j17) (g_up s10 26 17 ((s10 26 17) + (s10 36 j17))))))) ∧ (¬ (0 : Int32) < (s10 36 j17) → (J25 (s10 36 j17) (g_up s10 26 17 ((s10 26 17) + (s10 36 j17)))))) ∧ ∀ (v23 : Int32) (s24 : gS), J25 v23 s24 → (((0 : Int32) < v23 → (g_call yX0_harmOn cX0_harmOn 6 (some .int) kX h [.ref 26, .int hr, .int v1, .int v23] (g_up (g_up (g_up s24 30 j21 v23) 26 15 ((s24 26 15) + v23)) 26 16 (if ((s24 26 16) : Int32) = (-1) then hr else (s24 26 16))) (fun rv s36 => ∃ r38 : Int32, rv = some (.int r38) ∧ (∃ k39 : Nat, k39 < k4 ∧ I2 k39 (v1 + 1) (g_up s36 26 13 ((s24 26 13) + r38)))))) ∧ (¬ (0 : Int32) < v23 → (∃ k33 : Nat, k33 < k4 ∧ I2 k33 (v1 + 1) (g_up s24 30 j21 v23)))))))) ∧ (¬ (v1 : Int32) < 8 → (Qp none s10))))
set_option maxHeartbeats 4000000 in
set_option maxRecDepth 100000 in
theorem w_X0_pour {h : Nat} (hh : 6 ≤ h) {hr : Int32} {σ : gS} {Qp : Option Value → gS → Prop} (P : P_X0_pour h hr σ Qp) : g_Met yX0_pour cX0_pour 6 none h kX [.ref 26, .int hr] σ Qp := by
  unfold P_X0_pour at P
  refine g_Met.of (own := 0) (L := [some (.ref 26), some (.int hr), none, none, none, none]) (by decide) rfl rfl (fun ad => Nat.le_of_ble_eq_true rfl) (fun ad => rfl) (fun X G K C => ?_)
  refine V_blk C (pc' := 2) (σ' := σ) (L' := [some (.ref 26), some (.int hr), some (.int 0), none, none, none]) (st' := []) (g_c dX0_pour_0 (g_c dX0_pour_1 g_n)) rfl rfl ?_
  obtain ⟨I2, ⟨k7, hI9⟩, hS6⟩ := P
  have lp8 : ∀ (k4 : Nat) (v1 : Int32) (s10 : gS), I2 k4 v1 s10 → gV X G K 6 Qp s10 [some (.ref 26), some (.int hr), some (.int v1), none, none, none] [] 2 := by
    intro k4
    induction k4 using Nat.strongRecOn with
    | ind k4 ih3 =>
      intro v1 s10 hI5
      have p11 := hS6 k4 v1 s10 hI5
      refine V_blk C (pc' := 5) (σ' := s10) (L' := [some (.ref 26), some (.int hr), some (.int v1), none, none, none]) (st' := [.int 8, .int v1]) (g_c dX0_pour_2 (g_c dX0_pour_3 g_n)) rfl rfl ?_
      refine V_icmp_ge2 C (tgt := 159) dX0_pour_5 (by decide) (fun h12 => ?_) (fun h12 => ?_)
      · skip
        have p13 := p11.2 h12
        refine V_vret C dX0_pour_159 ?_
        exact p13
      · skip
        have p14 := p11.1 h12
        refine V_blk C (pc' := 21) (σ' := s10) (L' := [some (.ref 26), some (.int hr), some (.int v1), none, none, none]) (st' := [.int ((hr * 8) + v1), .ref 36]) (g_c dX0_pour_8 (g_c dX0_pour_9 (g_c dX0_pour_12 (g_c dX0_pour_15 (g_c dX0_pour_16 (g_c dX0_pour_18 (g_c dX0_pour_19 (g_c dX0_pour_20 g_n)))))))) rfl rfl ?_
        obtain ⟨j17, e18, l16, p15⟩ := p14
        refine V_ialdJ C (j := j17) (k := 36) (n := 192) (by rfl) (by rfl) e18 ⟨(by omega), (by omega)⟩ dX0_pour_21 ?_
        refine V_blk C (pc' := 38) (σ' := (g_up s10 26 17 ((s10 26 17) + (s10 36 j17)))) (L' := [some (.ref 26), some (.int hr), some (.int v1), some (.int (s10 36 j17)), none, none]) (st' := [.int v1, .ref 28]) (g_c dX0_pour_22 (g_c dX0_pour_23 (g_c dX0_pour_24 (g_c dX0_pour_25 (g_c dX0_pour_28 (g_c dX0_pour_29 (g_c dX0_pour_30 (g_c dX0_pour_33 (g_c dX0_pour_34 (g_c dX0_pour_37 g_n)))))))))) rfl rfl ?_
        obtain ⟨j21, e22, l20, p19⟩ := p15
        refine V_ialdJ C (j := j21) (k := 28) (n := 8) (by rfl) (by rfl) e22 ⟨(by omega), (by omega)⟩ dX0_pour_38 ?_
        refine V_eq rfl rfl (st' := [.int (s10 28 j21)]) (by simp [g_up]) ?_
        refine V_blk C (pc' := 42) (σ' := (g_up s10 26 17 ((s10 26 17) + (s10 36 j17)))) (L' := [some (.ref 26), some (.int hr), some (.int v1), some (.int (s10 36 j17)), some (.int (s10 28 j21)), none]) (st' := [.int (s10 36 j17)]) (g_c dX0_pour_39 (g_c dX0_pour_41 g_n)) rfl rfl ?_
        obtain ⟨J25, p27, p28⟩ := p19
        have jn26 : ∀ (v23 : Int32) (s24 : gS) (_ : J25 v23 s24), gV X G K 6 Qp s24 [some (.ref 26), some (.int hr), some (.int v1), some (.int v23), none, none] [] 96 := by
          intro v23 s24 hJ29
          have p30 := p28 v23 s24 hJ29
          refine V_blk C (pc' := 102) (σ' := s24) (L' := [some (.ref 26), some (.int hr), some (.int v1), some (.int v23), none, none]) (st' := [.int v23, .int v1, .ref 30]) (g_c dX0_pour_96 (g_c dX0_pour_97 (g_c dX0_pour_100 (g_c dX0_pour_101 g_n)))) rfl rfl ?_
          refine V_iastJ C (j := j21) (k := 30) (n := 8) (by rfl) (by rfl) e22 ⟨(by omega), (by omega)⟩ dX0_pour_102 ?_
          refine V_blk C (pc' := 104) (σ' := (g_up s24 30 j21 v23)) (L' := [some (.ref 26), some (.int hr), some (.int v1), some (.int v23), none, none]) (st' := [.int v23]) (g_c dX0_pour_103 g_n) rfl rfl ?_
          refine V_if_le2 C (tgt := 153) dX0_pour_104 (by decide) (fun h31 => ?_) (fun h31 => ?_)
          · skip
            have p32 := p30.2 h31
            refine V_blk C (pc' := 156) (σ' := (g_up s24 30 j21 v23)) (L' := [some (.ref 26), some (.int hr), some (.int (v1 + 1)), some (.int v23), none, none]) (st' := []) (g_c dX0_pour_153 g_n) rfl rfl ?_
            refine V_goto C (tgt := 2) dX0_pour_156 (by decide) ?_
            refine V_less (L' := [some (.ref 26), some (.int hr), some (.int (v1 + 1)), none, none, none]) (by simp [g_subL]) ?_
            obtain ⟨k33, hkk33, hIk33⟩ := p32
            exact ih3 k33 hkk33 (v1 + 1) (g_up s24 30 j21 v23) hIk33
          · skip
            have p34 := p30.1 h31
            refine V_blk C (pc' := 123) (σ' := (g_up (g_up s24 30 j21 v23) 26 15 ((s24 26 15) + v23))) (L' := [some (.ref 26), some (.int hr), some (.int v1), some (.int v23), none, none]) (st' := [.int (-1), .int (s24 26 16), .ref 26]) (g_c dX0_pour_107 (g_c dX0_pour_108 (g_c dX0_pour_109 (g_c dX0_pour_112 (g_c dX0_pour_113 (g_c dX0_pour_114 (g_c dX0_pour_117 (g_c dX0_pour_118 (g_c dX0_pour_119 (g_c dX0_pour_122 g_n)))))))))) rfl rfl ?_
            refine V_join (P := ((s24 26 16) : Int32) = (-1)) (a := hr) (b := (s24 26 16)) (pcJ := 134) (rest := [.ref 26]) (fun x_ hx_ => ?_) (fun kT kF => ?_)
            · skip
              subst hx_
              refine V_blk C (pc' := 146) (σ' := (g_up (g_up (g_up s24 30 j21 v23) 26 15 ((s24 26 15) + v23)) 26 16 (if ((s24 26 16) : Int32) = (-1) then hr else (s24 26 16)))) (L' := [some (.ref 26), some (.int hr), some (.int v1), some (.int v23), none, none]) (st' := [.int v23, .int v1, .int hr, .ref 26, .int (s24 26 13), .ref 26]) (g_c dX0_pour_134 (g_c dX0_pour_137 (g_c dX0_pour_138 (g_c dX0_pour_139 (g_c dX0_pour_142 (g_c dX0_pour_143 (g_c dX0_pour_144 (g_c dX0_pour_145 g_n)))))))) rfl rfl ?_
              refine V_gV C cv_X0_161 p34 ⟨_, _, _, _, rfl, rfl⟩ (by rfl) (by decide) (As := [.int hr, .int v1, .int v23]) (rest := [.int (s24 26 13), .ref 26]) rfl rfl (Nat.le_of_ble_eq_true rfl) dX0_pour_146 (fun rv s36 hq => ?_)
              obtain ⟨r38, rfl, p37⟩ := hq
              refine V_blk C (pc' := 156) (σ' := (g_up s36 26 13 ((s24 26 13) + r38))) (L' := [some (.ref 26), some (.int hr), some (.int (v1 + 1)), some (.int v23), none, none]) (st' := []) (g_c dX0_pour_149 (g_c dX0_pour_150 (g_c dX0_pour_153 g_n))) rfl rfl ?_
              refine V_goto C (tgt := 2) dX0_pour_156 (by decide) ?_
              refine V_less (L' := [some (.ref 26), some (.int hr), some (.int (v1 + 1)), none, none, none]) (by simp [g_subL]) ?_
              obtain ⟨k39, hkk39, hIk39⟩ := p37
              exact ih3 k39 hkk39 (v1 + 1) (g_up s36 26 13 ((s24 26 13) + r38)) hIk39
            · refine V_icmp_ne C (tgt := 130) dX0_pour_123 (by decide) (fun h35 => ?_) (fun h35 => ?_)
              · skip
                refine V_blk C (pc' := 134) (σ' := (g_up (g_up s24 30 j21 v23) 26 15 ((s24 26 15) + v23))) (L' := [some (.ref 26), some (.int hr), some (.int v1), some (.int v23), none, none]) (st' := [.int (s24 26 16), .ref 26]) (g_c dX0_pour_130 (g_c dX0_pour_131 g_n)) rfl rfl ?_
                exact kF h35
              · skip
                refine V_blk C (pc' := 127) (σ' := (g_up (g_up s24 30 j21 v23) 26 15 ((s24 26 15) + v23))) (L' := [some (.ref 26), some (.int hr), some (.int v1), some (.int v23), none, none]) (st' := [.int hr, .ref 26]) (g_c dX0_pour_126 g_n) rfl rfl ?_
                refine V_goto C (tgt := 134) dX0_pour_127 (by decide) ?_
                exact kT h35
        refine V_if_le2 C (tgt := 96) dX0_pour_42 (by decide) (fun h40 => ?_) (fun h40 => ?_)
        · skip
          have p41 := p27.2 h40
          refine V_less (L' := [some (.ref 26), some (.int hr), some (.int v1), some (.int (s10 36 j17)), none, none]) (by simp [g_subL]) ?_
          exact jn26 (s10 36 j17) (g_up s10 26 17 ((s10 26 17) + (s10 36 j17))) p41
        · skip
          have p42 := p27.1 h40
          refine V_blk C (pc' := 49) (σ' := (g_up s10 26 17 ((s10 26 17) + (s10 36 j17)))) (L' := [some (.ref 26), some (.int hr), some (.int v1), some (.int (s10 36 j17)), some (.int (s10 28 j21)), none]) (st' := [.int 4, .int 0, .int (s10 28 j21)]) (g_c dX0_pour_45 (g_c dX0_pour_47 (g_c dX0_pour_48 g_n))) rfl rfl ?_
          refine V_callNI C cn_X0_146 (c_X7_isIn (g_up s10 26 17 ((s10 26 17) + (s10 36 j17))) (s10 28 j21) 0 4) (by omega) (by decide) (fun _ h => h) (As := [.int (s10 28 j21), .int 0, .int 4]) (rest := []) rfl rfl (Nat.le_of_ble_eq_true rfl) dX0_pour_49 ?_
          refine V_if_eq_b C (tgt := 96) dX0_pour_52 (by decide) (fun h43 => ?_) (fun h43 => ?_)
          · skip
            have p44 := p42.2 h43
            refine V_less (L' := [some (.ref 26), some (.int hr), some (.int v1), some (.int (s10 36 j17)), none, none]) (by simp [g_subL]) ?_
            exact jn26 (s10 36 j17) (g_up s10 26 17 ((s10 26 17) + (s10 36 j17))) p44
          · skip
            have p45 := p42.1 h43
            refine V_blk C (pc' := 65) (σ' := (g_up s10 26 17 ((s10 26 17) + (s10 36 j17)))) (L' := [some (.ref 26), some (.int hr), some (.int v1), some (.int (s10 36 j17)), some (.int (s10 28 j21)), none]) (st' := [.int (s10 28 j21), .ref 7, .int (s10 36 j17)]) (g_c dX0_pour_55 (g_c dX0_pour_56 (g_c dX0_pour_57 (g_c dX0_pour_60 (g_c dX0_pour_63 g_n))))) rfl rfl ?_
            obtain ⟨j48, e49, l47, p46⟩ := p45
            refine V_ialdJ C (j := j48) (k := 7) (n := 5) (by rfl) (by rfl) e49 ⟨(by omega), (by omega)⟩ dX0_pour_65 ?_
            refine V_eq rfl rfl (st' := [.int (s10 7 j48), .int (s10 36 j17)]) (by simp [g_up]) ?_
            refine V_blk C (pc' := 72) (σ' := (g_up s10 26 17 ((s10 26 17) + (s10 36 j17)))) (L' := [some (.ref 26), some (.int hr), some (.int v1), some (.int (s10 36 j17)), some (.int (s10 28 j21)), none]) (st' := [.int (s10 28 j21), .ref 29, .int (s10 7 j48), .int (s10 36 j17)]) (g_c dX0_pour_66 (g_c dX0_pour_67 (g_c dX0_pour_70 g_n))) rfl rfl ?_
            refine V_ialdJ C (j := j48) (k := 29) (n := 5) (by rfl) (by rfl) e49 ⟨(by omega), (by omega)⟩ dX0_pour_72 ?_
            refine V_eq rfl rfl (st' := [.int (s10 29 j48), .int (s10 7 j48), .int (s10 36 j17)]) (by simp [g_up]) ?_
            refine V_blk C (pc' := 74) (σ' := (g_up s10 26 17 ((s10 26 17) + (s10 36 j17)))) (L' := [some (.ref 26), some (.int hr), some (.int v1), some (.int (s10 36 j17)), some (.int (s10 28 j21)), none]) (st' := [.int ((s10 7 j48) - (s10 29 j48)), .int (s10 36 j17)]) (g_c dX0_pour_73 g_n) rfl rfl ?_
            refine V_mmin C cm_X0_156 (by omega) (by decide) dX0_pour_74 ?_
            refine V_blk C (pc' := 86) (σ' := (g_up s10 26 17 ((s10 26 17) + (s10 36 j17)))) (L' := [some (.ref 26), some (.int hr), some (.int v1), some (.int (s10 36 j17)), some (.int (s10 28 j21)), some (.int (if ((s10 7 j48) - (s10 29 j48)) < (s10 36 j17) then ((s10 7 j48) - (s10 29 j48)) else (s10 36 j17)))]) (st' := [.int (s10 28 j21), .ref 29, .int (s10 28 j21), .ref 29]) (g_c dX0_pour_77 (g_c dX0_pour_79 (g_c dX0_pour_80 (g_c dX0_pour_83 (g_c dX0_pour_85 g_n))))) rfl rfl ?_
            refine V_ialdJ C (j := j48) (k := 29) (n := 5) (by rfl) (by rfl) e49 ⟨(by omega), (by omega)⟩ dX0_pour_86 ?_
            refine V_eq rfl rfl (st' := [.int (s10 29 j48), .int (s10 28 j21), .ref 29]) (by simp [g_up]) ?_
            refine V_blk C (pc' := 90) (σ' := (g_up s10 26 17 ((s10 26 17) + (s10 36 j17)))) (L' := [some (.ref 26), some (.int hr), some (.int v1), some (.int (s10 36 j17)), some (.int (s10 28 j21)), some (.int (if ((s10 7 j48) - (s10 29 j48)) < (s10 36 j17) then ((s10 7 j48) - (s10 29 j48)) else (s10 36 j17)))]) (st' := [.int ((s10 29 j48) + (if ((s10 7 j48) - (s10 29 j48)) < (s10 36 j17) then ((s10 7 j48) - (s10 29 j48)) else (s10 36 j17))), .int (s10 28 j21), .ref 29]) (g_c dX0_pour_87 (g_c dX0_pour_89 g_n)) rfl rfl ?_
            refine V_iastJ C (j := j48) (k := 29) (n := 5) (by rfl) (by rfl) e49 ⟨(by omega), (by omega)⟩ dX0_pour_90 ?_
            refine V_blk C (pc' := 96) (σ' := (g_up (g_up s10 26 17 ((s10 26 17) + (s10 36 j17))) 29 j48 ((s10 29 j48) + (if ((s10 7 j48) - (s10 29 j48)) < (s10 36 j17) then ((s10 7 j48) - (s10 29 j48)) else (s10 36 j17))))) (L' := [some (.ref 26), some (.int hr), some (.int v1), some (.int ((s10 36 j17) - (if ((s10 7 j48) - (s10 29 j48)) < (s10 36 j17) then ((s10 7 j48) - (s10 29 j48)) else (s10 36 j17)))), some (.int (s10 28 j21)), some (.int (if ((s10 7 j48) - (s10 29 j48)) < (s10 36 j17) then ((s10 7 j48) - (s10 29 j48)) else (s10 36 j17)))]) (st' := []) (g_c dX0_pour_91 (g_c dX0_pour_92 (g_c dX0_pour_94 (g_c dX0_pour_95 g_n)))) rfl rfl ?_
            refine V_less (L' := [some (.ref 26), some (.int hr), some (.int v1), some (.int ((s10 36 j17) - (if ((s10 7 j48) - (s10 29 j48)) < (s10 36 j17) then ((s10 7 j48) - (s10 29 j48)) else (s10 36 j17)))), none, none]) (by simp [g_subL]) ?_
            exact jn26 ((s10 36 j17) - (if ((s10 7 j48) - (s10 29 j48)) < (s10 36 j17) then ((s10 7 j48) - (s10 29 j48)) else (s10 36 j17))) (g_up (g_up s10 26 17 ((s10 26 17) + (s10 36 j17))) 29 j48 ((s10 29 j48) + (if ((s10 7 j48) - (s10 29 j48)) < (s10 36 j17) then ((s10 7 j48) - (s10 29 j48)) else (s10 36 j17)))) p46
  exact lp8 k7 0 σ hI9
set_option maxRecDepth 100000 in
def P_X0_harmOn (h : Nat) (hr : Int32) (pl : Int32) (sz : Int32) (σ : gS) (Qp : Option Value → gS → Prop) : Prop :=
  (∃ j3 : Nat, ((hr * 8) + pl) = nI j3 ∧ j3 < 192 ∧ ((((σ 31 j3) : Int32) = ((sz * 24) + (σ 26 12)) → (Qp (some (.int (σ 32 j3))) σ)) ∧ (¬ ((σ 31 j3) : Int32) = ((sz * 24) + (σ 26 12)) → (∃ j10 : Nat, hr = nI j10 ∧ j10 < 24 ∧ (g_call yX3_name cX3_name 7 none kX h [.ref 23, .int (σ 34 j10), .int hr, .int pl, .int 0, .int sz, .int (σ 26 12)] (g_up σ 31 j3 ((sz * 24) + (σ 26 12))) (fun rv s12 => rv = none ∧ (g_call yX3_tells cX3_tells 9 (some .int) kX h [.ref 23, .int 1, .int 999] s12 (fun rv s14 => ∃ r16 : Int32, rv = some (.int r16) ∧ (Qp (some (.int r16)) (g_up s14 32 j3 r16))))))))))
set_option maxHeartbeats 4000000 in
set_option maxRecDepth 100000 in
theorem w_X0_harmOn {h : Nat} (hh : 6 ≤ h) {hr : Int32} {pl : Int32} {sz : Int32} {σ : gS} {Qp : Option Value → gS → Prop} (P : P_X0_harmOn h hr pl sz σ Qp) : g_Met yX0_harmOn cX0_harmOn 6 (some .int) h kX [.ref 26, .int hr, .int pl, .int sz] σ Qp := by
  unfold P_X0_harmOn at P
  refine g_Met.of (own := 0) (L := [some (.ref 26), some (.int hr), some (.int pl), some (.int sz), none, none]) (by decide) rfl rfl (fun ad => Nat.le_of_ble_eq_true rfl) (fun ad => rfl) (fun X G K C => ?_)
  refine V_blk C (pc' := 25) (σ' := σ) (L' := [some (.ref 26), some (.int hr), some (.int pl), some (.int sz), some (.int ((hr * 8) + pl)), some (.int ((sz * 24) + (σ 26 12)))]) (st' := [.int ((hr * 8) + pl), .ref 31]) (g_c dX0_harmOn_0 (g_c dX0_harmOn_1 (g_c dX0_harmOn_3 (g_c dX0_harmOn_4 (g_c dX0_harmOn_5 (g_c dX0_harmOn_6 (g_c dX0_harmOn_8 (g_c dX0_harmOn_9 (g_c dX0_harmOn_11 (g_c dX0_harmOn_12 (g_c dX0_harmOn_13 (g_c dX0_harmOn_16 (g_c dX0_harmOn_17 (g_c dX0_harmOn_19 (g_c dX0_harmOn_20 (g_c dX0_harmOn_23 g_n)))))))))))))))) rfl rfl ?_
  obtain ⟨j3, e4, l2, p1⟩ := P
  refine V_ialdJ C (j := j3) (k := 31) (n := 192) (by rfl) (by rfl) e4 ⟨(by omega), (by omega)⟩ dX0_harmOn_25 ?_
  refine V_blk C (pc' := 28) (σ' := σ) (L' := [some (.ref 26), some (.int hr), some (.int pl), some (.int sz), some (.int ((hr * 8) + pl)), some (.int ((sz * 24) + (σ 26 12)))]) (st' := [.int ((sz * 24) + (σ 26 12)), .int (σ 31 j3)]) (g_c dX0_harmOn_26 g_n) rfl rfl ?_
  refine V_icmp_eq C (tgt := 82) dX0_harmOn_28 (by decide) (fun h5 => ?_) (fun h5 => ?_)
  · skip
    have p6 := p1.1 h5
    refine V_blk C (pc' := 88) (σ' := σ) (L' := [some (.ref 26), some (.int hr), some (.int pl), some (.int sz), some (.int ((hr * 8) + pl)), some (.int ((sz * 24) + (σ 26 12)))]) (st' := [.int ((hr * 8) + pl), .ref 32]) (g_c dX0_harmOn_82 (g_c dX0_harmOn_83 (g_c dX0_harmOn_86 g_n))) rfl rfl ?_
    refine V_ialdJ C (j := j3) (k := 32) (n := 192) (by rfl) (by rfl) e4 ⟨(by omega), (by omega)⟩ dX0_harmOn_88 ?_
    refine V_iret C dX0_harmOn_89 ?_
    exact p6
  · skip
    have p7 := p1.2 h5
    refine V_blk C (pc' := 39) (σ' := σ) (L' := [some (.ref 26), some (.int hr), some (.int pl), some (.int sz), some (.int ((hr * 8) + pl)), some (.int ((sz * 24) + (σ 26 12)))]) (st' := [.int ((sz * 24) + (σ 26 12)), .int ((hr * 8) + pl), .ref 31]) (g_c dX0_harmOn_31 (g_c dX0_harmOn_32 (g_c dX0_harmOn_35 (g_c dX0_harmOn_37 g_n)))) rfl rfl ?_
    refine V_iastJ C (j := j3) (k := 31) (n := 192) (by rfl) (by rfl) e4 ⟨(by omega), (by omega)⟩ dX0_harmOn_39 ?_
    refine V_blk C (pc' := 52) (σ' := (g_up σ 31 j3 ((sz * 24) + (σ 26 12)))) (L' := [some (.ref 26), some (.int hr), some (.int pl), some (.int sz), some (.int ((hr * 8) + pl)), some (.int ((sz * 24) + (σ 26 12)))]) (st' := [.int hr, .ref 34, .ref 23]) (g_c dX0_harmOn_40 (g_c dX0_harmOn_41 (g_c dX0_harmOn_44 (g_c dX0_harmOn_45 (g_c dX0_harmOn_48 (g_c dX0_harmOn_51 g_n)))))) rfl rfl ?_
    obtain ⟨j10, e11, l9, p8⟩ := p7
    refine V_ialdJ C (j := j10) (k := 34) (n := 24) (by rfl) (by rfl) e11 ⟨(by omega), (by omega)⟩ dX0_harmOn_52 ?_
    refine V_eq rfl rfl (st' := [.int (σ 34 j10), .ref 23]) (by simp [g_up]) ?_
    refine V_blk C (pc' := 61) (σ' := (g_up σ 31 j3 ((sz * 24) + (σ 26 12)))) (L' := [some (.ref 26), some (.int hr), some (.int pl), some (.int sz), some (.int ((hr * 8) + pl)), some (.int ((sz * 24) + (σ 26 12)))]) (st' := [.int (σ 26 12), .int sz, .int 0, .int pl, .int hr, .int (σ 34 j10), .ref 23]) (g_c dX0_harmOn_53 (g_c dX0_harmOn_54 (g_c dX0_harmOn_55 (g_c dX0_harmOn_56 (g_c dX0_harmOn_57 (g_c dX0_harmOn_58 g_n)))))) rfl rfl ?_
    refine V_gV C cv_X0_122 p8 ⟨_, _, _, _, rfl, rfl⟩ (by rfl) (by decide) (As := [.int (σ 34 j10), .int hr, .int pl, .int 0, .int sz, .int (σ 26 12)]) (rest := []) rfl rfl (Nat.le_of_ble_eq_true rfl) dX0_harmOn_61 (fun rv s12 hq => ?_)
    obtain ⟨rfl, p13⟩ := hq
    refine V_blk C (pc' := 78) (σ' := s12) (L' := [some (.ref 26), some (.int hr), some (.int pl), some (.int sz), some (.int ((hr * 8) + pl)), some (.int ((sz * 24) + (σ 26 12)))]) (st' := [.int 999, .int 1, .ref 23, .int ((hr * 8) + pl), .ref 32]) (g_c dX0_harmOn_64 (g_c dX0_harmOn_65 (g_c dX0_harmOn_68 (g_c dX0_harmOn_70 (g_c dX0_harmOn_71 (g_c dX0_harmOn_74 (g_c dX0_harmOn_75 g_n))))))) rfl rfl ?_
    refine V_gV C cv_X0_128 p13 ⟨_, _, _, _, rfl, rfl⟩ (by rfl) (by decide) (As := [.int 1, .int 999]) (rest := [.int ((hr * 8) + pl), .ref 32]) rfl rfl (Nat.le_of_ble_eq_true rfl) dX0_harmOn_78 (fun rv s14 hq => ?_)
    obtain ⟨r16, rfl, p15⟩ := hq
    refine V_iastJ C (j := j3) (k := 32) (n := 192) (by rfl) (by rfl) e4 ⟨(by omega), (by omega)⟩ dX0_harmOn_81 ?_
    refine V_blk C (pc' := 88) (σ' := (g_up s14 32 j3 r16)) (L' := [some (.ref 26), some (.int hr), some (.int pl), some (.int sz), some (.int ((hr * 8) + pl)), some (.int ((sz * 24) + (σ 26 12)))]) (st' := [.int ((hr * 8) + pl), .ref 32]) (g_c dX0_harmOn_82 (g_c dX0_harmOn_83 (g_c dX0_harmOn_86 g_n))) rfl rfl ?_
    refine V_ialdJ C (j := j3) (k := 32) (n := 192) (by rfl) (by rfl) e4 ⟨(by omega), (by omega)⟩ dX0_harmOn_88 ?_
    refine V_eq rfl rfl (st' := [.int r16]) (by simp [g_up]) ?_
    refine V_iret C dX0_harmOn_89 ?_
    exact p15
set_option maxRecDepth 100000 in
def P_X5_begin (h : Nat)  (σ : gS) (Qp : Option Value → gS → Prop) : Prop :=
  (∃ I2 : Nat → Int32 → gS → Prop, (∃ k7 : Nat, I2 k7 0 (g_cp σ 2 34 0 0 24)) ∧ ∀ (k4 : Nat) (v1 : Int32) (s10 : gS), I2 k4 v1 s10 → (((v1 : Int32) < 6 → (∃ j18 : Nat, v1 = nI j18 ∧ j18 < 6 ∧ (∃ k20 : Nat, k20 < k4 ∧ I2 k20 (v1 + 1) (g_up s10 35 j18 (if (v1 : Int32) < (s10 1 8) then 1 else 0))))) ∧ (¬ (v1 : Int32) < 6 → (Qp none (g_up (g_up s10 33 4 (-1)) 33 5 (-1))))))
set_option maxHeartbeats 4000000 in
set_option maxRecDepth 100000 in
theorem w_X5_begin {h : Nat} (hh : 6 ≤ h)  {σ : gS} {Qp : Option Value → gS → Prop} (P : P_X5_begin h  σ Qp) : g_Met yX5_begin cX5_begin 2 none h kX [.ref 33] σ Qp := by
  unfold P_X5_begin at P
  refine g_Met.of (own := 5) (L := [some (.ref 33), none]) (by decide) rfl rfl (fun ad => Nat.le_of_ble_eq_true rfl) (fun ad => rfl) (fun X G K C => ?_)
  refine V_blk C (pc' := 15) (σ' := σ) (L' := [some (.ref 33), none]) (st' := [.int 24, .int 0, .ref 34, .int 0, .ref 2]) (g_c dX5_begin_0 (g_c dX5_begin_1 (g_c dX5_begin_4 (g_c dX5_begin_7 (g_c dX5_begin_8 (g_c dX5_begin_9 (g_c dX5_begin_12 (g_c dX5_begin_13 g_n)))))))) rfl rfl ?_
  refine V_copy C (ks := 2) (kd := 34) (ns := 24) (nd := 24) (sp := 0) (dp := 0) (n := 24) ca_X5_32 (by rfl) (by rfl) (by rfl) (by rfl) (by rfl) (by rfl) (by rfl) (by decide) (by decide) (by omega) (by decide) dX5_begin_15 ?_
  refine V_blk C (pc' := 20) (σ' := (g_cp σ 2 34 0 0 24)) (L' := [some (.ref 33), some (.int 0)]) (st' := []) (g_c dX5_begin_18 (g_c dX5_begin_19 g_n)) rfl rfl ?_
  obtain ⟨I2, ⟨k7, hI9⟩, hS6⟩ := P
  have lp8 : ∀ (k4 : Nat) (v1 : Int32) (s10 : gS), I2 k4 v1 s10 → gV X G K 2 Qp s10 [some (.ref 33), some (.int v1)] [] 20 := by
    intro k4
    induction k4 using Nat.strongRecOn with
    | ind k4 ih3 =>
      intro v1 s10 hI5
      have p11 := hS6 k4 v1 s10 hI5
      refine V_blk C (pc' := 23) (σ' := s10) (L' := [some (.ref 33), some (.int v1)]) (st' := [.int 6, .int v1]) (g_c dX5_begin_20 (g_c dX5_begin_21 g_n)) rfl rfl ?_
      refine V_icmp_ge2 C (tgt := 54) dX5_begin_23 (by decide) (fun h12 => ?_) (fun h12 => ?_)
      · skip
        have p13 := p11.2 h12
        refine V_blk C (pc' := 64) (σ' := (g_up (g_up s10 33 4 (-1)) 33 5 (-1))) (L' := [some (.ref 33), some (.int v1)]) (st' := []) (g_c dX5_begin_54 (g_c dX5_begin_55 (g_c dX5_begin_56 (g_c dX5_begin_59 (g_c dX5_begin_60 (g_c dX5_begin_61 g_n)))))) rfl rfl ?_
        refine V_vret C dX5_begin_64 ?_
        exact p13
      · skip
        have p14 := p11.1 h12
        refine V_blk C (pc' := 39) (σ' := s10) (L' := [some (.ref 33), some (.int v1)]) (st' := [.int (s10 1 8), .int v1, .int v1, .ref 35]) (g_c dX5_begin_26 (g_c dX5_begin_27 (g_c dX5_begin_30 (g_c dX5_begin_31 (g_c dX5_begin_32 (g_c dX5_begin_33 (g_c dX5_begin_36 g_n))))))) rfl rfl ?_
        refine V_join (P := (v1 : Int32) < (s10 1 8)) (a := 1) (b := 0) (pcJ := 47) (rest := [.int v1, .ref 35]) (fun x_ hx_ => ?_) (fun kT kF => ?_)
        · skip
          subst hx_
          obtain ⟨j18, e19, l17, p16⟩ := p14
          refine V_iastJ C (j := j18) (k := 35) (n := 6) (by rfl) (by rfl) e19 ⟨(by omega), (by omega)⟩ dX5_begin_47 ?_
          refine V_blk C (pc' := 51) (σ' := (g_up s10 35 j18 (if (v1 : Int32) < (s10 1 8) then 1 else 0))) (L' := [some (.ref 33), some (.int (v1 + 1))]) (st' := []) (g_c dX5_begin_48 g_n) rfl rfl ?_
          refine V_goto C (tgt := 20) dX5_begin_51 (by decide) ?_
          obtain ⟨k20, hkk20, hIk20⟩ := p16
          exact ih3 k20 hkk20 (v1 + 1) (g_up s10 35 j18 (if (v1 : Int32) < (s10 1 8) then 1 else 0)) hIk20
        · refine V_icmp_ge2 C (tgt := 46) dX5_begin_39 (by decide) (fun h15 => ?_) (fun h15 => ?_)
          · skip
            refine V_blk C (pc' := 47) (σ' := s10) (L' := [some (.ref 33), some (.int v1)]) (st' := [.int 0, .int v1, .ref 35]) (g_c dX5_begin_46 g_n) rfl rfl ?_
            exact kF h15
          · skip
            refine V_blk C (pc' := 43) (σ' := s10) (L' := [some (.ref 33), some (.int v1)]) (st' := [.int 1, .int v1, .ref 35]) (g_c dX5_begin_42 g_n) rfl rfl ?_
            refine V_goto C (tgt := 47) dX5_begin_43 (by decide) ?_
            exact kT h15
  exact lp8 k7 0 (g_cp σ 2 34 0 0 24) hI9
set_option maxRecDepth 100000 in
def P_X5_repeat (h : Nat) (d : Int32) (n : Int32) (σ : gS) (Qp : Option Value → gS → Prop) : Prop :=
  ((g_in d 0 5 → (∃ j6 : Nat, d = nI j6 ∧ j6 < 6 ∧ (Qp none (g_up σ 35 j6 n)))) ∧ (¬ g_in d 0 5 → (Qp none σ)))
set_option maxHeartbeats 4000000 in
set_option maxRecDepth 100000 in
theorem w_X5_repeat {h : Nat} (hh : 6 ≤ h) {d : Int32} {n : Int32} {σ : gS} {Qp : Option Value → gS → Prop} (P : P_X5_repeat h d n σ Qp) : g_Met yX5_repeat cX5_repeat 3 none h kX [.ref 33, .int d, .int n] σ Qp := by
  unfold P_X5_repeat at P
  refine g_Met.of (own := 5) (L := [some (.ref 33), some (.int d), some (.int n)]) (by decide) rfl rfl (fun ad => Nat.le_of_ble_eq_true rfl) (fun ad => rfl) (fun X G K C => ?_)
  refine V_blk C (pc' := 3) (σ' := σ) (L' := [some (.ref 33), some (.int d), some (.int n)]) (st' := [.int 5, .int 0, .int d]) (g_c dX5_repeat_0 (g_c dX5_repeat_1 (g_c dX5_repeat_2 g_n))) rfl rfl ?_
  refine V_callNI C cn_X5_48 (c_X7_isIn σ d 0 5) (by omega) (by decide) (fun _ h => h) (As := [.int d, .int 0, .int 5]) (rest := []) rfl rfl (Nat.le_of_ble_eq_true rfl) dX5_repeat_3 ?_
  refine V_if_eq_b C (tgt := 16) dX5_repeat_6 (by decide) (fun h1 => ?_) (fun h1 => ?_)
  · skip
    have p2 := P.2 h1
    refine V_vret C dX5_repeat_16 ?_
    exact p2
  · skip
    have p3 := P.1 h1
    refine V_blk C (pc' := 15) (σ' := σ) (L' := [some (.ref 33), some (.int d), some (.int n)]) (st' := [.int n, .int d, .ref 35]) (g_c dX5_repeat_9 (g_c dX5_repeat_10 (g_c dX5_repeat_13 (g_c dX5_repeat_14 g_n)))) rfl rfl ?_
    obtain ⟨j6, e7, l5, p4⟩ := p3
    refine V_iastJ C (j := j6) (k := 35) (n := 6) (by rfl) (by rfl) e7 ⟨(by omega), (by omega)⟩ dX5_repeat_15 ?_
    refine V_vret C dX5_repeat_16 ?_
    exact p4
set_option maxRecDepth 100000 in
def P_X5_keep (h : Nat) (set_ : Int32) (σ : gS) (Qp : Option Value → gS → Prop) : Prop :=
  (∃ I2 : Nat → Int32 → gS → Prop, (∃ k7 : Nat, I2 k7 0 σ) ∧ ∀ (k4 : Nat) (v1 : Int32) (s10 : gS), I2 k4 v1 s10 → (((v1 : Int32) < 6 → (((((set_ >>> (v1 &&& 31)) &&& 1) : Int32) = 0 → (∃ j21 : Nat, v1 = nI j21 ∧ j21 < 6 ∧ (∃ k23 : Nat, k23 < k4 ∧ I2 k23 (v1 + 1) (g_up s10 35 j21 0)))) ∧ (¬ (((set_ >>> (v1 &&& 31)) &&& 1) : Int32) = 0 → (∃ k17 : Nat, k17 < k4 ∧ I2 k17 (v1 + 1) s10)))) ∧ (¬ (v1 : Int32) < 6 → (Qp none s10))))
set_option maxHeartbeats 4000000 in
set_option maxRecDepth 100000 in
theorem w_X5_keep {h : Nat} (hh : 6 ≤ h) {set_ : Int32} {σ : gS} {Qp : Option Value → gS → Prop} (P : P_X5_keep h set_ σ Qp) : g_Met yX5_keep cX5_keep 3 none h kX [.ref 33, .int set_] σ Qp := by
  unfold P_X5_keep at P
  refine g_Met.of (own := 5) (L := [some (.ref 33), some (.int set_), none]) (by decide) rfl rfl (fun ad => Nat.le_of_ble_eq_true rfl) (fun ad => rfl) (fun X G K C => ?_)
  refine V_blk C (pc' := 2) (σ' := σ) (L' := [some (.ref 33), some (.int set_), some (.int 0)]) (st' := []) (g_c dX5_keep_0 (g_c dX5_keep_1 g_n)) rfl rfl ?_
  obtain ⟨I2, ⟨k7, hI9⟩, hS6⟩ := P
  have lp8 : ∀ (k4 : Nat) (v1 : Int32) (s10 : gS), I2 k4 v1 s10 → gV X G K 3 Qp s10 [some (.ref 33), some (.int set_), some (.int v1)] [] 2 := by
    intro k4
    induction k4 using Nat.strongRecOn with
    | ind k4 ih3 =>
      intro v1 s10 hI5
      have p11 := hS6 k4 v1 s10 hI5
      refine V_blk C (pc' := 5) (σ' := s10) (L' := [some (.ref 33), some (.int set_), some (.int v1)]) (st' := [.int 6, .int v1]) (g_c dX5_keep_2 (g_c dX5_keep_3 g_n)) rfl rfl ?_
      refine V_icmp_ge2 C (tgt := 29) dX5_keep_5 (by decide) (fun h12 => ?_) (fun h12 => ?_)
      · skip
        have p13 := p11.2 h12
        refine V_vret C dX5_keep_29 ?_
        exact p13
      · skip
        have p14 := p11.1 h12
        refine V_blk C (pc' := 13) (σ' := s10) (L' := [some (.ref 33), some (.int set_), some (.int v1)]) (st' := [.int ((set_ >>> (v1 &&& 31)) &&& 1)]) (g_c dX5_keep_8 (g_c dX5_keep_9 (g_c dX5_keep_10 (g_c dX5_keep_11 (g_c dX5_keep_12 g_n))))) rfl rfl ?_
        refine V_if_ne C (tgt := 23) dX5_keep_13 (by decide) (fun h15 => ?_) (fun h15 => ?_)
        · skip
          have p16 := p14.2 h15
          refine V_blk C (pc' := 26) (σ' := s10) (L' := [some (.ref 33), some (.int set_), some (.int (v1 + 1))]) (st' := []) (g_c dX5_keep_23 g_n) rfl rfl ?_
          refine V_goto C (tgt := 2) dX5_keep_26 (by decide) ?_
          obtain ⟨k17, hkk17, hIk17⟩ := p16
          exact ih3 k17 hkk17 (v1 + 1) s10 hIk17
        · skip
          have p18 := p14.1 h15
          refine V_blk C (pc' := 22) (σ' := s10) (L' := [some (.ref 33), some (.int set_), some (.int v1)]) (st' := [.int 0, .int v1, .ref 35]) (g_c dX5_keep_16 (g_c dX5_keep_17 (g_c dX5_keep_20 (g_c dX5_keep_21 g_n)))) rfl rfl ?_
          obtain ⟨j21, e22, l20, p19⟩ := p18
          refine V_iastJ C (j := j21) (k := 35) (n := 6) (by rfl) (by rfl) e22 ⟨(by omega), (by omega)⟩ dX5_keep_22 ?_
          refine V_blk C (pc' := 26) (σ' := (g_up s10 35 j21 0)) (L' := [some (.ref 33), some (.int set_), some (.int (v1 + 1))]) (st' := []) (g_c dX5_keep_23 g_n) rfl rfl ?_
          refine V_goto C (tgt := 2) dX5_keep_26 (by decide) ?_
          obtain ⟨k23, hkk23, hIk23⟩ := p19
          exact ih3 k23 hkk23 (v1 + 1) (g_up s10 35 j21 0) hIk23
  exact lp8 k7 0 σ hI9
set_option maxRecDepth 100000 in
def P_X5_steer (h : Nat) (d : Int32) (pl : Int32) (σ : gS) (Qp : Option Value → gS → Prop) : Prop :=
  (Qp none (g_up (g_up σ 33 4 d) 33 5 pl))
set_option maxHeartbeats 4000000 in
set_option maxRecDepth 100000 in
theorem w_X5_steer {h : Nat} (hh : 6 ≤ h) {d : Int32} {pl : Int32} {σ : gS} {Qp : Option Value → gS → Prop} (P : P_X5_steer h d pl σ Qp) : g_Met yX5_steer cX5_steer 3 none h kX [.ref 33, .int d, .int pl] σ Qp := by
  unfold P_X5_steer at P
  refine g_Met.of (own := 5) (L := [some (.ref 33), some (.int d), some (.int pl)]) (by decide) rfl rfl (fun ad => Nat.le_of_ble_eq_true rfl) (fun ad => rfl) (fun X G K C => ?_)
  refine V_blk C (pc' := 10) (σ' := (g_up (g_up σ 33 4 d) 33 5 pl)) (L' := [some (.ref 33), some (.int d), some (.int pl)]) (st' := []) (g_c dX5_steer_0 (g_c dX5_steer_1 (g_c dX5_steer_2 (g_c dX5_steer_5 (g_c dX5_steer_6 (g_c dX5_steer_7 g_n)))))) rfl rfl ?_
  refine V_vret C dX5_steer_10 ?_
  exact P
set_option maxRecDepth 100000 in
def P_X5_draw (h : Nat) (seed : Int32) (σ : gS) (Qp : Option Value → gS → Prop) : Prop :=
  (∃ I3 : Nat → Int32 → Int32 → gS → Prop, (∃ k8 : Nat, I3 k8 seed 0 σ) ∧ ∀ (k5 : Nat) (v1 : Int32) (v2 : Int32) (s11 : gS), I3 k5 v1 v2 s11 → (((v2 : Int32) < 24 → (∃ j18 : Nat, v2 = nI j18 ∧ j18 < 24 ∧ (∃ k20 : Nat, k20 < k5 ∧ I3 k20 ((v1 * 1103515245) + 12345) (v2 + 1) (g_up s11 34 j18 ((Int32.toUInt32 ((v1 * 1103515245) + 12345) >>> (Int32.toUInt32 9 &&& Int32.toUInt32 31)).toInt32 - (Int32.toUInt32 ((v1 * 1103515245) + 12345) >>> (Int32.toUInt32 9 &&& Int32.toUInt32 31)).toInt32 / 10 * 10))))) ∧ (¬ (v2 : Int32) < 24 → (Qp none s11))))
set_option maxHeartbeats 4000000 in
set_option maxRecDepth 100000 in
theorem w_X5_draw {h : Nat} (hh : 6 ≤ h) {seed : Int32} {σ : gS} {Qp : Option Value → gS → Prop} (P : P_X5_draw h seed σ Qp) : g_Met yX5_draw cX5_draw 4 none h kX [.ref 33, .int seed] σ Qp := by
  unfold P_X5_draw at P
  refine g_Met.of (own := 5) (L := [some (.ref 33), some (.int seed), none, none]) (by decide) rfl rfl (fun ad => Nat.le_of_ble_eq_true rfl) (fun ad => rfl) (fun X G K C => ?_)
  refine V_blk C (pc' := 4) (σ' := σ) (L' := [some (.ref 33), some (.int seed), some (.int seed), some (.int 0)]) (st' := []) (g_c dX5_draw_0 (g_c dX5_draw_1 (g_c dX5_draw_2 (g_c dX5_draw_3 g_n)))) rfl rfl ?_
  refine V_less (L' := [some (.ref 33), none, some (.int seed), some (.int 0)]) (by simp [g_subL]) ?_
  obtain ⟨I3, ⟨k8, hI10⟩, hS7⟩ := P
  have lp9 : ∀ (k5 : Nat) (v1 : Int32) (v2 : Int32) (s11 : gS), I3 k5 v1 v2 s11 → gV X G K 4 Qp s11 [some (.ref 33), none, some (.int v1), some (.int v2)] [] 4 := by
    intro k5
    induction k5 using Nat.strongRecOn with
    | ind k5 ih4 =>
      intro v1 v2 s11 hI6
      have p12 := hS7 k5 v1 v2 s11 hI6
      refine V_blk C (pc' := 7) (σ' := s11) (L' := [some (.ref 33), none, some (.int v1), some (.int v2)]) (st' := [.int 24, .int v2]) (g_c dX5_draw_4 (g_c dX5_draw_5 g_n)) rfl rfl ?_
      refine V_icmp_ge2 C (tgt := 38) dX5_draw_7 (by decide) (fun h13 => ?_) (fun h13 => ?_)
      · skip
        have p14 := p12.2 h13
        refine V_vret C dX5_draw_38 ?_
        exact p14
      · skip
        have p15 := p12.1 h13
        refine V_blk C (pc' := 30) (σ' := s11) (L' := [some (.ref 33), none, some (.int ((v1 * 1103515245) + 12345)), some (.int v2)]) (st' := [.int 10, .int (Int32.toUInt32 ((v1 * 1103515245) + 12345) >>> (Int32.toUInt32 9 &&& Int32.toUInt32 31)).toInt32, .int v2, .ref 34]) (g_c dX5_draw_10 (g_c dX5_draw_11 (g_c dX5_draw_13 (g_c dX5_draw_14 (g_c dX5_draw_17 (g_c dX5_draw_18 (g_c dX5_draw_19 (g_c dX5_draw_20 (g_c dX5_draw_23 (g_c dX5_draw_24 (g_c dX5_draw_25 (g_c dX5_draw_27 (g_c dX5_draw_28 g_n))))))))))))) rfl rfl ?_
        refine V_irem C (by decide) dX5_draw_30 ?_
        obtain ⟨j18, e19, l17, p16⟩ := p15
        refine V_iastJ C (j := j18) (k := 34) (n := 24) (by rfl) (by rfl) e19 ⟨(by omega), (by omega)⟩ dX5_draw_31 ?_
        refine V_blk C (pc' := 35) (σ' := (g_up s11 34 j18 ((Int32.toUInt32 ((v1 * 1103515245) + 12345) >>> (Int32.toUInt32 9 &&& Int32.toUInt32 31)).toInt32 - (Int32.toUInt32 ((v1 * 1103515245) + 12345) >>> (Int32.toUInt32 9 &&& Int32.toUInt32 31)).toInt32 / 10 * 10))) (L' := [some (.ref 33), none, some (.int ((v1 * 1103515245) + 12345)), some (.int (v2 + 1))]) (st' := []) (g_c dX5_draw_32 g_n) rfl rfl ?_
        refine V_goto C (tgt := 4) dX5_draw_35 (by decide) ?_
        obtain ⟨k20, hkk20, hIk20⟩ := p16
        exact ih4 k20 hkk20 ((v1 * 1103515245) + 12345) (v2 + 1) (g_up s11 34 j18 ((Int32.toUInt32 ((v1 * 1103515245) + 12345) >>> (Int32.toUInt32 9 &&& Int32.toUInt32 31)).toInt32 - (Int32.toUInt32 ((v1 * 1103515245) + 12345) >>> (Int32.toUInt32 9 &&& Int32.toUInt32 31)).toInt32 / 10 * 10)) hIk20
  exact lp9 k8 seed 0 σ hI10
set_option maxRecDepth 100000 in
def P_X5_lay (h : Nat)  (σ : gS) (Qp : Option Value → gS → Prop) : Prop :=
  (∃ I2 : Nat → Int32 → gS → Prop, (∃ k7 : Nat, I2 k7 0 σ) ∧ ∀ (k4 : Nat) (v1 : Int32) (s10 : gS), I2 k4 v1 s10 → (((v1 : Int32) < 192 → (∃ j80 : Nat, v1 = nI j80 ∧ j80 < 192 ∧ (∃ k82 : Nat, k82 < k4 ∧ I2 k82 (v1 + 1) (g_up s10 36 j80 0)))) ∧ (¬ (v1 : Int32) < 192 → (∃ I15 : Nat → Int32 → gS → Prop, (∃ k20 : Nat, I15 k20 0 s10) ∧ ∀ (k17 : Nat) (v14 : Int32) (s23 : gS), I15 k17 v14 s23 → (((v14 : Int32) < 6 → (∃ I29 : Nat → Int32 → gS → Prop, (∃ k34 : Nat, I29 k34 0 s23) ∧ ∀ (k31 : Nat) (v28 : Int32) (s37 : gS), I29 k31 v28 s37 → (((v28 : Int32) < 24 → (∃ j45 : Nat, v14 = nI j45 ∧ j45 < 6 ∧ (((0 : Int32) < (s37 35 j45) → (∃ J53 : Int32 → gS → Prop, (((v14 : Int32) = (s37 33 4) → (J53 (s37 33 5) s37)) ∧ (¬ (v14 : Int32) = (s37 33 4) → (g_call yX5_where cX5_where 4 (some .int) kX h [.ref 33, .int v14, .int v28] s37 (fun rv s73 => ∃ r75 : Int32, rv = some (.int r75) ∧ (J53 r75 s73))))) ∧ ∀ (v51 : Int32) (s52 : gS), J53 v51 s52 → ((g_in v51 0 7 → (∃ j65 : Nat, ((v28 * 8) + v51) = nI j65 ∧ j65 < 192 ∧ (g_call yX5_amount cX5_amount 6 (some .int) kX h [.ref 33, .int v14, .int v28, .int v51] s52 (fun rv s67 => ∃ r69 : Int32, rv = some (.int r69) ∧ (∃ k70 : Nat, k70 < k31 ∧ I29 k70 (v28 + 1) (g_up s67 36 j65 ((s52 36 j65) + ((s52 35 j45) * r69)))))))) ∧ (¬ g_in v51 0 7 → (∃ k61 : Nat, k61 < k31 ∧ I29 k61 (v28 + 1) s52))))) ∧ (¬ (0 : Int32) < (s37 35 j45) → (∃ k49 : Nat, k49 < k17 ∧ I15 k49 (v14 + 1) s37))))) ∧ (¬ (v28 : Int32) < 24 → (∃ k41 : Nat, k41 < k17 ∧ I15 k41 (v14 + 1) s37))))) ∧ (¬ (v14 : Int32) < 6 → (Qp none s23)))))))
set_option maxHeartbeats 4000000 in
set_option maxRecDepth 100000 in
theorem w_X5_lay {h : Nat} (hh : 6 ≤ h)  {σ : gS} {Qp : Option Value → gS → Prop} (P : P_X5_lay h  σ Qp) : g_Met yX5_lay cX5_lay 4 none h kX [.ref 33] σ Qp := by
  unfold P_X5_lay at P
  refine g_Met.of (own := 5) (L := [some (.ref 33), none, none, none]) (by decide) rfl rfl (fun ad => Nat.le_of_ble_eq_true rfl) (fun ad => rfl) (fun X G K C => ?_)
  refine V_blk C (pc' := 2) (σ' := σ) (L' := [some (.ref 33), some (.int 0), none, none]) (st' := []) (g_c dX5_lay_0 (g_c dX5_lay_1 g_n)) rfl rfl ?_
  obtain ⟨I2, ⟨k7, hI9⟩, hS6⟩ := P
  have lp8 : ∀ (k4 : Nat) (v1 : Int32) (s10 : gS), I2 k4 v1 s10 → gV X G K 4 Qp s10 [some (.ref 33), some (.int v1), none, none] [] 2 := by
    intro k4
    induction k4 using Nat.strongRecOn with
    | ind k4 ih3 =>
      intro v1 s10 hI5
      have p11 := hS6 k4 v1 s10 hI5
      refine V_blk C (pc' := 6) (σ' := s10) (L' := [some (.ref 33), some (.int v1), none, none]) (st' := [.int 192, .int v1]) (g_c dX5_lay_2 (g_c dX5_lay_3 g_n)) rfl rfl ?_
      refine V_icmp_ge2 C (tgt := 22) dX5_lay_6 (by decide) (fun h12 => ?_) (fun h12 => ?_)
      · skip
        have p13 := p11.2 h12
        refine V_blk C (pc' := 24) (σ' := s10) (L' := [some (.ref 33), some (.int 0), none, none]) (st' := []) (g_c dX5_lay_22 (g_c dX5_lay_23 g_n)) rfl rfl ?_
        obtain ⟨I15, ⟨k20, hI22⟩, hS19⟩ := p13
        have lp21 : ∀ (k17 : Nat) (v14 : Int32) (s23 : gS), I15 k17 v14 s23 → gV X G K 4 Qp s23 [some (.ref 33), some (.int v14), none, none] [] 24 := by
          intro k17
          induction k17 using Nat.strongRecOn with
          | ind k17 ih16 =>
            intro v14 s23 hI18
            have p24 := hS19 k17 v14 s23 hI18
            refine V_blk C (pc' := 27) (σ' := s23) (L' := [some (.ref 33), some (.int v14), none, none]) (st' := [.int 6, .int v14]) (g_c dX5_lay_24 (g_c dX5_lay_25 g_n)) rfl rfl ?_
            refine V_icmp_ge2 C (tgt := 116) dX5_lay_27 (by decide) (fun h25 => ?_) (fun h25 => ?_)
            · skip
              have p26 := p24.2 h25
              refine V_vret C dX5_lay_116 ?_
              exact p26
            · skip
              have p27 := p24.1 h25
              refine V_blk C (pc' := 32) (σ' := s23) (L' := [some (.ref 33), some (.int v14), some (.int 0), none]) (st' := []) (g_c dX5_lay_30 (g_c dX5_lay_31 g_n)) rfl rfl ?_
              obtain ⟨I29, ⟨k34, hI36⟩, hS33⟩ := p27
              have lp35 : ∀ (k31 : Nat) (v28 : Int32) (s37 : gS), I29 k31 v28 s37 → gV X G K 4 Qp s37 [some (.ref 33), some (.int v14), some (.int v28), none] [] 32 := by
                intro k31
                induction k31 using Nat.strongRecOn with
                | ind k31 ih30 =>
                  intro v28 s37 hI32
                  have p38 := hS33 k31 v28 s37 hI32
                  refine V_blk C (pc' := 35) (σ' := s37) (L' := [some (.ref 33), some (.int v14), some (.int v28), none]) (st' := [.int 24, .int v28]) (g_c dX5_lay_32 (g_c dX5_lay_33 g_n)) rfl rfl ?_
                  refine V_icmp_ge2 C (tgt := 110) dX5_lay_35 (by decide) (fun h39 => ?_) (fun h39 => ?_)
                  · skip
                    have p40 := p38.2 h39
                    refine V_blk C (pc' := 113) (σ' := s37) (L' := [some (.ref 33), some (.int (v14 + 1)), some (.int v28), none]) (st' := []) (g_c dX5_lay_110 g_n) rfl rfl ?_
                    refine V_goto C (tgt := 24) dX5_lay_113 (by decide) ?_
                    refine V_less (L' := [some (.ref 33), some (.int (v14 + 1)), none, none]) (by simp [g_subL]) ?_
                    obtain ⟨k41, hkk41, hIk41⟩ := p40
                    exact ih16 k41 hkk41 (v14 + 1) s37 hIk41
                  · skip
                    have p42 := p38.1 h39
                    refine V_blk C (pc' := 43) (σ' := s37) (L' := [some (.ref 33), some (.int v14), some (.int v28), none]) (st' := [.int v14, .ref 35]) (g_c dX5_lay_38 (g_c dX5_lay_39 (g_c dX5_lay_42 g_n))) rfl rfl ?_
                    obtain ⟨j45, e46, l44, p43⟩ := p42
                    refine V_ialdJ C (j := j45) (k := 35) (n := 6) (by rfl) (by rfl) e46 ⟨(by omega), (by omega)⟩ dX5_lay_43 ?_
                    refine V_if_le2 C (tgt := 110) dX5_lay_44 (by decide) (fun h47 => ?_) (fun h47 => ?_)
                    · skip
                      have p48 := p43.2 h47
                      refine V_blk C (pc' := 113) (σ' := s37) (L' := [some (.ref 33), some (.int (v14 + 1)), some (.int v28), none]) (st' := []) (g_c dX5_lay_110 g_n) rfl rfl ?_
                      refine V_goto C (tgt := 24) dX5_lay_113 (by decide) ?_
                      refine V_less (L' := [some (.ref 33), some (.int (v14 + 1)), none, none]) (by simp [g_subL]) ?_
                      obtain ⟨k49, hkk49, hIk49⟩ := p48
                      exact ih16 k49 hkk49 (v14 + 1) s37 hIk49
                    · skip
                      have p50 := p43.1 h47
                      refine V_blk C (pc' := 52) (σ' := s37) (L' := [some (.ref 33), some (.int v14), some (.int v28), none]) (st' := [.int (s37 33 4), .int v14]) (g_c dX5_lay_47 (g_c dX5_lay_48 (g_c dX5_lay_49 g_n))) rfl rfl ?_
                      obtain ⟨J53, p55, p56⟩ := p50
                      have jn54 : ∀ (v51 : Int32) (s52 : gS) (_ : J53 v51 s52), gV X G K 4 Qp s52 [some (.ref 33), some (.int v14), some (.int v28), none] [.int v51] 68 := by
                        intro v51 s52 hJ57
                        have p58 := p56 v51 s52 hJ57
                        refine V_blk C (pc' := 70) (σ' := s52) (L' := [some (.ref 33), some (.int v14), some (.int v28), some (.int v51)]) (st' := [.int v51]) (g_c dX5_lay_68 (g_c dX5_lay_69 g_n)) rfl rfl ?_
                        refine V_callNI C cn_X5_57 (c_X7_isPlace s52 v51) (by omega) (by decide) (fun _ h => h) (As := [.int v51]) (rest := []) rfl rfl (Nat.le_of_ble_eq_true rfl) dX5_lay_70 ?_
                        refine V_if_eq_b C (tgt := 104) dX5_lay_73 (by decide) (fun h59 => ?_) (fun h59 => ?_)
                        · skip
                          have p60 := p58.2 h59
                          refine V_blk C (pc' := 107) (σ' := s52) (L' := [some (.ref 33), some (.int v14), some (.int (v28 + 1)), some (.int v51)]) (st' := []) (g_c dX5_lay_104 g_n) rfl rfl ?_
                          refine V_goto C (tgt := 32) dX5_lay_107 (by decide) ?_
                          refine V_less (L' := [some (.ref 33), some (.int v14), some (.int (v28 + 1)), none]) (by simp [g_subL]) ?_
                          obtain ⟨k61, hkk61, hIk61⟩ := p60
                          exact ih30 k61 hkk61 (v28 + 1) s52 hIk61
                        · skip
                          have p62 := p58.1 h59
                          refine V_blk C (pc' := 87) (σ' := s52) (L' := [some (.ref 33), some (.int v14), some (.int v28), some (.int v51)]) (st' := [.int ((v28 * 8) + v51), .ref 36, .int ((v28 * 8) + v51), .ref 36]) (g_c dX5_lay_76 (g_c dX5_lay_77 (g_c dX5_lay_80 (g_c dX5_lay_81 (g_c dX5_lay_83 (g_c dX5_lay_84 (g_c dX5_lay_85 (g_c dX5_lay_86 g_n)))))))) rfl rfl ?_
                          obtain ⟨j65, e66, l64, p63⟩ := p62
                          refine V_ialdJ C (j := j65) (k := 36) (n := 192) (by rfl) (by rfl) e66 ⟨(by omega), (by omega)⟩ dX5_lay_87 ?_
                          refine V_blk C (pc' := 93) (σ' := s52) (L' := [some (.ref 33), some (.int v14), some (.int v28), some (.int v51)]) (st' := [.int v14, .ref 35, .int (s52 36 j65), .int ((v28 * 8) + v51), .ref 36]) (g_c dX5_lay_88 (g_c dX5_lay_89 (g_c dX5_lay_92 g_n))) rfl rfl ?_
                          refine V_ialdJ C (j := j45) (k := 35) (n := 6) (by rfl) (by rfl) e46 ⟨(by omega), (by omega)⟩ dX5_lay_93 ?_
                          refine V_blk C (pc' := 98) (σ' := s52) (L' := [some (.ref 33), some (.int v14), some (.int v28), some (.int v51)]) (st' := [.int v51, .int v28, .int v14, .ref 33, .int (s52 35 j45), .int (s52 36 j65), .int ((v28 * 8) + v51), .ref 36]) (g_c dX5_lay_94 (g_c dX5_lay_95 (g_c dX5_lay_96 (g_c dX5_lay_97 g_n)))) rfl rfl ?_
                          refine V_gV C cv_X5_61 p63 ⟨_, _, _, _, rfl, rfl⟩ (by rfl) (by decide) (As := [.int v14, .int v28, .int v51]) (rest := [.int (s52 35 j45), .int (s52 36 j65), .int ((v28 * 8) + v51), .ref 36]) rfl rfl (Nat.le_of_ble_eq_true rfl) dX5_lay_98 (fun rv s67 hq => ?_)
                          obtain ⟨r69, rfl, p68⟩ := hq
                          refine V_blk C (pc' := 103) (σ' := s67) (L' := [some (.ref 33), some (.int v14), some (.int v28), some (.int v51)]) (st' := [.int ((s52 36 j65) + ((s52 35 j45) * r69)), .int ((v28 * 8) + v51), .ref 36]) (g_c dX5_lay_101 (g_c dX5_lay_102 g_n)) rfl rfl ?_
                          refine V_iastJ C (j := j65) (k := 36) (n := 192) (by rfl) (by rfl) e66 ⟨(by omega), (by omega)⟩ dX5_lay_103 ?_
                          refine V_blk C (pc' := 107) (σ' := (g_up s67 36 j65 ((s52 36 j65) + ((s52 35 j45) * r69)))) (L' := [some (.ref 33), some (.int v14), some (.int (v28 + 1)), some (.int v51)]) (st' := []) (g_c dX5_lay_104 g_n) rfl rfl ?_
                          refine V_goto C (tgt := 32) dX5_lay_107 (by decide) ?_
                          refine V_less (L' := [some (.ref 33), some (.int v14), some (.int (v28 + 1)), none]) (by simp [g_subL]) ?_
                          obtain ⟨k70, hkk70, hIk70⟩ := p68
                          exact ih30 k70 hkk70 (v28 + 1) (g_up s67 36 j65 ((s52 36 j65) + ((s52 35 j45) * r69))) hIk70
                      refine V_icmp_ne C (tgt := 62) dX5_lay_52 (by decide) (fun h71 => ?_) (fun h71 => ?_)
                      · skip
                        have p72 := p55.2 h71
                        refine V_blk C (pc' := 65) (σ' := s37) (L' := [some (.ref 33), some (.int v14), some (.int v28), none]) (st' := [.int v28, .int v14, .ref 33]) (g_c dX5_lay_62 (g_c dX5_lay_63 (g_c dX5_lay_64 g_n))) rfl rfl ?_
                        refine V_gV C cv_X5_53 p72 ⟨_, _, _, _, rfl, rfl⟩ (by rfl) (by decide) (As := [.int v14, .int v28]) (rest := []) rfl rfl (Nat.le_of_ble_eq_true rfl) dX5_lay_65 (fun rv s73 hq => ?_)
                        obtain ⟨r75, rfl, p74⟩ := hq
                        exact jn54 r75 s73 p74
                      · skip
                        have p76 := p55.1 h71
                        refine V_blk C (pc' := 59) (σ' := s37) (L' := [some (.ref 33), some (.int v14), some (.int v28), none]) (st' := [.int (s37 33 5)]) (g_c dX5_lay_55 (g_c dX5_lay_56 g_n)) rfl rfl ?_
                        refine V_goto C (tgt := 68) dX5_lay_59 (by decide) ?_
                        exact jn54 (s37 33 5) s37 p76
              exact lp35 k34 0 s23 hI36
        exact lp21 k20 0 s10 hI22
      · skip
        have p77 := p11.1 h12
        refine V_blk C (pc' := 15) (σ' := s10) (L' := [some (.ref 33), some (.int v1), none, none]) (st' := [.int 0, .int v1, .ref 36]) (g_c dX5_lay_9 (g_c dX5_lay_10 (g_c dX5_lay_13 (g_c dX5_lay_14 g_n)))) rfl rfl ?_
        obtain ⟨j80, e81, l79, p78⟩ := p77
        refine V_iastJ C (j := j80) (k := 36) (n := 192) (by rfl) (by rfl) e81 ⟨(by omega), (by omega)⟩ dX5_lay_15 ?_
        refine V_blk C (pc' := 19) (σ' := (g_up s10 36 j80 0)) (L' := [some (.ref 33), some (.int (v1 + 1)), none, none]) (st' := []) (g_c dX5_lay_16 g_n) rfl rfl ?_
        refine V_goto C (tgt := 2) dX5_lay_19 (by decide) ?_
        obtain ⟨k82, hkk82, hIk82⟩ := p78
        exact ih3 k82 hkk82 (v1 + 1) (g_up s10 36 j80 0) hIk82
  exact lp8 k7 0 σ hI9
set_option maxRecDepth 100000 in
def P_X5_where (h : Nat) (d : Int32) (hr : Int32) (σ : gS) (Qp : Option Value → gS → Prop) : Prop :=
  (∃ j3 : Nat, d = nI j3 ∧ j3 < 6 ∧ ((((σ 3 j3) : Int32) = 2 → (∃ j9 : Nat, hr = nI j9 ∧ j9 < 24 ∧ ((((σ 4 j3) : Int32) < (σ 34 j9) → (Qp (some (.int (((σ 6 j3) + 1) - ((σ 6 j3) + 1) / 8 * 8))) σ)) ∧ (¬ ((σ 4 j3) : Int32) < (σ 34 j9) → (Qp (some (.int (σ 6 j3))) σ))))) ∧ (¬ ((σ 3 j3) : Int32) = 2 → ((((σ 3 j3) : Int32) = 4 → (Qp (some (.int ((σ 4 j3) - (σ 4 j3) / 8 * 8))) σ)) ∧ (¬ ((σ 3 j3) : Int32) = 4 → (Qp (some (.int (σ 6 j3))) σ))))))
set_option maxHeartbeats 4000000 in
set_option maxRecDepth 100000 in
theorem w_X5_where {h : Nat} (hh : 6 ≤ h) {d : Int32} {hr : Int32} {σ : gS} {Qp : Option Value → gS → Prop} (P : P_X5_where h d hr σ Qp) : g_Met yX5_where cX5_where 4 (some .int) h kX [.ref 33, .int d, .int hr] σ Qp := by
  unfold P_X5_where at P
  refine g_Met.of (own := 5) (L := [some (.ref 33), some (.int d), some (.int hr), none]) (by decide) rfl rfl (fun ad => Nat.le_of_ble_eq_true rfl) (fun ad => rfl) (fun X G K C => ?_)
  refine V_blk C (pc' := 8) (σ' := σ) (L' := [some (.ref 33), some (.int d), some (.int hr), none]) (st' := [.int d, .ref 4]) (g_c dX5_where_0 (g_c dX5_where_1 (g_c dX5_where_4 (g_c dX5_where_7 g_n)))) rfl rfl ?_
  obtain ⟨j3, e4, l2, p1⟩ := P
  refine V_ialdJ C (j := j3) (k := 4) (n := 6) (by rfl) (by rfl) e4 ⟨(by omega), (by omega)⟩ dX5_where_8 ?_
  refine V_blk C (pc' := 18) (σ' := σ) (L' := [some (.ref 33), some (.int d), some (.int hr), some (.int (σ 4 j3))]) (st' := [.int d, .ref 3]) (g_c dX5_where_9 (g_c dX5_where_10 (g_c dX5_where_11 (g_c dX5_where_14 (g_c dX5_where_17 g_n))))) rfl rfl ?_
  refine V_ialdJ C (j := j3) (k := 3) (n := 6) (by rfl) (by rfl) e4 ⟨(by omega), (by omega)⟩ dX5_where_18 ?_
  by_cases h5 : ((σ 3 j3) : Int32) = 2
  · skip
    have p6 := p1.1 h5
    refine V_lsw C (25) (tgt := 44) dX5_where_19 (by decide) (by rw [h5]; rfl) (by decide) ?_
    refine V_blk C (pc' := 49) (σ' := σ) (L' := [some (.ref 33), some (.int d), some (.int hr), some (.int (σ 4 j3))]) (st' := [.int hr, .ref 34]) (g_c dX5_where_44 (g_c dX5_where_45 (g_c dX5_where_48 g_n))) rfl rfl ?_
    obtain ⟨j9, e10, l8, p7⟩ := p6
    refine V_ialdJ C (j := j9) (k := 34) (n := 24) (by rfl) (by rfl) e10 ⟨(by omega), (by omega)⟩ dX5_where_49 ?_
    refine V_blk C (pc' := 51) (σ' := σ) (L' := [some (.ref 33), some (.int d), some (.int hr), some (.int (σ 4 j3))]) (st' := [.int (σ 4 j3), .int (σ 34 j9)]) (g_c dX5_where_50 g_n) rfl rfl ?_
    refine V_icmp_le2 C (tgt := 71) dX5_where_51 (by decide) (fun h11 => ?_) (fun h11 => ?_)
    · skip
      have p12 := p7.2 h11
      refine V_blk C (pc' := 79) (σ' := σ) (L' := [some (.ref 33), some (.int d), some (.int hr), some (.int (σ 4 j3))]) (st' := [.int d, .ref 6]) (g_c dX5_where_71 (g_c dX5_where_72 (g_c dX5_where_75 (g_c dX5_where_78 g_n)))) rfl rfl ?_
      refine V_ialdJ C (j := j3) (k := 6) (n := 6) (by rfl) (by rfl) e4 ⟨(by omega), (by omega)⟩ dX5_where_79 ?_
      refine V_iret C dX5_where_80 ?_
      exact p12
    · skip
      have p13 := p7.1 h11
      refine V_blk C (pc' := 62) (σ' := σ) (L' := [some (.ref 33), some (.int d), some (.int hr), some (.int (σ 4 j3))]) (st' := [.int d, .ref 6]) (g_c dX5_where_54 (g_c dX5_where_55 (g_c dX5_where_58 (g_c dX5_where_61 g_n)))) rfl rfl ?_
      refine V_ialdJ C (j := j3) (k := 6) (n := 6) (by rfl) (by rfl) e4 ⟨(by omega), (by omega)⟩ dX5_where_62 ?_
      refine V_blk C (pc' := 67) (σ' := σ) (L' := [some (.ref 33), some (.int d), some (.int hr), some (.int (σ 4 j3))]) (st' := [.int 8, .int ((σ 6 j3) + 1)]) (g_c dX5_where_63 (g_c dX5_where_64 (g_c dX5_where_65 g_n))) rfl rfl ?_
      refine V_irem C (by decide) dX5_where_67 ?_
      refine V_goto C (tgt := 80) dX5_where_68 (by decide) ?_
      refine V_iret C dX5_where_80 ?_
      exact p13
  · skip
    have p14 := p1.2 h5
    by_cases h15 : ((σ 3 j3) : Int32) = 4
    · skip
      have p16 := p14.1 h15
      refine V_lsw C (62) (tgt := 81) dX5_where_19 (by decide) (by rw [h15]; rfl) (by decide) ?_
      refine V_blk C (pc' := 84) (σ' := σ) (L' := [some (.ref 33), some (.int d), some (.int hr), some (.int (σ 4 j3))]) (st' := [.int 8, .int (σ 4 j3)]) (g_c dX5_where_81 (g_c dX5_where_82 g_n)) rfl rfl ?_
      refine V_irem C (by decide) dX5_where_84 ?_
      refine V_iret C dX5_where_85 ?_
      exact p16
    · skip
      have p17 := p14.2 h15
      refine V_lsw C (67) (tgt := 86) dX5_where_19 (by decide) (by show Op.lookupswitch.offset [(2, 25), (4, 62)] _ _ = _; rw [Op.lookupswitch.offset_cons, if_neg (g_ls (v := 2) (n := 2) rfl h5), Op.lookupswitch.offset_cons, if_neg (g_ls (v := 4) (n := 4) rfl h15)]; rfl) (by decide) ?_
      refine V_blk C (pc' := 94) (σ' := σ) (L' := [some (.ref 33), some (.int d), some (.int hr), some (.int (σ 4 j3))]) (st' := [.int d, .ref 6]) (g_c dX5_where_86 (g_c dX5_where_87 (g_c dX5_where_90 (g_c dX5_where_93 g_n)))) rfl rfl ?_
      refine V_ialdJ C (j := j3) (k := 6) (n := 6) (by rfl) (by rfl) e4 ⟨(by omega), (by omega)⟩ dX5_where_94 ?_
      refine V_iret C dX5_where_95 ?_
      exact p17
set_option maxRecDepth 100000 in
def P_X5_amount (h : Nat) (d : Int32) (hr : Int32) (pl : Int32) (σ : gS) (Qp : Option Value → gS → Prop) : Prop :=
  (∃ j3 : Nat, hr = nI j3 ∧ j3 < 24 ∧ (∃ j7 : Nat, d = nI j7 ∧ j7 < 6 ∧ (g_call yX3_name cX3_name 7 none kX h [.ref 23, .int (σ 34 j3), .int hr, .int pl, .int (σ 5 j7), .int 0, .int 0] σ (fun rv s9 => rv = none ∧ (g_call yX3_tells cX3_tells 9 (some .int) kX h [.ref 23, .int 0, .int 99] s9 (fun rv s11 => ∃ r13 : Int32, rv = some (.int r13) ∧ (((s11 3 j7) = 1 → (g_call yX5_steady cX5_steady 1 (some .int) kX h [.int r13] s11 (fun rv s16 => ∃ r18 : Int32, rv = some (.int r18) ∧ (Qp (some (.int r18)) s16)))) ∧ (¬ (s11 3 j7) = 1 → (((s11 3 j7) = 2 → (g_call yX5_wandering cX5_wandering 3 (some .int) kX h [.int r13, .int (s11 34 j3), .int (s11 4 j7)] s11 (fun rv s22 => ∃ r24 : Int32, rv = some (.int r24) ∧ (Qp (some (.int r24)) s22)))) ∧ (¬ (s11 3 j7) = 2 → (((s11 3 j7) = 3 → (((hr : Int32) < (s11 4 j7) → (Qp (some (.int 0)) s11)) ∧ (¬ (hr : Int32) < (s11 4 j7) → (g_call yX5_steady cX5_steady 1 (some .int) kX h [.int r13] s11 (fun rv s30 => ∃ r32 : Int32, rv = some (.int r32) ∧ (Qp (some (.int (2 * r32))) s30)))))) ∧ (¬ (s11 3 j7) = 3 → (((s11 3 j7) = 4 → (g_call yX5_wandering cX5_wandering 3 (some .int) kX h [.int r13, .int (s11 34 j3), .int (s11 4 j7)] s11 (fun rv s37 => ∃ r39 : Int32, rv = some (.int r39) ∧ (Qp (some (.int (if r39 < 9 then r39 else 9))) s37)))) ∧ (¬ (s11 3 j7) = 4 → (((s11 3 j7) = 5 → (((hr : Int32) < 12 → (Qp (some (.int 0)) s11)) ∧ (¬ (hr : Int32) < 12 → (g_call yX5_steady cX5_steady 1 (some .int) kX h [.int r13] s11 (fun rv s45 => ∃ r47 : Int32, rv = some (.int r47) ∧ (Qp (some (.int r47)) s45)))))) ∧ (¬ (s11 3 j7) = 5 → (Qp (some (.int r13)) s11)))))))))))))))))
set_option maxHeartbeats 4000000 in
set_option maxRecDepth 100000 in
theorem w_X5_amount {h : Nat} (hh : 6 ≤ h) {d : Int32} {hr : Int32} {pl : Int32} {σ : gS} {Qp : Option Value → gS → Prop} (P : P_X5_amount h d hr pl σ Qp) : g_Met yX5_amount cX5_amount 6 (some .int) h kX [.ref 33, .int d, .int hr, .int pl] σ Qp := by
  unfold P_X5_amount at P
  refine g_Met.of (own := 5) (L := [some (.ref 33), some (.int d), some (.int hr), some (.int pl), none, none]) (by decide) rfl rfl (fun ad => Nat.le_of_ble_eq_true rfl) (fun ad => rfl) (fun X G K C => ?_)
  refine V_blk C (pc' := 9) (σ' := σ) (L' := [some (.ref 33), some (.int d), some (.int hr), some (.int pl), none, none]) (st' := [.int hr, .ref 34, .ref 23]) (g_c dX5_amount_0 (g_c dX5_amount_1 (g_c dX5_amount_4 (g_c dX5_amount_5 (g_c dX5_amount_8 g_n))))) rfl rfl ?_
  obtain ⟨j3, e4, l2, p1⟩ := P
  refine V_ialdJ C (j := j3) (k := 34) (n := 24) (by rfl) (by rfl) e4 ⟨(by omega), (by omega)⟩ dX5_amount_9 ?_
  refine V_blk C (pc' := 20) (σ' := σ) (L' := [some (.ref 33), some (.int d), some (.int hr), some (.int pl), none, none]) (st' := [.int d, .ref 5, .int pl, .int hr, .int (σ 34 j3), .ref 23]) (g_c dX5_amount_10 (g_c dX5_amount_11 (g_c dX5_amount_12 (g_c dX5_amount_13 (g_c dX5_amount_16 (g_c dX5_amount_19 g_n)))))) rfl rfl ?_
  obtain ⟨j7, e8, l6, p5⟩ := p1
  refine V_ialdJ C (j := j7) (k := 5) (n := 6) (by rfl) (by rfl) e8 ⟨(by omega), (by omega)⟩ dX5_amount_20 ?_
  refine V_blk C (pc' := 23) (σ' := σ) (L' := [some (.ref 33), some (.int d), some (.int hr), some (.int pl), none, none]) (st' := [.int 0, .int 0, .int (σ 5 j7), .int pl, .int hr, .int (σ 34 j3), .ref 23]) (g_c dX5_amount_21 (g_c dX5_amount_22 g_n)) rfl rfl ?_
  refine V_gV C cv_X5_77 p5 ⟨_, _, _, _, rfl, rfl⟩ (by rfl) (by decide) (As := [.int (σ 34 j3), .int hr, .int pl, .int (σ 5 j7), .int 0, .int 0]) (rest := []) rfl rfl (Nat.le_of_ble_eq_true rfl) dX5_amount_23 (fun rv s9 hq => ?_)
  obtain ⟨rfl, p10⟩ := hq
  refine V_blk C (pc' := 33) (σ' := s9) (L' := [some (.ref 33), some (.int d), some (.int hr), some (.int pl), none, none]) (st' := [.int 99, .int 0, .ref 23]) (g_c dX5_amount_26 (g_c dX5_amount_27 (g_c dX5_amount_30 (g_c dX5_amount_31 g_n)))) rfl rfl ?_
  refine V_gV C cv_X5_83 p10 ⟨_, _, _, _, rfl, rfl⟩ (by rfl) (by decide) (As := [.int 0, .int 99]) (rest := []) rfl rfl (Nat.le_of_ble_eq_true rfl) dX5_amount_33 (fun rv s11 hq => ?_)
  obtain ⟨r13, rfl, p12⟩ := hq
  refine V_blk C (pc' := 46) (σ' := s11) (L' := [some (.ref 33), some (.int d), some (.int hr), some (.int pl), some (.int r13), none]) (st' := [.int d, .ref 4]) (g_c dX5_amount_36 (g_c dX5_amount_38 (g_c dX5_amount_39 (g_c dX5_amount_42 (g_c dX5_amount_45 g_n))))) rfl rfl ?_
  refine V_ialdJ C (j := j7) (k := 4) (n := 6) (by rfl) (by rfl) e8 ⟨(by omega), (by omega)⟩ dX5_amount_46 ?_
  refine V_blk C (pc' := 57) (σ' := s11) (L' := [some (.ref 33), some (.int d), some (.int hr), some (.int pl), some (.int r13), some (.int (s11 4 j7))]) (st' := [.int d, .ref 3]) (g_c dX5_amount_47 (g_c dX5_amount_49 (g_c dX5_amount_50 (g_c dX5_amount_53 (g_c dX5_amount_56 g_n))))) rfl rfl ?_
  refine V_ialdJ C (j := j7) (k := 3) (n := 6) (by rfl) (by rfl) e8 ⟨(by omega), (by omega)⟩ dX5_amount_57 ?_
  refine V_tsw C 1 34 (tgt := 92) dX5_amount_58 (by decide) (by decide) (by decide) (by decide) (fun h14 => ?_) (fun h14 => ?_)
  · skip
    have p15 := p12.1 h14
    refine V_blk C (pc' := 94) (σ' := s11) (L' := [some (.ref 33), some (.int d), some (.int hr), some (.int pl), some (.int r13), some (.int (s11 4 j7))]) (st' := [.int r13]) (g_c dX5_amount_92 g_n) rfl rfl ?_
    refine V_gS C cs_X5_86 p15 (by decide) (As := [.int r13]) (rest := []) rfl rfl (Nat.le_of_ble_eq_true rfl) dX5_amount_94 (fun rv s16 hq => ?_)
    obtain ⟨r18, rfl, p17⟩ := hq
    refine V_iret C dX5_amount_97 ?_
    exact p17
  · skip
    have p19 := p12.2 h14
    refine V_tsw C 2 40 (tgt := 98) dX5_amount_58 (by decide) (by decide) (by decide) (by decide) (fun h20 => ?_) (fun h20 => ?_)
    · skip
      have p21 := p19.1 h20
      refine V_blk C (pc' := 105) (σ' := s11) (L' := [some (.ref 33), some (.int d), some (.int hr), some (.int pl), some (.int r13), some (.int (s11 4 j7))]) (st' := [.int hr, .ref 34, .int r13]) (g_c dX5_amount_98 (g_c dX5_amount_100 (g_c dX5_amount_101 (g_c dX5_amount_104 g_n)))) rfl rfl ?_
      refine V_ialdJ C (j := j3) (k := 34) (n := 24) (by rfl) (by rfl) e4 ⟨(by omega), (by omega)⟩ dX5_amount_105 ?_
      refine V_blk C (pc' := 108) (σ' := s11) (L' := [some (.ref 33), some (.int d), some (.int hr), some (.int pl), some (.int r13), some (.int (s11 4 j7))]) (st' := [.int (s11 4 j7), .int (s11 34 j3), .int r13]) (g_c dX5_amount_106 g_n) rfl rfl ?_
      refine V_gS C cs_X5_90 p21 (by decide) (As := [.int r13, .int (s11 34 j3), .int (s11 4 j7)]) (rest := []) rfl rfl (Nat.le_of_ble_eq_true rfl) dX5_amount_108 (fun rv s22 hq => ?_)
      obtain ⟨r24, rfl, p23⟩ := hq
      refine V_iret C dX5_amount_111 ?_
      exact p23
    · skip
      have p25 := p19.2 h20
      refine V_tsw C 3 54 (tgt := 112) dX5_amount_58 (by decide) (by decide) (by decide) (by decide) (fun h26 => ?_) (fun h26 => ?_)
      · skip
        have p27 := p25.1 h26
        refine V_blk C (pc' := 115) (σ' := s11) (L' := [some (.ref 33), some (.int d), some (.int hr), some (.int pl), some (.int r13), some (.int (s11 4 j7))]) (st' := [.int (s11 4 j7), .int hr]) (g_c dX5_amount_112 (g_c dX5_amount_113 g_n)) rfl rfl ?_
        refine V_icmp_ge2 C (tgt := 122) dX5_amount_115 (by decide) (fun h28 => ?_) (fun h28 => ?_)
        · skip
          have p29 := p27.2 h28
          refine V_blk C (pc' := 125) (σ' := s11) (L' := [some (.ref 33), some (.int d), some (.int hr), some (.int pl), some (.int r13), some (.int (s11 4 j7))]) (st' := [.int r13, .int 2]) (g_c dX5_amount_122 (g_c dX5_amount_123 g_n)) rfl rfl ?_
          refine V_gS C cs_X5_86 p29 (by decide) (As := [.int r13]) (rest := [.int 2]) rfl rfl (Nat.le_of_ble_eq_true rfl) dX5_amount_125 (fun rv s30 hq => ?_)
          obtain ⟨r32, rfl, p31⟩ := hq
          refine V_blk C (pc' := 129) (σ' := s30) (L' := [some (.ref 33), some (.int d), some (.int hr), some (.int pl), some (.int r13), some (.int (s11 4 j7))]) (st' := [.int (2 * r32)]) (g_c dX5_amount_128 g_n) rfl rfl ?_
          refine V_iret C dX5_amount_129 ?_
          exact p31
        · skip
          have p33 := p27.1 h28
          refine V_blk C (pc' := 119) (σ' := s11) (L' := [some (.ref 33), some (.int d), some (.int hr), some (.int pl), some (.int r13), some (.int (s11 4 j7))]) (st' := [.int 0]) (g_c dX5_amount_118 g_n) rfl rfl ?_
          refine V_goto C (tgt := 129) dX5_amount_119 (by decide) ?_
          refine V_iret C dX5_amount_129 ?_
          exact p33
      · skip
        have p34 := p25.2 h26
        refine V_tsw C 4 72 (tgt := 130) dX5_amount_58 (by decide) (by decide) (by decide) (by decide) (fun h35 => ?_) (fun h35 => ?_)
        · skip
          have p36 := p34.1 h35
          refine V_blk C (pc' := 139) (σ' := s11) (L' := [some (.ref 33), some (.int d), some (.int hr), some (.int pl), some (.int r13), some (.int (s11 4 j7))]) (st' := [.int hr, .ref 34, .int r13, .int 9]) (g_c dX5_amount_130 (g_c dX5_amount_132 (g_c dX5_amount_134 (g_c dX5_amount_135 (g_c dX5_amount_138 g_n))))) rfl rfl ?_
          refine V_ialdJ C (j := j3) (k := 34) (n := 24) (by rfl) (by rfl) e4 ⟨(by omega), (by omega)⟩ dX5_amount_139 ?_
          refine V_blk C (pc' := 142) (σ' := s11) (L' := [some (.ref 33), some (.int d), some (.int hr), some (.int pl), some (.int r13), some (.int (s11 4 j7))]) (st' := [.int (s11 4 j7), .int (s11 34 j3), .int r13, .int 9]) (g_c dX5_amount_140 g_n) rfl rfl ?_
          refine V_gS C cs_X5_90 p36 (by decide) (As := [.int r13, .int (s11 34 j3), .int (s11 4 j7)]) (rest := [.int 9]) rfl rfl (Nat.le_of_ble_eq_true rfl) dX5_amount_142 (fun rv s37 hq => ?_)
          obtain ⟨r39, rfl, p38⟩ := hq
          refine V_mmin C cm_X5_93 (by omega) (by decide) dX5_amount_145 ?_
          refine V_iret C dX5_amount_148 ?_
          exact p38
        · skip
          have p40 := p34.2 h35
          refine V_tsw C 5 91 (tgt := 149) dX5_amount_58 (by decide) (by decide) (by decide) (by decide) (fun h41 => ?_) (fun h41 => ?_)
          · skip
            have p42 := p40.1 h41
            refine V_blk C (pc' := 152) (σ' := s11) (L' := [some (.ref 33), some (.int d), some (.int hr), some (.int pl), some (.int r13), some (.int (s11 4 j7))]) (st' := [.int 12, .int hr]) (g_c dX5_amount_149 (g_c dX5_amount_150 g_n)) rfl rfl ?_
            refine V_icmp_ge2 C (tgt := 159) dX5_amount_152 (by decide) (fun h43 => ?_) (fun h43 => ?_)
            · skip
              have p44 := p42.2 h43
              refine V_blk C (pc' := 161) (σ' := s11) (L' := [some (.ref 33), some (.int d), some (.int hr), some (.int pl), some (.int r13), some (.int (s11 4 j7))]) (st' := [.int r13]) (g_c dX5_amount_159 g_n) rfl rfl ?_
              refine V_gS C cs_X5_86 p44 (by decide) (As := [.int r13]) (rest := []) rfl rfl (Nat.le_of_ble_eq_true rfl) dX5_amount_161 (fun rv s45 hq => ?_)
              obtain ⟨r47, rfl, p46⟩ := hq
              refine V_iret C dX5_amount_164 ?_
              exact p46
            · skip
              have p48 := p42.1 h43
              refine V_blk C (pc' := 156) (σ' := s11) (L' := [some (.ref 33), some (.int d), some (.int hr), some (.int pl), some (.int r13), some (.int (s11 4 j7))]) (st' := [.int 0]) (g_c dX5_amount_155 g_n) rfl rfl ?_
              refine V_goto C (tgt := 164) dX5_amount_156 (by decide) ?_
              refine V_iret C dX5_amount_164 ?_
              exact p48
          · skip
            have p49 := p40.2 h41
            refine V_tso C (tgt := 165) dX5_amount_58 (g_tso [1, 2, 3, 4, 5] (by decide) (List.forall_mem_cons.mpr ⟨h14, (List.forall_mem_cons.mpr ⟨h20, (List.forall_mem_cons.mpr ⟨h26, (List.forall_mem_cons.mpr ⟨h35, (List.forall_mem_cons.mpr ⟨h41, (fun _ h => absurd h List.not_mem_nil)⟩)⟩)⟩)⟩)⟩)) (by decide) ?_
            refine V_blk C (pc' := 167) (σ' := s11) (L' := [some (.ref 33), some (.int d), some (.int hr), some (.int pl), some (.int r13), some (.int (s11 4 j7))]) (st' := [.int r13]) (g_c dX5_amount_165 g_n) rfl rfl ?_
            refine V_iret C dX5_amount_167 ?_
            exact p49
set_option maxRecDepth 100000 in
def P_X5_steady (h : Nat) (v : Int32) (σ : gS) (Qp : Option Value → gS → Prop) : Prop :=
  (Qp (some (.int (v + 1))) σ)
set_option maxHeartbeats 4000000 in
set_option maxRecDepth 100000 in
theorem w_X5_steady {h : Nat} (hh : 6 ≤ h) {v : Int32} {σ : gS} {Qp : Option Value → gS → Prop} (P : P_X5_steady h v σ Qp) : g_Met yX5_steady cX5_steady 1 (some .int) h kX [.int v] σ Qp := by
  unfold P_X5_steady at P
  refine g_Met.of (own := 5) (L := [some (.int v)]) (by decide) rfl rfl (fun ad => Nat.le_of_ble_eq_true rfl) (fun ad => rfl) (fun X G K C => ?_)
  refine V_blk C (pc' := 3) (σ' := σ) (L' := [some (.int v)]) (st' := [.int (v + 1)]) (g_c dX5_steady_0 (g_c dX5_steady_1 (g_c dX5_steady_2 g_n))) rfl rfl ?_
  refine V_iret C dX5_steady_3 ?_
  exact P
set_option maxRecDepth 100000 in
def P_X5_wandering (h : Nat) (v : Int32) (ra : Int32) (nu : Int32) (σ : gS) (Qp : Option Value → gS → Prop) : Prop :=
  (((nu : Int32) < ra → (Qp (some (.int (v / 2))) σ)) ∧ (¬ (nu : Int32) < ra → (Qp (some (.int v)) σ)))
set_option maxHeartbeats 4000000 in
set_option maxRecDepth 100000 in
theorem w_X5_wandering {h : Nat} (hh : 6 ≤ h) {v : Int32} {ra : Int32} {nu : Int32} {σ : gS} {Qp : Option Value → gS → Prop} (P : P_X5_wandering h v ra nu σ Qp) : g_Met yX5_wandering cX5_wandering 3 (some .int) h kX [.int v, .int ra, .int nu] σ Qp := by
  unfold P_X5_wandering at P
  refine g_Met.of (own := 5) (L := [some (.int v), some (.int ra), some (.int nu)]) (by decide) rfl rfl (fun ad => Nat.le_of_ble_eq_true rfl) (fun ad => rfl) (fun X G K C => ?_)
  refine V_blk C (pc' := 2) (σ' := σ) (L' := [some (.int v), some (.int ra), some (.int nu)]) (st' := [.int nu, .int ra]) (g_c dX5_wandering_0 (g_c dX5_wandering_1 g_n)) rfl rfl ?_
  refine V_icmp_le2 C (tgt := 11) dX5_wandering_2 (by decide) (fun h1 => ?_) (fun h1 => ?_)
  · skip
    have p2 := P.2 h1
    refine V_blk C (pc' := 12) (σ' := σ) (L' := [some (.int v), some (.int ra), some (.int nu)]) (st' := [.int v]) (g_c dX5_wandering_11 g_n) rfl rfl ?_
    refine V_iret C dX5_wandering_12 ?_
    exact p2
  · skip
    have p3 := P.1 h1
    refine V_blk C (pc' := 7) (σ' := σ) (L' := [some (.int v), some (.int ra), some (.int nu)]) (st' := [.int 2, .int v]) (g_c dX5_wandering_5 (g_c dX5_wandering_6 g_n)) rfl rfl ?_
    refine V_idiv C (by decide) dX5_wandering_7 ?_
    refine V_goto C (tgt := 12) dX5_wandering_8 (by decide) ?_
    refine V_iret C dX5_wandering_12 ?_
    exact p3
set_option maxRecDepth 100000 in
def P_X3_joined (h : Nat) (sg : Int32) (a : Int32) (b : Int32) (σ : gS) (Qp : Option Value → gS → Prop) : Prop :=
  ((sg = (-12) → (((a : Int32) = 0 → (Qp (some (.int 0)) σ)) ∧ (¬ (a : Int32) = 0 → (Qp (some (.int (if (b : Int32) = 0 then 0 else 1))) σ)))) ∧ (¬ sg = (-12) → ((sg = (-11) → (Qp (some (.int (if (a : Int32) = b then 1 else 0))) σ)) ∧ (¬ sg = (-11) → ((sg = (-10) → (Qp (some (.int (if (a : Int32) < b then 1 else 0))) σ)) ∧ (¬ sg = (-10) → ((sg = (-9) → (Qp (some (.int (a * b))) σ)) ∧ (¬ sg = (-9) → ((sg = (-8) → (Qp (some (.int (a - b))) σ)) ∧ (¬ sg = (-8) → ((sg = (-7) → (Qp (some (.int (a + b))) σ)) ∧ (¬ sg = (-7) → (((a : Int32) = 0 → (Qp (some (.int (if (b : Int32) = 0 then 0 else 1))) σ)) ∧ (¬ (a : Int32) = 0 → (Qp (some (.int 1)) σ)))))))))))))))
set_option maxHeartbeats 4000000 in
set_option maxRecDepth 100000 in
theorem w_X3_joined {h : Nat} (hh : 6 ≤ h) {sg : Int32} {a : Int32} {b : Int32} {σ : gS} {Qp : Option Value → gS → Prop} (P : P_X3_joined h sg a b σ Qp) : g_Met yX3_joined cX3_joined 3 (some .int) h kX [.int sg, .int a, .int b] σ Qp := by
  unfold P_X3_joined at P
  refine g_Met.of (own := 3) (L := [some (.int sg), some (.int a), some (.int b)]) (by decide) rfl rfl (fun ad => Nat.le_of_ble_eq_true rfl) (fun ad => rfl) (fun X G K C => ?_)
  refine V_blk C (pc' := 1) (σ' := σ) (L' := [some (.int sg), some (.int a), some (.int b)]) (st' := [.int sg]) (g_c dX3_joined_0 g_n) rfl rfl ?_
  refine V_tsw C (-12) 73 (tgt := 74) dX3_joined_1 (by decide) (by decide) (by decide) (by decide) (fun h1 => ?_) (fun h1 => ?_)
  · skip
    have p2 := P.1 h1
    refine V_blk C (pc' := 75) (σ' := σ) (L' := [some (.int sg), some (.int a), some (.int b)]) (st' := [.int a]) (g_c dX3_joined_74 g_n) rfl rfl ?_
    refine V_if_eq C (tgt := 86) dX3_joined_75 (by decide) (fun h3 => ?_) (fun h3 => ?_)
    · skip
      have p4 := p2.1 h3
      refine V_blk C (pc' := 87) (σ' := σ) (L' := [some (.int sg), some (.int a), some (.int b)]) (st' := [.int 0]) (g_c dX3_joined_86 g_n) rfl rfl ?_
      refine V_iret C dX3_joined_87 ?_
      exact p4
    · skip
      have p5 := p2.2 h3
      refine V_blk C (pc' := 79) (σ' := σ) (L' := [some (.int sg), some (.int a), some (.int b)]) (st' := [.int b]) (g_c dX3_joined_78 g_n) rfl rfl ?_
      refine V_join (P := (b : Int32) = 0) (a := 0) (b := 1) (pcJ := 87) (rest := []) (fun x_ hx_ => ?_) (fun kT kF => ?_)
      · skip
        subst hx_
        refine V_iret C dX3_joined_87 ?_
        exact p5
      · refine V_if_eq C (tgt := 86) dX3_joined_79 (by decide) (fun h6 => ?_) (fun h6 => ?_)
        · skip
          refine V_blk C (pc' := 87) (σ' := σ) (L' := [some (.int sg), some (.int a), some (.int b)]) (st' := [.int 0]) (g_c dX3_joined_86 g_n) rfl rfl ?_
          exact kT h6
        · skip
          refine V_blk C (pc' := 83) (σ' := σ) (L' := [some (.int sg), some (.int a), some (.int b)]) (st' := [.int 1]) (g_c dX3_joined_82 g_n) rfl rfl ?_
          refine V_goto C (tgt := 87) dX3_joined_83 (by decide) ?_
          exact kF h6
  · skip
    have p7 := P.2 h1
    refine V_tsw C (-11) 62 (tgt := 63) dX3_joined_1 (by decide) (by decide) (by decide) (by decide) (fun h8 => ?_) (fun h8 => ?_)
    · skip
      have p9 := p7.1 h8
      refine V_blk C (pc' := 65) (σ' := σ) (L' := [some (.int sg), some (.int a), some (.int b)]) (st' := [.int b, .int a]) (g_c dX3_joined_63 (g_c dX3_joined_64 g_n)) rfl rfl ?_
      refine V_join (P := (a : Int32) = b) (a := 1) (b := 0) (pcJ := 73) (rest := []) (fun x_ hx_ => ?_) (fun kT kF => ?_)
      · skip
        subst hx_
        refine V_iret C dX3_joined_73 ?_
        exact p9
      · refine V_icmp_ne C (tgt := 72) dX3_joined_65 (by decide) (fun h10 => ?_) (fun h10 => ?_)
        · skip
          refine V_blk C (pc' := 73) (σ' := σ) (L' := [some (.int sg), some (.int a), some (.int b)]) (st' := [.int 0]) (g_c dX3_joined_72 g_n) rfl rfl ?_
          exact kF h10
        · skip
          refine V_blk C (pc' := 69) (σ' := σ) (L' := [some (.int sg), some (.int a), some (.int b)]) (st' := [.int 1]) (g_c dX3_joined_68 g_n) rfl rfl ?_
          refine V_goto C (tgt := 73) dX3_joined_69 (by decide) ?_
          exact kT h10
    · skip
      have p11 := p7.2 h8
      refine V_tsw C (-10) 51 (tgt := 52) dX3_joined_1 (by decide) (by decide) (by decide) (by decide) (fun h12 => ?_) (fun h12 => ?_)
      · skip
        have p13 := p11.1 h12
        refine V_blk C (pc' := 54) (σ' := σ) (L' := [some (.int sg), some (.int a), some (.int b)]) (st' := [.int b, .int a]) (g_c dX3_joined_52 (g_c dX3_joined_53 g_n)) rfl rfl ?_
        refine V_join (P := (a : Int32) < b) (a := 1) (b := 0) (pcJ := 62) (rest := []) (fun x_ hx_ => ?_) (fun kT kF => ?_)
        · skip
          subst hx_
          refine V_iret C dX3_joined_62 ?_
          exact p13
        · refine V_icmp_ge2 C (tgt := 61) dX3_joined_54 (by decide) (fun h14 => ?_) (fun h14 => ?_)
          · skip
            refine V_blk C (pc' := 62) (σ' := σ) (L' := [some (.int sg), some (.int a), some (.int b)]) (st' := [.int 0]) (g_c dX3_joined_61 g_n) rfl rfl ?_
            exact kF h14
          · skip
            refine V_blk C (pc' := 58) (σ' := σ) (L' := [some (.int sg), some (.int a), some (.int b)]) (st' := [.int 1]) (g_c dX3_joined_57 g_n) rfl rfl ?_
            refine V_goto C (tgt := 62) dX3_joined_58 (by decide) ?_
            exact kT h14
      · skip
        have p15 := p11.2 h12
        refine V_tsw C (-9) 47 (tgt := 48) dX3_joined_1 (by decide) (by decide) (by decide) (by decide) (fun h16 => ?_) (fun h16 => ?_)
        · skip
          have p17 := p15.1 h16
          refine V_blk C (pc' := 51) (σ' := σ) (L' := [some (.int sg), some (.int a), some (.int b)]) (st' := [.int (a * b)]) (g_c dX3_joined_48 (g_c dX3_joined_49 (g_c dX3_joined_50 g_n))) rfl rfl ?_
          refine V_iret C dX3_joined_51 ?_
          exact p17
        · skip
          have p18 := p15.2 h16
          refine V_tsw C (-8) 43 (tgt := 44) dX3_joined_1 (by decide) (by decide) (by decide) (by decide) (fun h19 => ?_) (fun h19 => ?_)
          · skip
            have p20 := p18.1 h19
            refine V_blk C (pc' := 47) (σ' := σ) (L' := [some (.int sg), some (.int a), some (.int b)]) (st' := [.int (a - b)]) (g_c dX3_joined_44 (g_c dX3_joined_45 (g_c dX3_joined_46 g_n))) rfl rfl ?_
            refine V_iret C dX3_joined_47 ?_
            exact p20
          · skip
            have p21 := p18.2 h19
            refine V_tsw C (-7) 39 (tgt := 40) dX3_joined_1 (by decide) (by decide) (by decide) (by decide) (fun h22 => ?_) (fun h22 => ?_)
            · skip
              have p23 := p21.1 h22
              refine V_blk C (pc' := 43) (σ' := σ) (L' := [some (.int sg), some (.int a), some (.int b)]) (st' := [.int (a + b)]) (g_c dX3_joined_40 (g_c dX3_joined_41 (g_c dX3_joined_42 g_n))) rfl rfl ?_
              refine V_iret C dX3_joined_43 ?_
              exact p23
            · skip
              have p24 := p21.2 h22
              refine V_tso C (tgt := 88) dX3_joined_1 (g_tso [(-12), (-11), (-10), (-9), (-8), (-7)] (by decide) (List.forall_mem_cons.mpr ⟨h1, (List.forall_mem_cons.mpr ⟨h8, (List.forall_mem_cons.mpr ⟨h12, (List.forall_mem_cons.mpr ⟨h16, (List.forall_mem_cons.mpr ⟨h19, (List.forall_mem_cons.mpr ⟨h22, (fun _ h => absurd h List.not_mem_nil)⟩)⟩)⟩)⟩)⟩)⟩)) (by decide) ?_
              refine V_blk C (pc' := 89) (σ' := σ) (L' := [some (.int sg), some (.int a), some (.int b)]) (st' := [.int a]) (g_c dX3_joined_88 g_n) rfl rfl ?_
              refine V_if_ne C (tgt := 96) dX3_joined_89 (by decide) (fun h25 => ?_) (fun h25 => ?_)
              · skip
                have p26 := p24.2 h25
                refine V_blk C (pc' := 97) (σ' := σ) (L' := [some (.int sg), some (.int a), some (.int b)]) (st' := [.int 1]) (g_c dX3_joined_96 g_n) rfl rfl ?_
                refine V_goto C (tgt := 101) dX3_joined_97 (by decide) ?_
                refine V_iret C dX3_joined_101 ?_
                exact p26
              · skip
                have p27 := p24.1 h25
                refine V_blk C (pc' := 93) (σ' := σ) (L' := [some (.int sg), some (.int a), some (.int b)]) (st' := [.int b]) (g_c dX3_joined_92 g_n) rfl rfl ?_
                refine V_join (P := (b : Int32) = 0) (a := 0) (b := 1) (pcJ := 101) (rest := []) (fun x_ hx_ => ?_) (fun kT kF => ?_)
                · skip
                  subst hx_
                  refine V_iret C dX3_joined_101 ?_
                  exact p27
                · refine V_if_eq C (tgt := 100) dX3_joined_93 (by decide) (fun h28 => ?_) (fun h28 => ?_)
                  · skip
                    refine V_blk C (pc' := 101) (σ' := σ) (L' := [some (.int sg), some (.int a), some (.int b)]) (st' := [.int 0]) (g_c dX3_joined_100 g_n) rfl rfl ?_
                    exact kT h28
                  · skip
                    refine V_blk C (pc' := 97) (σ' := σ) (L' := [some (.int sg), some (.int a), some (.int b)]) (st' := [.int 1]) (g_c dX3_joined_96 g_n) rfl rfl ?_
                    refine V_goto C (tgt := 101) dX3_joined_97 (by decide) ?_
                    exact kF h28
set_option maxRecDepth 100000 in
def P_X3_name (h : Nat) (ra : Int32) (hr : Int32) (pl : Int32) (rt : Int32) (sz : Int32) (go : Int32) (σ : gS) (Qp : Option Value → gS → Prop) : Prop :=
  (Qp none (g_up (g_up (g_up (g_up (g_up (g_up σ 24 0 ra) 24 1 hr) 24 2 pl) 24 3 rt) 24 4 sz) 24 5 go))
set_option maxHeartbeats 4000000 in
set_option maxRecDepth 100000 in
theorem w_X3_name {h : Nat} (hh : 6 ≤ h) {ra : Int32} {hr : Int32} {pl : Int32} {rt : Int32} {sz : Int32} {go : Int32} {σ : gS} {Qp : Option Value → gS → Prop} (P : P_X3_name h ra hr pl rt sz go σ Qp) : g_Met yX3_name cX3_name 7 none h kX [.ref 23, .int ra, .int hr, .int pl, .int rt, .int sz, .int go] σ Qp := by
  unfold P_X3_name at P
  refine g_Met.of (own := 3) (L := [some (.ref 23), some (.int ra), some (.int hr), some (.int pl), some (.int rt), some (.int sz), some (.int go)]) (by decide) rfl rfl (fun ad => Nat.le_of_ble_eq_true rfl) (fun ad => rfl) (fun X G K C => ?_)
  refine V_blk C (pc' := 6) (σ' := σ) (L' := [some (.ref 23), some (.int ra), some (.int hr), some (.int pl), some (.int rt), some (.int sz), some (.int go)]) (st' := [.int ra, .int 0, .ref 24]) (g_c dX3_name_0 (g_c dX3_name_1 (g_c dX3_name_4 (g_c dX3_name_5 g_n)))) rfl rfl ?_
  refine V_iastJ C (j := 0) (k := 24) (n := 6) (by rfl) (by rfl) (by rfl) ⟨(by decide), (by decide)⟩ dX3_name_6 ?_
  refine V_blk C (pc' := 13) (σ' := (g_up σ 24 0 ra)) (L' := [some (.ref 23), some (.int ra), some (.int hr), some (.int pl), some (.int rt), some (.int sz), some (.int go)]) (st' := [.int hr, .int 1, .ref 24]) (g_c dX3_name_7 (g_c dX3_name_8 (g_c dX3_name_11 (g_c dX3_name_12 g_n)))) rfl rfl ?_
  refine V_iastJ C (j := 1) (k := 24) (n := 6) (by rfl) (by rfl) (by rfl) ⟨(by decide), (by decide)⟩ dX3_name_13 ?_
  refine V_blk C (pc' := 20) (σ' := (g_up (g_up σ 24 0 ra) 24 1 hr)) (L' := [some (.ref 23), some (.int ra), some (.int hr), some (.int pl), some (.int rt), some (.int sz), some (.int go)]) (st' := [.int pl, .int 2, .ref 24]) (g_c dX3_name_14 (g_c dX3_name_15 (g_c dX3_name_18 (g_c dX3_name_19 g_n)))) rfl rfl ?_
  refine V_iastJ C (j := 2) (k := 24) (n := 6) (by rfl) (by rfl) (by rfl) ⟨(by decide), (by decide)⟩ dX3_name_20 ?_
  refine V_blk C (pc' := 28) (σ' := (g_up (g_up (g_up σ 24 0 ra) 24 1 hr) 24 2 pl)) (L' := [some (.ref 23), some (.int ra), some (.int hr), some (.int pl), some (.int rt), some (.int sz), some (.int go)]) (st' := [.int rt, .int 3, .ref 24]) (g_c dX3_name_21 (g_c dX3_name_22 (g_c dX3_name_25 (g_c dX3_name_26 g_n)))) rfl rfl ?_
  refine V_iastJ C (j := 3) (k := 24) (n := 6) (by rfl) (by rfl) (by rfl) ⟨(by decide), (by decide)⟩ dX3_name_28 ?_
  refine V_blk C (pc' := 36) (σ' := (g_up (g_up (g_up (g_up σ 24 0 ra) 24 1 hr) 24 2 pl) 24 3 rt)) (L' := [some (.ref 23), some (.int ra), some (.int hr), some (.int pl), some (.int rt), some (.int sz), some (.int go)]) (st' := [.int sz, .int 4, .ref 24]) (g_c dX3_name_29 (g_c dX3_name_30 (g_c dX3_name_33 (g_c dX3_name_34 g_n)))) rfl rfl ?_
  refine V_iastJ C (j := 4) (k := 24) (n := 6) (by rfl) (by rfl) (by rfl) ⟨(by decide), (by decide)⟩ dX3_name_36 ?_
  refine V_blk C (pc' := 44) (σ' := (g_up (g_up (g_up (g_up (g_up σ 24 0 ra) 24 1 hr) 24 2 pl) 24 3 rt) 24 4 sz)) (L' := [some (.ref 23), some (.int ra), some (.int hr), some (.int pl), some (.int rt), some (.int sz), some (.int go)]) (st' := [.int go, .int 5, .ref 24]) (g_c dX3_name_37 (g_c dX3_name_38 (g_c dX3_name_41 (g_c dX3_name_42 g_n)))) rfl rfl ?_
  refine V_iastJ C (j := 5) (k := 24) (n := 6) (by rfl) (by rfl) (by rfl) ⟨(by decide), (by decide)⟩ dX3_name_44 ?_
  refine V_vret C dX3_name_45 ?_
  exact P
set_option maxRecDepth 100000 in
def P_X3_tells (h : Nat) (pa : Int32) (mo : Int32) (σ : gS) (Qp : Option Value → gS → Prop) : Prop :=
  (∃ J2 : Int32 → Prop, (((pa : Int32) = 0 → (J2 0)) ∧ (¬ (pa : Int32) = 0 → (∃ t118 : Nat, (σ 23 0) = nI t118 ∧ t118 < 6 ∧ (∃ j124 : Nat, (pa - 1) = nI j124 ∧ j124 < 3 ∧ (J2 (σ (47 + 3 * t118) j124)))))) ∧ ∀ (v1 : Int32), J2 v1 → (∃ t8 : Nat, (σ 23 0) = nI t8 ∧ t8 < 6 ∧ (∃ j14 : Nat, pa = nI j14 ∧ j14 < 3 ∧ (∃ t16 : Nat, (σ 23 0) = nI t16 ∧ t16 < 6 ∧ (∃ I22 : Nat → Int32 → Int32 → gS → Prop, (∃ k27 : Nat, I22 k27 0 v1 σ) ∧ ∀ (k24 : Nat) (v20 : Int32) (v21 : Int32) (s30 : gS), I22 k24 v20 v21 s30 → (((v21 : Int32) < (σ (47 + 3 * t8) j14) → (((v21 : Int32) < 160 → (((v20 : Int32) < 160 → (∃ j43 : Nat, v21 = nI j43 ∧ j43 < 160 ∧ ((((s30 (46 + 3 * t16) j43) : Int32) < 0 → ((((s30 (46 + 3 * t16) j43) : Int32) < (-6) → (∃ J49 : Prop, ((((s30 (46 + 3 * t16) j43) : Int32) = (-14) → (((0 : Int32) < v20 → (∃ j96 : Nat, (v20 - 1) = nI j96 ∧ j96 < 160 ∧ (∃ k99 : Nat, k99 < k24 ∧ I22 k99 v20 (v21 + 1) (g_up s30 25 j96 (if ((s30 25 j96) : Int32) = 0 then 1 else 0))))) ∧ (¬ (0 : Int32) < v20 → (J49)))) ∧ (¬ ((s30 (46 + 3 * t16) j43) : Int32) = (-14) → (J49))) ∧ (J49 → (∃ J55 : Prop, ((((s30 (46 + 3 * t16) j43) : Int32) = (-15) → (((0 : Int32) < v20 → (∃ j85 : Nat, (v20 - 1) = nI j85 ∧ j85 < 160 ∧ (∃ k87 : Nat, k87 < k24 ∧ I22 k87 v20 (v21 + 1) (g_up s30 25 j85 (-(s30 25 j85)))))) ∧ (¬ (0 : Int32) < v20 → (J55)))) ∧ (¬ ((s30 (46 + 3 * t16) j43) : Int32) = (-15) → (J55))) ∧ (J55 → (((1 : Int32) < v20 → (∃ j67 : Nat, ((v20 + (-1)) - 1) = nI j67 ∧ j67 < 160 ∧ (∃ j71 : Nat, (v20 + (-1)) = nI j71 ∧ j71 < 160 ∧ (g_call yX3_joined cX3_joined 3 (some .int) kX h [.int (s30 (46 + 3 * t16) j43), .int (s30 25 j67), .int (s30 25 j71)] s30 (fun rv s73 => ∃ r75 : Int32, rv = some (.int r75) ∧ (∃ k76 : Nat, k76 < k24 ∧ I22 k76 (v20 + (-1)) (v21 + 1) (g_up s73 25 j67 r75))))))) ∧ (¬ (1 : Int32) < v20 → (∃ k63 : Nat, k63 < k24 ∧ I22 k63 v20 (v21 + 1) s30)))))))) ∧ (¬ ((s30 (46 + 3 * t16) j43) : Int32) < (-6) → (∃ j103 : Nat, ((-1) - (s30 (46 + 3 * t16) j43)) = nI j103 ∧ j103 < 6 ∧ (∃ j107 : Nat, v20 = nI j107 ∧ j107 < 160 ∧ (∃ k109 : Nat, k109 < k24 ∧ I22 k109 (v20 + 1) (v21 + 1) (g_up s30 25 j107 (s30 24 j103)))))))) ∧ (¬ ((s30 (46 + 3 * t16) j43) : Int32) < 0 → (∃ j113 : Nat, v20 = nI j113 ∧ j113 < 160 ∧ (∃ k115 : Nat, k115 < k24 ∧ I22 k115 (v20 + 1) (v21 + 1) (g_up s30 25 j113 (s30 (46 + 3 * t16) j43)))))))) ∧ (¬ (v20 : Int32) < 160 → (Qp (some (.int (if 0 < (if (s30 25 0) < mo then (s30 25 0) else mo) then (if (s30 25 0) < mo then (s30 25 0) else mo) else 0))) s30)))) ∧ (¬ (v21 : Int32) < 160 → (Qp (some (.int (if 0 < (if (s30 25 0) < mo then (s30 25 0) else mo) then (if (s30 25 0) < mo then (s30 25 0) else mo) else 0))) s30)))) ∧ (¬ (v21 : Int32) < (σ (47 + 3 * t8) j14) → (Qp (some (.int (if 0 < (if (s30 25 0) < mo then (s30 25 0) else mo) then (if (s30 25 0) < mo then (s30 25 0) else mo) else 0))) s30))))))))
set_option maxHeartbeats 4000000 in
set_option maxRecDepth 100000 in
theorem w_X3_tells {h : Nat} (hh : 6 ≤ h) {pa : Int32} {mo : Int32} {σ : gS} {Qp : Option Value → gS → Prop} (P : P_X3_tells h pa mo σ Qp) : g_Met yX3_tells cX3_tells 9 (some .int) h kX [.ref 23, .int pa, .int mo] σ Qp := by
  unfold P_X3_tells at P
  refine g_Met.of (own := 3) (L := [some (.ref 23), some (.int pa), some (.int mo), none, none, none, none, none, none]) (by decide) rfl rfl (fun ad => Nat.le_of_ble_eq_true rfl) (fun ad => rfl) (fun X G K C => ?_)
  refine V_blk C (pc' := 1) (σ' := σ) (L' := [some (.ref 23), some (.int pa), some (.int mo), none, none, none, none, none, none]) (st' := [.int pa]) (g_c dX3_tells_0 g_n) rfl rfl ?_
  obtain ⟨J2, p4, p5⟩ := P
  have jn3 : ∀ (v1 : Int32) (_ : J2 v1), gV X G K 9 Qp σ [some (.ref 23), some (.int pa), some (.int mo), none, none, none, none, none, none] [.int v1] 19 := by
    intro v1 hJ6
    have p7 := p5 v1 hJ6
    refine V_blk C (pc' := 21) (σ' := σ) (L' := [some (.ref 23), some (.int pa), some (.int mo), some (.int v1), none, none, none, none, none]) (st' := [.ref 23]) (g_c dX3_tells_19 (g_c dX3_tells_20 g_n)) rfl rfl ?_
    obtain ⟨t8, e9, l10, p11⟩ := p7
    refine V_getT C (t := t8) fl_X3_20 rfl rfl (by rfl) e9 l10 dX3_tells_21 ?_
    refine V_get6 C (t := t8) (j := 1) l10 (by decide) fl_X3_24 (kX_lt (by omega)) dX3_tells_24 ?_
    refine V_blk C (pc' := 28) (σ' := σ) (L' := [some (.ref 23), some (.int pa), some (.int mo), some (.int v1), none, none, none, none, none]) (st' := [.int pa, .ref (47 + 3 * t8)]) (g_c dX3_tells_27 g_n) rfl rfl ?_
    obtain ⟨j14, e15, l13, p12⟩ := p11
    refine V_ialdJ C (j := j14) (k := (47 + 3 * t8)) (n := 3) (sh_ends l10) (kX_lt (by omega)) e15 ⟨(by omega), (by omega)⟩ dX3_tells_28 ?_
    refine V_blk C (pc' := 32) (σ' := σ) (L' := [some (.ref 23), some (.int pa), some (.int mo), some (.int v1), some (.int (σ (47 + 3 * t8) j14)), none, none, none, none]) (st' := [.ref 23]) (g_c dX3_tells_29 (g_c dX3_tells_31 g_n)) rfl rfl ?_
    obtain ⟨t16, e17, l18, p19⟩ := p12
    refine V_getT C (t := t16) fl_X3_20 rfl rfl (by rfl) e17 l18 dX3_tells_32 ?_
    refine V_get6 C (t := t16) (j := 0) l18 (by decide) fl_X3_27 (kX_lt (by omega)) dX3_tells_35 ?_
    refine V_blk C (pc' := 46) (σ' := σ) (L' := [some (.ref 23), some (.int pa), some (.int mo), some (.int v1), some (.int (σ (47 + 3 * t8) j14)), some (.ref (46 + 3 * t16)), some (.int 0), some (.int v1), none]) (st' := []) (g_c dX3_tells_38 (g_c dX3_tells_40 (g_c dX3_tells_41 (g_c dX3_tells_43 (g_c dX3_tells_44 g_n))))) rfl rfl ?_
    refine V_less (L' := [some (.ref 23), none, some (.int mo), none, some (.int (σ (47 + 3 * t8) j14)), some (.ref (46 + 3 * t16)), some (.int 0), some (.int v1), none]) (by simp [g_subL]) ?_
    obtain ⟨I22, ⟨k27, hI29⟩, hS26⟩ := p19
    have lp28 : ∀ (k24 : Nat) (v20 : Int32) (v21 : Int32) (s30 : gS), I22 k24 v20 v21 s30 → gV X G K 9 Qp s30 [some (.ref 23), none, some (.int mo), none, some (.int (σ (47 + 3 * t8) j14)), some (.ref (46 + 3 * t16)), some (.int v20), some (.int v21), none] [] 46 := by
      intro k24
      induction k24 using Nat.strongRecOn with
      | ind k24 ih23 =>
        intro v20 v21 s30 hI25
        have p31 := hS26 k24 v20 v21 s30 hI25
        refine V_blk C (pc' := 50) (σ' := s30) (L' := [some (.ref 23), none, some (.int mo), none, some (.int (σ (47 + 3 * t8) j14)), some (.ref (46 + 3 * t16)), some (.int v20), some (.int v21), none]) (st' := [.int (σ (47 + 3 * t8) j14), .int v21]) (g_c dX3_tells_46 (g_c dX3_tells_48 g_n)) rfl rfl ?_
        refine V_icmp_ge2 C (tgt := 245) dX3_tells_50 (by decide) (fun h32 => ?_) (fun h32 => ?_)
        · skip
          have p33 := p31.2 h32
          refine V_blk C (pc' := 252) (σ' := s30) (L' := [some (.ref 23), none, some (.int mo), none, some (.int (σ (47 + 3 * t8) j14)), some (.ref (46 + 3 * t16)), some (.int v20), some (.int v21), none]) (st' := [.int 0, .ref 25, .int mo, .int 0]) (g_c dX3_tells_245 (g_c dX3_tells_246 (g_c dX3_tells_247 (g_c dX3_tells_248 (g_c dX3_tells_251 g_n))))) rfl rfl ?_
          refine V_ialdJ C (j := 0) (k := 25) (n := 160) (by rfl) (by rfl) (by rfl) ⟨(by decide), (by decide)⟩ dX3_tells_252 ?_
          refine V_mmin C cm_X3_34 (by omega) (by decide) dX3_tells_253 ?_
          refine V_mmax C cM_X3_40 (by omega) (by decide) dX3_tells_256 ?_
          refine V_iret C dX3_tells_259 ?_
          exact p33
        · skip
          have p34 := p31.1 h32
          refine V_blk C (pc' := 58) (σ' := s30) (L' := [some (.ref 23), none, some (.int mo), none, some (.int (σ (47 + 3 * t8) j14)), some (.ref (46 + 3 * t16)), some (.int v20), some (.int v21), none]) (st' := [.int 160, .int v21]) (g_c dX3_tells_53 (g_c dX3_tells_55 g_n)) rfl rfl ?_
          refine V_icmp_ge2 C (tgt := 245) dX3_tells_58 (by decide) (fun h35 => ?_) (fun h35 => ?_)
          · skip
            have p36 := p34.2 h35
            refine V_blk C (pc' := 252) (σ' := s30) (L' := [some (.ref 23), none, some (.int mo), none, some (.int (σ (47 + 3 * t8) j14)), some (.ref (46 + 3 * t16)), some (.int v20), some (.int v21), none]) (st' := [.int 0, .ref 25, .int mo, .int 0]) (g_c dX3_tells_245 (g_c dX3_tells_246 (g_c dX3_tells_247 (g_c dX3_tells_248 (g_c dX3_tells_251 g_n))))) rfl rfl ?_
            refine V_ialdJ C (j := 0) (k := 25) (n := 160) (by rfl) (by rfl) (by rfl) ⟨(by decide), (by decide)⟩ dX3_tells_252 ?_
            refine V_mmin C cm_X3_34 (by omega) (by decide) dX3_tells_253 ?_
            refine V_mmax C cM_X3_40 (by omega) (by decide) dX3_tells_256 ?_
            refine V_iret C dX3_tells_259 ?_
            exact p36
          · skip
            have p37 := p34.1 h35
            refine V_blk C (pc' := 66) (σ' := s30) (L' := [some (.ref 23), none, some (.int mo), none, some (.int (σ (47 + 3 * t8) j14)), some (.ref (46 + 3 * t16)), some (.int v20), some (.int v21), none]) (st' := [.int 160, .int v20]) (g_c dX3_tells_61 (g_c dX3_tells_63 g_n)) rfl rfl ?_
            refine V_icmp_ge2 C (tgt := 245) dX3_tells_66 (by decide) (fun h38 => ?_) (fun h38 => ?_)
            · skip
              have p39 := p37.2 h38
              refine V_blk C (pc' := 252) (σ' := s30) (L' := [some (.ref 23), none, some (.int mo), none, some (.int (σ (47 + 3 * t8) j14)), some (.ref (46 + 3 * t16)), some (.int v20), some (.int v21), none]) (st' := [.int 0, .ref 25, .int mo, .int 0]) (g_c dX3_tells_245 (g_c dX3_tells_246 (g_c dX3_tells_247 (g_c dX3_tells_248 (g_c dX3_tells_251 g_n))))) rfl rfl ?_
              refine V_ialdJ C (j := 0) (k := 25) (n := 160) (by rfl) (by rfl) (by rfl) ⟨(by decide), (by decide)⟩ dX3_tells_252 ?_
              refine V_mmin C cm_X3_34 (by omega) (by decide) dX3_tells_253 ?_
              refine V_mmax C cM_X3_40 (by omega) (by decide) dX3_tells_256 ?_
              refine V_iret C dX3_tells_259 ?_
              exact p39
            · skip
              have p40 := p37.1 h38
              refine V_blk C (pc' := 73) (σ' := s30) (L' := [some (.ref 23), none, some (.int mo), none, some (.int (σ (47 + 3 * t8) j14)), some (.ref (46 + 3 * t16)), some (.int v20), some (.int v21), none]) (st' := [.int v21, .ref (46 + 3 * t16)]) (g_c dX3_tells_69 (g_c dX3_tells_71 g_n)) rfl rfl ?_
              obtain ⟨j43, e44, l42, p41⟩ := p40
              refine V_ialdJ C (j := j43) (k := (46 + 3 * t16)) (n := 160) (sh_code l18) (kX_lt (by omega)) e44 ⟨(by omega), (by omega)⟩ dX3_tells_73 ?_
              refine V_blk C (pc' := 78) (σ' := s30) (L' := [some (.ref 23), none, some (.int mo), none, some (.int (σ (47 + 3 * t8) j14)), some (.ref (46 + 3 * t16)), some (.int v20), some (.int v21), some (.int (s30 (46 + 3 * t16) j43))]) (st' := [.int (s30 (46 + 3 * t16) j43)]) (g_c dX3_tells_74 (g_c dX3_tells_76 g_n)) rfl rfl ?_
              refine V_if_lt C (tgt := 96) dX3_tells_78 (by decide) (fun h45 => ?_) (fun h45 => ?_)
              · skip
                have p46 := p41.1 h45
                refine V_blk C (pc' := 100) (σ' := s30) (L' := [some (.ref 23), none, some (.int mo), none, some (.int (σ (47 + 3 * t8) j14)), some (.ref (46 + 3 * t16)), some (.int v20), some (.int v21), some (.int (s30 (46 + 3 * t16) j43))]) (st' := [.int (-6), .int (s30 (46 + 3 * t16) j43)]) (g_c dX3_tells_96 (g_c dX3_tells_98 g_n)) rfl rfl ?_
                refine V_icmp_lt C (tgt := 125) dX3_tells_100 (by decide) (fun h47 => ?_) (fun h47 => ?_)
                · skip
                  have p48 := p46.1 h47
                  refine V_blk C (pc' := 129) (σ' := s30) (L' := [some (.ref 23), none, some (.int mo), none, some (.int (σ (47 + 3 * t8) j14)), some (.ref (46 + 3 * t16)), some (.int v20), some (.int v21), some (.int (s30 (46 + 3 * t16) j43))]) (st' := [.int (-14), .int (s30 (46 + 3 * t16) j43)]) (g_c dX3_tells_125 (g_c dX3_tells_127 g_n)) rfl rfl ?_
                  obtain ⟨J49, p51, p52⟩ := p48
                  have jn50 : ∀ (_ : J49 ), gV X G K 9 Qp s30 [some (.ref 23), none, some (.int mo), none, some (.int (σ (47 + 3 * t8) j14)), some (.ref (46 + 3 * t16)), some (.int v20), some (.int v21), some (.int (s30 (46 + 3 * t16) j43))] [] 166 := by
                    intro  hJ53
                    have p54 := p52  hJ53
                    refine V_blk C (pc' := 170) (σ' := s30) (L' := [some (.ref 23), none, some (.int mo), none, some (.int (σ (47 + 3 * t8) j14)), some (.ref (46 + 3 * t16)), some (.int v20), some (.int v21), some (.int (s30 (46 + 3 * t16) j43))]) (st' := [.int (-15), .int (s30 (46 + 3 * t16) j43)]) (g_c dX3_tells_166 (g_c dX3_tells_168 g_n)) rfl rfl ?_
                    obtain ⟨J55, p57, p58⟩ := p54
                    have jn56 : ∀ (_ : J55 ), gV X G K 9 Qp s30 [some (.ref 23), none, some (.int mo), none, some (.int (σ (47 + 3 * t8) j14)), some (.ref (46 + 3 * t16)), some (.int v20), some (.int v21), some (.int (s30 (46 + 3 * t16) j43))] [] 200 := by
                      intro  hJ59
                      have p60 := p58  hJ59
                      refine V_blk C (pc' := 203) (σ' := s30) (L' := [some (.ref 23), none, some (.int mo), none, some (.int (σ (47 + 3 * t8) j14)), some (.ref (46 + 3 * t16)), some (.int v20), some (.int v21), some (.int (s30 (46 + 3 * t16) j43))]) (st' := [.int 1, .int v20]) (g_c dX3_tells_200 (g_c dX3_tells_202 g_n)) rfl rfl ?_
                      refine V_icmp_le2 C (tgt := 239) dX3_tells_203 (by decide) (fun h61 => ?_) (fun h61 => ?_)
                      · skip
                        have p62 := p60.2 h61
                        refine V_blk C (pc' := 242) (σ' := s30) (L' := [some (.ref 23), none, some (.int mo), none, some (.int (σ (47 + 3 * t8) j14)), some (.ref (46 + 3 * t16)), some (.int v20), some (.int (v21 + 1)), some (.int (s30 (46 + 3 * t16) j43))]) (st' := []) (g_c dX3_tells_239 g_n) rfl rfl ?_
                        refine V_goto C (tgt := 46) dX3_tells_242 (by decide) ?_
                        refine V_less (L' := [some (.ref 23), none, some (.int mo), none, some (.int (σ (47 + 3 * t8) j14)), some (.ref (46 + 3 * t16)), some (.int v20), some (.int (v21 + 1)), none]) (by simp [g_subL]) ?_
                        obtain ⟨k63, hkk63, hIk63⟩ := p62
                        exact ih23 k63 hkk63 v20 (v21 + 1) s30 hIk63
                      · skip
                        have p64 := p60.1 h61
                        refine V_blk C (pc' := 227) (σ' := s30) (L' := [some (.ref 23), none, some (.int mo), none, some (.int (σ (47 + 3 * t8) j14)), some (.ref (46 + 3 * t16)), some (.int (v20 + (-1))), some (.int v21), some (.int (s30 (46 + 3 * t16) j43))]) (st' := [.int ((v20 + (-1)) - 1), .ref 25, .int (s30 (46 + 3 * t16) j43), .int ((v20 + (-1)) - 1), .ref 25]) (g_c dX3_tells_206 (g_c dX3_tells_209 (g_c dX3_tells_210 (g_c dX3_tells_213 (g_c dX3_tells_215 (g_c dX3_tells_216 (g_c dX3_tells_217 (g_c dX3_tells_219 (g_c dX3_tells_220 (g_c dX3_tells_223 (g_c dX3_tells_225 (g_c dX3_tells_226 g_n)))))))))))) rfl rfl ?_
                        obtain ⟨j67, e68, l66, p65⟩ := p64
                        refine V_ialdJ C (j := j67) (k := 25) (n := 160) (by rfl) (by rfl) e68 ⟨(by omega), (by omega)⟩ dX3_tells_227 ?_
                        refine V_blk C (pc' := 234) (σ' := s30) (L' := [some (.ref 23), none, some (.int mo), none, some (.int (σ (47 + 3 * t8) j14)), some (.ref (46 + 3 * t16)), some (.int (v20 + (-1))), some (.int v21), some (.int (s30 (46 + 3 * t16) j43))]) (st' := [.int (v20 + (-1)), .ref 25, .int (s30 25 j67), .int (s30 (46 + 3 * t16) j43), .int ((v20 + (-1)) - 1), .ref 25]) (g_c dX3_tells_228 (g_c dX3_tells_229 (g_c dX3_tells_232 g_n))) rfl rfl ?_
                        obtain ⟨j71, e72, l70, p69⟩ := p65
                        refine V_ialdJ C (j := j71) (k := 25) (n := 160) (by rfl) (by rfl) e72 ⟨(by omega), (by omega)⟩ dX3_tells_234 ?_
                        refine V_gS C cs_X3_30 p69 (by decide) (As := [.int (s30 (46 + 3 * t16) j43), .int (s30 25 j67), .int (s30 25 j71)]) (rest := [.int ((v20 + (-1)) - 1), .ref 25]) rfl rfl (Nat.le_of_ble_eq_true rfl) dX3_tells_235 (fun rv s73 hq => ?_)
                        obtain ⟨r75, rfl, p74⟩ := hq
                        refine V_iastJ C (j := j67) (k := 25) (n := 160) (by rfl) (by rfl) e68 ⟨(by omega), (by omega)⟩ dX3_tells_238 ?_
                        refine V_blk C (pc' := 242) (σ' := (g_up s73 25 j67 r75)) (L' := [some (.ref 23), none, some (.int mo), none, some (.int (σ (47 + 3 * t8) j14)), some (.ref (46 + 3 * t16)), some (.int (v20 + (-1))), some (.int (v21 + 1)), some (.int (s30 (46 + 3 * t16) j43))]) (st' := []) (g_c dX3_tells_239 g_n) rfl rfl ?_
                        refine V_goto C (tgt := 46) dX3_tells_242 (by decide) ?_
                        refine V_less (L' := [some (.ref 23), none, some (.int mo), none, some (.int (σ (47 + 3 * t8) j14)), some (.ref (46 + 3 * t16)), some (.int (v20 + (-1))), some (.int (v21 + 1)), none]) (by simp [g_subL]) ?_
                        obtain ⟨k76, hkk76, hIk76⟩ := p74
                        exact ih23 k76 hkk76 (v20 + (-1)) (v21 + 1) (g_up s73 25 j67 r75) hIk76
                    refine V_icmp_ne C (tgt := 200) dX3_tells_170 (by decide) (fun h77 => ?_) (fun h77 => ?_)
                    · skip
                      have p78 := p57.2 h77
                      exact jn56 p78
                    · skip
                      have p79 := p57.1 h77
                      refine V_blk C (pc' := 175) (σ' := s30) (L' := [some (.ref 23), none, some (.int mo), none, some (.int (σ (47 + 3 * t8) j14)), some (.ref (46 + 3 * t16)), some (.int v20), some (.int v21), some (.int (s30 (46 + 3 * t16) j43))]) (st' := [.int v20]) (g_c dX3_tells_173 g_n) rfl rfl ?_
                      refine V_if_le2 C (tgt := 200) dX3_tells_175 (by decide) (fun h80 => ?_) (fun h80 => ?_)
                      · skip
                        have p81 := p79.2 h80
                        exact jn56 p81
                      · skip
                        have p82 := p79.1 h80
                        refine V_blk C (pc' := 194) (σ' := s30) (L' := [some (.ref 23), none, some (.int mo), none, some (.int (σ (47 + 3 * t8) j14)), some (.ref (46 + 3 * t16)), some (.int v20), some (.int v21), some (.int (s30 (46 + 3 * t16) j43))]) (st' := [.int (v20 - 1), .ref 25, .int (v20 - 1), .ref 25]) (g_c dX3_tells_178 (g_c dX3_tells_179 (g_c dX3_tells_182 (g_c dX3_tells_184 (g_c dX3_tells_185 (g_c dX3_tells_186 (g_c dX3_tells_187 (g_c dX3_tells_190 (g_c dX3_tells_192 (g_c dX3_tells_193 g_n)))))))))) rfl rfl ?_
                        obtain ⟨j85, e86, l84, p83⟩ := p82
                        refine V_ialdJ C (j := j85) (k := 25) (n := 160) (by rfl) (by rfl) e86 ⟨(by omega), (by omega)⟩ dX3_tells_194 ?_
                        refine V_blk C (pc' := 196) (σ' := s30) (L' := [some (.ref 23), none, some (.int mo), none, some (.int (σ (47 + 3 * t8) j14)), some (.ref (46 + 3 * t16)), some (.int v20), some (.int v21), some (.int (s30 (46 + 3 * t16) j43))]) (st' := [.int (-(s30 25 j85)), .int (v20 - 1), .ref 25]) (g_c dX3_tells_195 g_n) rfl rfl ?_
                        refine V_iastJ C (j := j85) (k := 25) (n := 160) (by rfl) (by rfl) e86 ⟨(by omega), (by omega)⟩ dX3_tells_196 ?_
                        refine V_goto C (tgt := 239) dX3_tells_197 (by decide) ?_
                        refine V_blk C (pc' := 242) (σ' := (g_up s30 25 j85 (-(s30 25 j85)))) (L' := [some (.ref 23), none, some (.int mo), none, some (.int (σ (47 + 3 * t8) j14)), some (.ref (46 + 3 * t16)), some (.int v20), some (.int (v21 + 1)), some (.int (s30 (46 + 3 * t16) j43))]) (st' := []) (g_c dX3_tells_239 g_n) rfl rfl ?_
                        refine V_goto C (tgt := 46) dX3_tells_242 (by decide) ?_
                        refine V_less (L' := [some (.ref 23), none, some (.int mo), none, some (.int (σ (47 + 3 * t8) j14)), some (.ref (46 + 3 * t16)), some (.int v20), some (.int (v21 + 1)), none]) (by simp [g_subL]) ?_
                        obtain ⟨k87, hkk87, hIk87⟩ := p83
                        exact ih23 k87 hkk87 v20 (v21 + 1) (g_up s30 25 j85 (-(s30 25 j85))) hIk87
                  refine V_icmp_ne C (tgt := 166) dX3_tells_129 (by decide) (fun h88 => ?_) (fun h88 => ?_)
                  · skip
                    have p89 := p51.2 h88
                    exact jn50 p89
                  · skip
                    have p90 := p51.1 h88
                    refine V_blk C (pc' := 134) (σ' := s30) (L' := [some (.ref 23), none, some (.int mo), none, some (.int (σ (47 + 3 * t8) j14)), some (.ref (46 + 3 * t16)), some (.int v20), some (.int v21), some (.int (s30 (46 + 3 * t16) j43))]) (st' := [.int v20]) (g_c dX3_tells_132 g_n) rfl rfl ?_
                    refine V_if_le2 C (tgt := 166) dX3_tells_134 (by decide) (fun h91 => ?_) (fun h91 => ?_)
                    · skip
                      have p92 := p90.2 h91
                      exact jn50 p92
                    · skip
                      have p93 := p90.1 h91
                      refine V_blk C (pc' := 153) (σ' := s30) (L' := [some (.ref 23), none, some (.int mo), none, some (.int (σ (47 + 3 * t8) j14)), some (.ref (46 + 3 * t16)), some (.int v20), some (.int v21), some (.int (s30 (46 + 3 * t16) j43))]) (st' := [.int (v20 - 1), .ref 25, .int (v20 - 1), .ref 25]) (g_c dX3_tells_137 (g_c dX3_tells_138 (g_c dX3_tells_141 (g_c dX3_tells_143 (g_c dX3_tells_144 (g_c dX3_tells_145 (g_c dX3_tells_146 (g_c dX3_tells_149 (g_c dX3_tells_151 (g_c dX3_tells_152 g_n)))))))))) rfl rfl ?_
                      obtain ⟨j96, e97, l95, p94⟩ := p93
                      refine V_ialdJ C (j := j96) (k := 25) (n := 160) (by rfl) (by rfl) e97 ⟨(by omega), (by omega)⟩ dX3_tells_153 ?_
                      refine V_join (P := ((s30 25 j96) : Int32) = 0) (a := 1) (b := 0) (pcJ := 162) (rest := [.int (v20 - 1), .ref 25]) (fun x_ hx_ => ?_) (fun kT kF => ?_)
                      · skip
                        subst hx_
                        refine V_iastJ C (j := j96) (k := 25) (n := 160) (by rfl) (by rfl) e97 ⟨(by omega), (by omega)⟩ dX3_tells_162 ?_
                        refine V_goto C (tgt := 239) dX3_tells_163 (by decide) ?_
                        refine V_blk C (pc' := 242) (σ' := (g_up s30 25 j96 (if ((s30 25 j96) : Int32) = 0 then 1 else 0))) (L' := [some (.ref 23), none, some (.int mo), none, some (.int (σ (47 + 3 * t8) j14)), some (.ref (46 + 3 * t16)), some (.int v20), some (.int (v21 + 1)), some (.int (s30 (46 + 3 * t16) j43))]) (st' := []) (g_c dX3_tells_239 g_n) rfl rfl ?_
                        refine V_goto C (tgt := 46) dX3_tells_242 (by decide) ?_
                        refine V_less (L' := [some (.ref 23), none, some (.int mo), none, some (.int (σ (47 + 3 * t8) j14)), some (.ref (46 + 3 * t16)), some (.int v20), some (.int (v21 + 1)), none]) (by simp [g_subL]) ?_
                        obtain ⟨k99, hkk99, hIk99⟩ := p94
                        exact ih23 k99 hkk99 v20 (v21 + 1) (g_up s30 25 j96 (if ((s30 25 j96) : Int32) = 0 then 1 else 0)) hIk99
                      · refine V_if_ne C (tgt := 161) dX3_tells_154 (by decide) (fun h98 => ?_) (fun h98 => ?_)
                        · skip
                          refine V_blk C (pc' := 162) (σ' := s30) (L' := [some (.ref 23), none, some (.int mo), none, some (.int (σ (47 + 3 * t8) j14)), some (.ref (46 + 3 * t16)), some (.int v20), some (.int v21), some (.int (s30 (46 + 3 * t16) j43))]) (st' := [.int 0, .int (v20 - 1), .ref 25]) (g_c dX3_tells_161 g_n) rfl rfl ?_
                          exact kF h98
                        · skip
                          refine V_blk C (pc' := 158) (σ' := s30) (L' := [some (.ref 23), none, some (.int mo), none, some (.int (σ (47 + 3 * t8) j14)), some (.ref (46 + 3 * t16)), some (.int v20), some (.int v21), some (.int (s30 (46 + 3 * t16) j43))]) (st' := [.int 1, .int (v20 - 1), .ref 25]) (g_c dX3_tells_157 g_n) rfl rfl ?_
                          refine V_goto C (tgt := 162) dX3_tells_158 (by decide) ?_
                          exact kT h98
                · skip
                  have p100 := p46.2 h47
                  refine V_blk C (pc' := 117) (σ' := s30) (L' := [some (.ref 23), none, some (.int mo), none, some (.int (σ (47 + 3 * t8) j14)), some (.ref (46 + 3 * t16)), some (.int v20), some (.int v21), some (.int (s30 (46 + 3 * t16) j43))]) (st' := [.int ((-1) - (s30 (46 + 3 * t16) j43)), .ref 24, .int v20, .ref 25]) (g_c dX3_tells_103 (g_c dX3_tells_104 (g_c dX3_tells_107 (g_c dX3_tells_109 (g_c dX3_tells_110 (g_c dX3_tells_113 (g_c dX3_tells_114 (g_c dX3_tells_116 g_n)))))))) rfl rfl ?_
                  obtain ⟨j103, e104, l102, p101⟩ := p100
                  refine V_ialdJ C (j := j103) (k := 24) (n := 6) (by rfl) (by rfl) e104 ⟨(by omega), (by omega)⟩ dX3_tells_117 ?_
                  obtain ⟨j107, e108, l106, p105⟩ := p101
                  refine V_iastJ C (j := j107) (k := 25) (n := 160) (by rfl) (by rfl) e108 ⟨(by omega), (by omega)⟩ dX3_tells_118 ?_
                  refine V_blk C (pc' := 122) (σ' := (g_up s30 25 j107 (s30 24 j103))) (L' := [some (.ref 23), none, some (.int mo), none, some (.int (σ (47 + 3 * t8) j14)), some (.ref (46 + 3 * t16)), some (.int (v20 + 1)), some (.int v21), some (.int (s30 (46 + 3 * t16) j43))]) (st' := []) (g_c dX3_tells_119 g_n) rfl rfl ?_
                  refine V_goto C (tgt := 239) dX3_tells_122 (by decide) ?_
                  refine V_blk C (pc' := 242) (σ' := (g_up s30 25 j107 (s30 24 j103))) (L' := [some (.ref 23), none, some (.int mo), none, some (.int (σ (47 + 3 * t8) j14)), some (.ref (46 + 3 * t16)), some (.int (v20 + 1)), some (.int (v21 + 1)), some (.int (s30 (46 + 3 * t16) j43))]) (st' := []) (g_c dX3_tells_239 g_n) rfl rfl ?_
                  refine V_goto C (tgt := 46) dX3_tells_242 (by decide) ?_
                  refine V_less (L' := [some (.ref 23), none, some (.int mo), none, some (.int (σ (47 + 3 * t8) j14)), some (.ref (46 + 3 * t16)), some (.int (v20 + 1)), some (.int (v21 + 1)), none]) (by simp [g_subL]) ?_
                  obtain ⟨k109, hkk109, hIk109⟩ := p105
                  exact ih23 k109 hkk109 (v20 + 1) (v21 + 1) (g_up s30 25 j107 (s30 24 j103)) hIk109
              · skip
                have p110 := p41.2 h45
                refine V_blk C (pc' := 89) (σ' := s30) (L' := [some (.ref 23), none, some (.int mo), none, some (.int (σ (47 + 3 * t8) j14)), some (.ref (46 + 3 * t16)), some (.int v20), some (.int v21), some (.int (s30 (46 + 3 * t16) j43))]) (st' := [.int (s30 (46 + 3 * t16) j43), .int v20, .ref 25]) (g_c dX3_tells_81 (g_c dX3_tells_82 (g_c dX3_tells_85 (g_c dX3_tells_87 g_n)))) rfl rfl ?_
                obtain ⟨j113, e114, l112, p111⟩ := p110
                refine V_iastJ C (j := j113) (k := 25) (n := 160) (by rfl) (by rfl) e114 ⟨(by omega), (by omega)⟩ dX3_tells_89 ?_
                refine V_blk C (pc' := 93) (σ' := (g_up s30 25 j113 (s30 (46 + 3 * t16) j43))) (L' := [some (.ref 23), none, some (.int mo), none, some (.int (σ (47 + 3 * t8) j14)), some (.ref (46 + 3 * t16)), some (.int (v20 + 1)), some (.int v21), some (.int (s30 (46 + 3 * t16) j43))]) (st' := []) (g_c dX3_tells_90 g_n) rfl rfl ?_
                refine V_goto C (tgt := 239) dX3_tells_93 (by decide) ?_
                refine V_blk C (pc' := 242) (σ' := (g_up s30 25 j113 (s30 (46 + 3 * t16) j43))) (L' := [some (.ref 23), none, some (.int mo), none, some (.int (σ (47 + 3 * t8) j14)), some (.ref (46 + 3 * t16)), some (.int (v20 + 1)), some (.int (v21 + 1)), some (.int (s30 (46 + 3 * t16) j43))]) (st' := []) (g_c dX3_tells_239 g_n) rfl rfl ?_
                refine V_goto C (tgt := 46) dX3_tells_242 (by decide) ?_
                refine V_less (L' := [some (.ref 23), none, some (.int mo), none, some (.int (σ (47 + 3 * t8) j14)), some (.ref (46 + 3 * t16)), some (.int (v20 + 1)), some (.int (v21 + 1)), none]) (by simp [g_subL]) ?_
                obtain ⟨k115, hkk115, hIk115⟩ := p111
                exact ih23 k115 hkk115 (v20 + 1) (v21 + 1) (g_up s30 25 j113 (s30 (46 + 3 * t16) j43)) hIk115
    exact lp28 k27 0 v1 σ hI29
  refine V_if_ne C (tgt := 8) dX3_tells_1 (by decide) (fun h116 => ?_) (fun h116 => ?_)
  · skip
    have p117 := p4.2 h116
    refine V_blk C (pc' := 9) (σ' := σ) (L' := [some (.ref 23), some (.int pa), some (.int mo), none, none, none, none, none, none]) (st' := [.ref 23]) (g_c dX3_tells_8 g_n) rfl rfl ?_
    obtain ⟨t118, e119, l120, p121⟩ := p117
    refine V_getT C (t := t118) fl_X3_20 rfl rfl (by rfl) e119 l120 dX3_tells_9 ?_
    refine V_get6 C (t := t118) (j := 1) l120 (by decide) fl_X3_24 (kX_lt (by omega)) dX3_tells_12 ?_
    refine V_blk C (pc' := 18) (σ' := σ) (L' := [some (.ref 23), some (.int pa), some (.int mo), none, none, none, none, none, none]) (st' := [.int (pa - 1), .ref (47 + 3 * t118)]) (g_c dX3_tells_15 (g_c dX3_tells_16 (g_c dX3_tells_17 g_n))) rfl rfl ?_
    obtain ⟨j124, e125, l123, p122⟩ := p121
    refine V_ialdJ C (j := j124) (k := (47 + 3 * t118)) (n := 3) (sh_ends l120) (kX_lt (by omega)) e125 ⟨(by omega), (by omega)⟩ dX3_tells_18 ?_
    exact jn3 (σ (47 + 3 * t118) j124) p122
  · skip
    have p126 := p4.1 h116
    refine V_blk C (pc' := 5) (σ' := σ) (L' := [some (.ref 23), some (.int pa), some (.int mo), none, none, none, none, none, none]) (st' := [.int 0]) (g_c dX3_tells_4 g_n) rfl rfl ?_
    refine V_goto C (tgt := 19) dX3_tells_5 (by decide) ?_
    exact jn3 0 p126
set_option maxRecDepth 100000 in
def P_X2_one (h : Nat)  (σ : gS) (Qp : Option Value → gS → Prop) : Prop :=
  ((((σ 19 5) : Int32) = 3 → (g_call yX2_write cX2_write 2 none kR h [.ref 19, .int (σ 19 7)] σ (fun rv s43 => rv = none ∧ (g_call yX2_next cX2_next 2 none kR h [.ref 19] s43 (fun rv s45 => rv = none ∧ (Qp none s45)))))) ∧ (¬ ((σ 19 5) : Int32) = 3 → ((g_in (σ 19 5) 97 102 → (g_call yX2_write cX2_write 2 none kR h [.ref 19, .int ((-1) - ((σ 19 5) - 97))] σ (fun rv s38 => rv = none ∧ (g_call yX2_next cX2_next 2 none kR h [.ref 19] s38 (fun rv s40 => rv = none ∧ (Qp none s40)))))) ∧ (¬ g_in (σ 19 5) 97 102 → ((((σ 19 5) : Int32) = 45 → (g_call yX2_isOpened cX2_isOpened 1 (some .boolean) kR h [.ref 19] σ (fun rv s25 => ∃ r27 : Int32, rv = some (.int r27) ∧ (((r27 : Int32) = 0 → (Qp none s25)) ∧ (¬ (r27 : Int32) = 0 → (g_call yX2_next cX2_next 2 none kR h [.ref 19] s25 (fun rv s31 => rv = none ∧ (g_call yX2_one cX2_one 1 none kR h [.ref 19] s31 (fun rv s33 => rv = none ∧ (g_call yX2_write cX2_write 2 none kR h [.ref 19, .int (-15)] s33 (fun rv s35 => rv = none ∧ (Qp none (g_up s35 19 8 ((s35 19 8) - 1)))))))))))))) ∧ (¬ ((σ 19 5) : Int32) = 45 → ((((σ 19 5) : Int32) = 40 → (g_call yX2_isOpened cX2_isOpened 1 (some .boolean) kR h [.ref 19] σ (fun rv s12 => ∃ r14 : Int32, rv = some (.int r14) ∧ (((r14 : Int32) = 0 → (Qp none s12)) ∧ (¬ (r14 : Int32) = 0 → (g_call yX2_next cX2_next 2 none kR h [.ref 19] s12 (fun rv s18 => rv = none ∧ (g_call yX2_either cX2_either 2 none kR h [.ref 19] s18 (fun rv s20 => rv = none ∧ (g_call yX2_need cX2_need 2 none kR h [.ref 19, .int 41] s20 (fun rv s22 => rv = none ∧ (Qp none (g_up s22 19 8 ((s22 19 8) - 1)))))))))))))) ∧ (¬ ((σ 19 5) : Int32) = 40 → (g_call yX2_spoil cX2_spoil 1 none kR h [.ref 19] σ (fun rv s9 => rv = none ∧ (Qp none s9)))))))))))
set_option maxHeartbeats 4000000 in
set_option maxRecDepth 100000 in
theorem w_X2_one {h : Nat} (hh : 6 ≤ h)  {σ : gS} {Qp : Option Value → gS → Prop} (P : P_X2_one h  σ Qp) : g_Met yX2_one cX2_one 1 none h kR [.ref 19] σ Qp := by
  unfold P_X2_one at P
  refine g_Met.of (own := 2) (L := [some (.ref 19)]) (by decide) rfl rfl (fun ad => Nat.le_of_ble_eq_true rfl) (fun ad => rfl) (fun X G K C => ?_)
  refine V_blk C (pc' := 5) (σ' := σ) (L' := [some (.ref 19)]) (st' := [.int 3, .int (σ 19 5)]) (g_c dX2_one_0 (g_c dX2_one_1 (g_c dX2_one_4 g_n))) rfl rfl ?_
  refine V_icmp_ne C (tgt := 23) dX2_one_5 (by decide) (fun h1 => ?_) (fun h1 => ?_)
  · skip
    have p2 := P.2 h1
    refine V_blk C (pc' := 31) (σ' := σ) (L' := [some (.ref 19)]) (st' := [.int 102, .int 97, .int (σ 19 5)]) (g_c dX2_one_23 (g_c dX2_one_24 (g_c dX2_one_27 (g_c dX2_one_29 g_n)))) rfl rfl ?_
    refine V_callNI C cn_X2_21 (c_X7_isIn σ (σ 19 5) 97 102) (by omega) (by decide) (fun _ h => h) (As := [.int (σ 19 5), .int 97, .int 102]) (rest := []) rfl rfl (Nat.le_of_ble_eq_true rfl) dX2_one_31 ?_
    refine V_if_eq_b C (tgt := 57) dX2_one_34 (by decide) (fun h3 => ?_) (fun h3 => ?_)
    · skip
      have p4 := p2.2 h3
      refine V_blk C (pc' := 63) (σ' := σ) (L' := [some (.ref 19)]) (st' := [.int 45, .int (σ 19 5)]) (g_c dX2_one_57 (g_c dX2_one_58 (g_c dX2_one_61 g_n))) rfl rfl ?_
      refine V_icmp_ne C (tgt := 100) dX2_one_63 (by decide) (fun h5 => ?_) (fun h5 => ?_)
      · skip
        have p6 := p4.2 h5
        refine V_blk C (pc' := 106) (σ' := σ) (L' := [some (.ref 19)]) (st' := [.int 40, .int (σ 19 5)]) (g_c dX2_one_100 (g_c dX2_one_101 (g_c dX2_one_104 g_n))) rfl rfl ?_
        refine V_icmp_ne C (tgt := 143) dX2_one_106 (by decide) (fun h7 => ?_) (fun h7 => ?_)
        · skip
          have p8 := p6.2 h7
          refine V_blk C (pc' := 144) (σ' := σ) (L' := [some (.ref 19)]) (st' := [.ref 19]) (g_c dX2_one_143 g_n) rfl rfl ?_
          refine V_gV C cv_X2_82 p8 ⟨_, _, _, _, rfl, rfl⟩ (by rfl) (by decide) (As := []) (rest := []) rfl rfl (Nat.le_of_ble_eq_true rfl) dX2_one_144 (fun rv s9 hq => ?_)
          obtain ⟨rfl, p10⟩ := hq
          refine V_vret C dX2_one_147 ?_
          exact p10
        · skip
          have p11 := p6.1 h7
          refine V_blk C (pc' := 110) (σ' := σ) (L' := [some (.ref 19)]) (st' := [.ref 19]) (g_c dX2_one_109 g_n) rfl rfl ?_
          refine V_gV C cv_X2_66 p11 ⟨_, _, _, _, rfl, rfl⟩ (by rfl) (by decide) (As := []) (rest := []) rfl rfl (Nat.le_of_ble_eq_true rfl) dX2_one_110 (fun rv s12 hq => ?_)
          obtain ⟨r14, rfl, p13⟩ := hq
          refine V_if_eq C (tgt := 147) dX2_one_113 (by decide) (fun h15 => ?_) (fun h15 => ?_)
          · skip
            have p16 := p13.1 h15
            refine V_vret C dX2_one_147 ?_
            exact p16
          · skip
            have p17 := p13.2 h15
            refine V_blk C (pc' := 117) (σ' := s12) (L' := [some (.ref 19)]) (st' := [.ref 19]) (g_c dX2_one_116 g_n) rfl rfl ?_
            refine V_gV C cv_X2_41 p17 ⟨_, _, _, _, rfl, rfl⟩ (by rfl) (by decide) (As := []) (rest := []) rfl rfl (Nat.le_of_ble_eq_true rfl) dX2_one_117 (fun rv s18 hq => ?_)
            obtain ⟨rfl, p19⟩ := hq
            refine V_blk C (pc' := 121) (σ' := s18) (L' := [some (.ref 19)]) (st' := [.ref 19]) (g_c dX2_one_120 g_n) rfl rfl ?_
            refine V_gV C cv_X2_48 p19 ⟨_, _, _, _, rfl, rfl⟩ (by rfl) (by decide) (As := []) (rest := []) rfl rfl (Nat.le_of_ble_eq_true rfl) dX2_one_121 (fun rv s20 hq => ?_)
            obtain ⟨rfl, p21⟩ := hq
            refine V_blk C (pc' := 127) (σ' := s20) (L' := [some (.ref 19)]) (st' := [.int 41, .ref 19]) (g_c dX2_one_124 (g_c dX2_one_125 g_n)) rfl rfl ?_
            refine V_gV C cv_X2_44 p21 ⟨_, _, _, _, rfl, rfl⟩ (by rfl) (by decide) (As := [.int 41]) (rest := []) rfl rfl (Nat.le_of_ble_eq_true rfl) dX2_one_127 (fun rv s22 hq => ?_)
            obtain ⟨rfl, p23⟩ := hq
            refine V_blk C (pc' := 140) (σ' := (g_up s22 19 8 ((s22 19 8) - 1))) (L' := [some (.ref 19)]) (st' := []) (g_c dX2_one_130 (g_c dX2_one_131 (g_c dX2_one_132 (g_c dX2_one_135 (g_c dX2_one_136 (g_c dX2_one_137 g_n)))))) rfl rfl ?_
            refine V_goto C (tgt := 147) dX2_one_140 (by decide) ?_
            refine V_vret C dX2_one_147 ?_
            exact p23
      · skip
        have p24 := p4.1 h5
        refine V_blk C (pc' := 67) (σ' := σ) (L' := [some (.ref 19)]) (st' := [.ref 19]) (g_c dX2_one_66 g_n) rfl rfl ?_
        refine V_gV C cv_X2_66 p24 ⟨_, _, _, _, rfl, rfl⟩ (by rfl) (by decide) (As := []) (rest := []) rfl rfl (Nat.le_of_ble_eq_true rfl) dX2_one_67 (fun rv s25 hq => ?_)
        obtain ⟨r27, rfl, p26⟩ := hq
        refine V_if_eq C (tgt := 147) dX2_one_70 (by decide) (fun h28 => ?_) (fun h28 => ?_)
        · skip
          have p29 := p26.1 h28
          refine V_vret C dX2_one_147 ?_
          exact p29
        · skip
          have p30 := p26.2 h28
          refine V_blk C (pc' := 74) (σ' := s25) (L' := [some (.ref 19)]) (st' := [.ref 19]) (g_c dX2_one_73 g_n) rfl rfl ?_
          refine V_gV C cv_X2_41 p30 ⟨_, _, _, _, rfl, rfl⟩ (by rfl) (by decide) (As := []) (rest := []) rfl rfl (Nat.le_of_ble_eq_true rfl) dX2_one_74 (fun rv s31 hq => ?_)
          obtain ⟨rfl, p32⟩ := hq
          refine V_blk C (pc' := 78) (σ' := s31) (L' := [some (.ref 19)]) (st' := [.ref 19]) (g_c dX2_one_77 g_n) rfl rfl ?_
          refine V_gV C cv_X2_76 p32 ⟨_, _, _, _, rfl, rfl⟩ (by rfl) (by decide) (As := []) (rest := []) rfl rfl (Nat.le_of_ble_eq_true rfl) dX2_one_78 (fun rv s33 hq => ?_)
          obtain ⟨rfl, p34⟩ := hq
          refine V_blk C (pc' := 84) (σ' := s33) (L' := [some (.ref 19)]) (st' := [.int (-15), .ref 19]) (g_c dX2_one_81 (g_c dX2_one_82 g_n)) rfl rfl ?_
          refine V_gV C cv_X2_60 p34 ⟨_, _, _, _, rfl, rfl⟩ (by rfl) (by decide) (As := [.int (-15)]) (rest := []) rfl rfl (Nat.le_of_ble_eq_true rfl) dX2_one_84 (fun rv s35 hq => ?_)
          obtain ⟨rfl, p36⟩ := hq
          refine V_blk C (pc' := 97) (σ' := (g_up s35 19 8 ((s35 19 8) - 1))) (L' := [some (.ref 19)]) (st' := []) (g_c dX2_one_87 (g_c dX2_one_88 (g_c dX2_one_89 (g_c dX2_one_92 (g_c dX2_one_93 (g_c dX2_one_94 g_n)))))) rfl rfl ?_
          refine V_goto C (tgt := 147) dX2_one_97 (by decide) ?_
          refine V_vret C dX2_one_147 ?_
          exact p36
    · skip
      have p37 := p2.1 h3
      refine V_blk C (pc' := 47) (σ' := σ) (L' := [some (.ref 19)]) (st' := [.int ((-1) - ((σ 19 5) - 97)), .ref 19]) (g_c dX2_one_37 (g_c dX2_one_38 (g_c dX2_one_39 (g_c dX2_one_40 (g_c dX2_one_43 (g_c dX2_one_45 (g_c dX2_one_46 g_n))))))) rfl rfl ?_
      refine V_gV C cv_X2_60 p37 ⟨_, _, _, _, rfl, rfl⟩ (by rfl) (by decide) (As := [.int ((-1) - ((σ 19 5) - 97))]) (rest := []) rfl rfl (Nat.le_of_ble_eq_true rfl) dX2_one_47 (fun rv s38 hq => ?_)
      obtain ⟨rfl, p39⟩ := hq
      refine V_blk C (pc' := 51) (σ' := s38) (L' := [some (.ref 19)]) (st' := [.ref 19]) (g_c dX2_one_50 g_n) rfl rfl ?_
      refine V_gV C cv_X2_41 p39 ⟨_, _, _, _, rfl, rfl⟩ (by rfl) (by decide) (As := []) (rest := []) rfl rfl (Nat.le_of_ble_eq_true rfl) dX2_one_51 (fun rv s40 hq => ?_)
      obtain ⟨rfl, p41⟩ := hq
      refine V_goto C (tgt := 147) dX2_one_54 (by decide) ?_
      refine V_vret C dX2_one_147 ?_
      exact p41
  · skip
    have p42 := P.1 h1
    refine V_blk C (pc' := 13) (σ' := σ) (L' := [some (.ref 19)]) (st' := [.int (σ 19 7), .ref 19]) (g_c dX2_one_8 (g_c dX2_one_9 (g_c dX2_one_10 g_n))) rfl rfl ?_
    refine V_gV C cv_X2_60 p42 ⟨_, _, _, _, rfl, rfl⟩ (by rfl) (by decide) (As := [.int (σ 19 7)]) (rest := []) rfl rfl (Nat.le_of_ble_eq_true rfl) dX2_one_13 (fun rv s43 hq => ?_)
    obtain ⟨rfl, p44⟩ := hq
    refine V_blk C (pc' := 17) (σ' := s43) (L' := [some (.ref 19)]) (st' := [.ref 19]) (g_c dX2_one_16 g_n) rfl rfl ?_
    refine V_gV C cv_X2_41 p44 ⟨_, _, _, _, rfl, rfl⟩ (by rfl) (by decide) (As := []) (rest := []) rfl rfl (Nat.le_of_ble_eq_true rfl) dX2_one_17 (fun rv s45 hq => ?_)
    obtain ⟨rfl, p46⟩ := hq
    refine V_goto C (tgt := 147) dX2_one_20 (by decide) ?_
    refine V_vret C dX2_one_147 ?_
    exact p46
