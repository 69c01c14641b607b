set_option maxRecDepth 100000 in
def P_X8_poursOf (h : Nat) (set_ : Int32) (σ : gS) (Qp : Option Value → gS → Prop) : Prop :=
  (∃ I2 : Nat → Int32 → gS → Prop, (∃ k7 : Nat, I2 k7 0 σ) ∧ ∀ (k4 : Nat) (v1 : Int32) (s10 : gS), I2 k4 v1 s10 → (((v1 : Int32) < 192 → (∃ j38 : Nat, v1 = nI j38 ∧ j38 < 192 ∧ (∃ k40 : Nat, k40 < k4 ∧ I2 k40 (v1 + 1) (g_up s10 75 j38 0)))) ∧ (¬ (v1 : Int32) < 192 → (∃ I15 : Nat → Int32 → gS → Prop, (∃ k20 : Nat, I15 k20 0 s10) ∧ ∀ (k17 : Nat) (v14 : Int32) (s23 : gS), I15 k17 v14 s23 → (((v14 : Int32) < (s23 63 15) → (((((set_ >>> (v14 &&& 31)) &&& 1) : Int32) = 1 → (g_call yX8_pour cX8_pour 6 none kM h [.ref 63, .int v14, .int (-1), .int 1] s23 (fun rv s32 => rv = none ∧ (∃ k34 : Nat, k34 < k17 ∧ I15 k34 (v14 + 1) s32)))) ∧ (¬ (((set_ >>> (v14 &&& 31)) &&& 1) : Int32) = 1 → (∃ k30 : Nat, k30 < k17 ∧ I15 k30 (v14 + 1) s23)))) ∧ (¬ (v14 : Int32) < (s23 63 15) → (Qp none s23)))))))
set_option maxHeartbeats 4000000 in
set_option maxRecDepth 100000 in
theorem w_X8_poursOf {h : Nat} (hh : 6 ≤ h) {set_ : Int32} {σ : gS} {Qp : Option Value → gS → Prop} (P : P_X8_poursOf h set_ σ Qp) : g_Met yX8_poursOf cX8_poursOf 3 none h kM [.ref 63, .int set_] σ Qp := by
  unfold P_X8_poursOf at P
  refine g_Met.of (own := 8) (L := [some (.ref 63), some (.int set_), none]) (by decide) rfl rfl (fun ad => Nat.le_of_ble_eq_true rfl) (fun ad => rfl) (fun X G K C => ?_)
  refine V_blk C (pc' := 2) (σ' := σ) (L' := [some (.ref 63), some (.int set_), some (.int 0)]) (st' := []) (g_c dX8_poursOf_0 (g_c dX8_poursOf_1 g_n)) rfl rfl ?_
  obtain ⟨I2, ⟨k7, hI9⟩, hS6⟩ := P
  have lp8 : ∀ (k4 : Nat) (v1 : Int32) (s10 : gS), I2 k4 v1 s10 → gV X G K 3 Qp s10 [some (.ref 63), some (.int set_), some (.int v1)] [] 2 := by
    intro k4
    induction k4 using Nat.strongRecOn with
    | ind k4 ih3 =>
      intro v1 s10 hI5
      have p11 := hS6 k4 v1 s10 hI5
      refine V_blk C (pc' := 6) (σ' := s10) (L' := [some (.ref 63), some (.int set_), some (.int v1)]) (st' := [.int 192, .int v1]) (g_c dX8_poursOf_2 (g_c dX8_poursOf_3 g_n)) rfl rfl ?_
      refine V_icmp_ge2 C (tgt := 22) dX8_poursOf_6 (by decide) (fun h12 => ?_) (fun h12 => ?_)
      · skip
        have p13 := p11.2 h12
        refine V_blk C (pc' := 24) (σ' := s10) (L' := [some (.ref 63), some (.int set_), some (.int 0)]) (st' := []) (g_c dX8_poursOf_22 (g_c dX8_poursOf_23 g_n)) rfl rfl ?_
        obtain ⟨I15, ⟨k20, hI22⟩, hS19⟩ := p13
        have lp21 : ∀ (k17 : Nat) (v14 : Int32) (s23 : gS), I15 k17 v14 s23 → gV X G K 3 Qp s23 [some (.ref 63), some (.int set_), some (.int v14)] [] 24 := by
          intro k17
          induction k17 using Nat.strongRecOn with
          | ind k17 ih16 =>
            intro v14 s23 hI18
            have p24 := hS19 k17 v14 s23 hI18
            refine V_blk C (pc' := 29) (σ' := s23) (L' := [some (.ref 63), some (.int set_), some (.int v14)]) (st' := [.int (s23 63 15), .int v14]) (g_c dX8_poursOf_24 (g_c dX8_poursOf_25 (g_c dX8_poursOf_26 g_n))) rfl rfl ?_
            refine V_icmp_ge2 C (tgt := 54) dX8_poursOf_29 (by decide) (fun h25 => ?_) (fun h25 => ?_)
            · skip
              have p26 := p24.2 h25
              refine V_vret C dX8_poursOf_54 ?_
              exact p26
            · skip
              have p27 := p24.1 h25
              refine V_blk C (pc' := 38) (σ' := s23) (L' := [some (.ref 63), some (.int set_), some (.int v14)]) (st' := [.int 1, .int ((set_ >>> (v14 &&& 31)) &&& 1)]) (g_c dX8_poursOf_32 (g_c dX8_poursOf_33 (g_c dX8_poursOf_34 (g_c dX8_poursOf_35 (g_c dX8_poursOf_36 (g_c dX8_poursOf_37 g_n)))))) rfl rfl ?_
              refine V_icmp_ne C (tgt := 48) dX8_poursOf_38 (by decide) (fun h28 => ?_) (fun h28 => ?_)
              · skip
                have p29 := p27.2 h28
                refine V_blk C (pc' := 51) (σ' := s23) (L' := [some (.ref 63), some (.int set_), some (.int (v14 + 1))]) (st' := []) (g_c dX8_poursOf_48 g_n) rfl rfl ?_
                refine V_goto C (tgt := 24) dX8_poursOf_51 (by decide) ?_
                obtain ⟨k30, hkk30, hIk30⟩ := p29
                exact ih16 k30 hkk30 (v14 + 1) s23 hIk30
              · skip
                have p31 := p27.1 h28
                refine V_blk C (pc' := 45) (σ' := s23) (L' := [some (.ref 63), some (.int set_), some (.int v14)]) (st' := [.int 1, .int (-1), .int v14, .ref 63]) (g_c dX8_poursOf_41 (g_c dX8_poursOf_42 (g_c dX8_poursOf_43 (g_c dX8_poursOf_44 g_n)))) rfl rfl ?_
                refine V_gV C cv_X8_291 p31 ⟨_, _, _, _, rfl, rfl⟩ (by rfl) (by decide) (As := [.int v14, .int (-1), .int 1]) (rest := []) rfl rfl (Nat.le_of_ble_eq_true rfl) dX8_poursOf_45 (fun rv s32 hq => ?_)
                obtain ⟨rfl, p33⟩ := hq
                refine V_blk C (pc' := 51) (σ' := s32) (L' := [some (.ref 63), some (.int set_), some (.int (v14 + 1))]) (st' := []) (g_c dX8_poursOf_48 g_n) rfl rfl ?_
                refine V_goto C (tgt := 24) dX8_poursOf_51 (by decide) ?_
                obtain ⟨k34, hkk34, hIk34⟩ := p33
                exact ih16 k34 hkk34 (v14 + 1) s32 hIk34
        exact lp21 k20 0 s10 hI22
      · skip
        have p35 := p11.1 h12
        refine V_blk C (pc' := 15) (σ' := s10) (L' := [some (.ref 63), some (.int set_), some (.int v1)]) (st' := [.int 0, .int v1, .ref 75]) (g_c dX8_poursOf_9 (g_c dX8_poursOf_10 (g_c dX8_poursOf_13 (g_c dX8_poursOf_14 g_n)))) rfl rfl ?_
        obtain ⟨j38, e39, l37, p36⟩ := p35
        refine V_iastJ C (j := j38) (k := 75) (n := 192) (by rfl) (by rfl) e39 ⟨(by omega), (by omega)⟩ dX8_poursOf_15 ?_
        refine V_blk C (pc' := 19) (σ' := (g_up s10 75 j38 0)) (L' := [some (.ref 63), some (.int set_), some (.int (v1 + 1))]) (st' := []) (g_c dX8_poursOf_16 g_n) rfl rfl ?_
        refine V_goto C (tgt := 2) dX8_poursOf_19 (by decide) ?_
        obtain ⟨k40, hkk40, hIk40⟩ := p36
        exact ih3 k40 hkk40 (v1 + 1) (g_up s10 75 j38 0) hIk40
  exact lp8 k7 0 σ hI9
set_option maxRecDepth 100000 in
def P_X8_allDrips (h : Nat)  (σ : gS) (Qp : Option Value → gS → Prop) : Prop :=
  (Qp (some (.int (((1 : Int32) <<< ((σ 63 15) &&& 31)) - 1))) σ)
set_option maxHeartbeats 4000000 in
set_option maxRecDepth 100000 in
theorem w_X8_allDrips {h : Nat} (hh : 6 ≤ h)  {σ : gS} {Qp : Option Value → gS → Prop} (P : P_X8_allDrips h  σ Qp) : g_Met yX8_allDrips cX8_allDrips 1 (some .int) h kM [.ref 63] σ Qp := by
  unfold P_X8_allDrips at P
  refine g_Met.of (own := 8) (L := [some (.ref 63)]) (by decide) rfl rfl (fun ad => Nat.le_of_ble_eq_true rfl) (fun ad => rfl) (fun X G K C => ?_)
  refine V_blk C (pc' := 8) (σ' := σ) (L' := [some (.ref 63)]) (st' := [.int (((1 : Int32) <<< ((σ 63 15) &&& 31)) - 1)]) (g_c dX8_allDrips_0 (g_c dX8_allDrips_1 (g_c dX8_allDrips_2 (g_c dX8_allDrips_5 (g_c dX8_allDrips_6 (g_c dX8_allDrips_7 g_n)))))) rfl rfl ?_
  refine V_iret C dX8_allDrips_8 ?_
  exact P
set_option maxRecDepth 100000 in
def P_X8_harmOf (h : Nat) (hr : Int32) (pl : Int32) (sz : Int32) (go : Int32) (σ : gS) (Qp : Option Value → gS → Prop) : Prop :=
  ((((σ 63 44) : Int32) = 0 → (g_call yX8_says cX8_says 7 (some .int) kM h [.ref 63, .int 1, .int hr, .int pl, .int 0, .int sz, .int go] σ (fun rv s14 => ∃ r16 : Int32, rv = some (.int r16) ∧ (Qp (some (.int r16)) s14)))) ∧ (¬ ((σ 63 44) : Int32) = 0 → (∃ j5 : Nat, ((((8 * hr) + pl) * 1301) + sz) = nI j5 ∧ j5 < 249792 ∧ ((((σ 79 j5) : Int32) = (-1) → (g_call yX8_says cX8_says 7 (some .int) kM h [.ref 63, .int 1, .int hr, .int pl, .int 0, .int sz, .int go] σ (fun rv s10 => ∃ r12 : Int32, rv = some (.int r12) ∧ (Qp (some (.int r12)) (g_up s10 79 j5 r12))))) ∧ (¬ ((σ 79 j5) : Int32) = (-1) → (Qp (some (.int (σ 79 j5))) σ))))))
set_option maxHeartbeats 4000000 in
set_option maxRecDepth 100000 in
theorem w_X8_harmOf {h : Nat} (hh : 6 ≤ h) {hr : Int32} {pl : Int32} {sz : Int32} {go : Int32} {σ : gS} {Qp : Option Value → gS → Prop} (P : P_X8_harmOf h hr pl sz go σ Qp) : g_Met yX8_harmOf cX8_harmOf 6 (some .int) h kM [.ref 63, .int hr, .int pl, .int sz, .int go] σ Qp := by
  unfold P_X8_harmOf at P
  refine g_Met.of (own := 8) (L := [some (.ref 63), some (.int hr), some (.int pl), some (.int sz), some (.int go), none]) (by decide) rfl rfl (fun ad => Nat.le_of_ble_eq_true rfl) (fun ad => rfl) (fun X G K C => ?_)
  refine V_blk C (pc' := 4) (σ' := σ) (L' := [some (.ref 63), some (.int hr), some (.int pl), some (.int sz), some (.int go), none]) (st' := [.int (σ 63 44)]) (g_c dX8_harmOf_0 (g_c dX8_harmOf_1 g_n)) rfl rfl ?_
  refine V_if_ne C (tgt := 19) dX8_harmOf_4 (by decide) (fun h1 => ?_) (fun h1 => ?_)
  · skip
    have p2 := P.2 h1
    refine V_blk C (pc' := 39) (σ' := σ) (L' := [some (.ref 63), some (.int hr), some (.int pl), some (.int sz), some (.int go), some (.int ((((8 * hr) + pl) * 1301) + sz))]) (st' := [.int ((((8 * hr) + pl) * 1301) + sz), .ref 79]) (g_c dX8_harmOf_19 (g_c dX8_harmOf_21 (g_c dX8_harmOf_22 (g_c dX8_harmOf_23 (g_c dX8_harmOf_24 (g_c dX8_harmOf_25 (g_c dX8_harmOf_28 (g_c dX8_harmOf_29 (g_c dX8_harmOf_30 (g_c dX8_harmOf_31 (g_c dX8_harmOf_33 (g_c dX8_harmOf_34 (g_c dX8_harmOf_37 g_n))))))))))))) rfl rfl ?_
    obtain ⟨j5, e6, l4, p3⟩ := p2
    refine V_ialdJ C (j := j5) (k := 79) (n := 249792) (by rfl) (by rfl) e6 ⟨(by omega), (by omega)⟩ dX8_harmOf_39 ?_
    refine V_blk C (pc' := 41) (σ' := σ) (L' := [some (.ref 63), some (.int hr), some (.int pl), some (.int sz), some (.int go), some (.int ((((8 * hr) + pl) * 1301) + sz))]) (st' := [.int (-1), .int (σ 79 j5)]) (g_c dX8_harmOf_40 g_n) rfl rfl ?_
    refine V_icmp_ne C (tgt := 62) dX8_harmOf_41 (by decide) (fun h7 => ?_) (fun h7 => ?_)
    · skip
      have p8 := p3.2 h7
      refine V_blk C (pc' := 68) (σ' := σ) (L' := [some (.ref 63), some (.int hr), some (.int pl), some (.int sz), some (.int go), some (.int ((((8 * hr) + pl) * 1301) + sz))]) (st' := [.int ((((8 * hr) + pl) * 1301) + sz), .ref 79]) (g_c dX8_harmOf_62 (g_c dX8_harmOf_63 (g_c dX8_harmOf_66 g_n))) rfl rfl ?_
      refine V_ialdJ C (j := j5) (k := 79) (n := 249792) (by rfl) (by rfl) e6 ⟨(by omega), (by omega)⟩ dX8_harmOf_68 ?_
      refine V_iret C dX8_harmOf_69 ?_
      exact p8
    · skip
      have p9 := p3.1 h7
      refine V_blk C (pc' := 58) (σ' := σ) (L' := [some (.ref 63), some (.int hr), some (.int pl), some (.int sz), some (.int go), some (.int ((((8 * hr) + pl) * 1301) + sz))]) (st' := [.int go, .int sz, .int 0, .int pl, .int hr, .int 1, .ref 63, .int ((((8 * hr) + pl) * 1301) + sz), .ref 79]) (g_c dX8_harmOf_44 (g_c dX8_harmOf_45 (g_c dX8_harmOf_48 (g_c dX8_harmOf_50 (g_c dX8_harmOf_51 (g_c dX8_harmOf_52 (g_c dX8_harmOf_53 (g_c dX8_harmOf_54 (g_c dX8_harmOf_55 (g_c dX8_harmOf_56 g_n)))))))))) rfl rfl ?_
      refine V_gV C cv_X8_281 p9 ⟨_, _, _, _, rfl, rfl⟩ (by rfl) (by decide) (As := [.int 1, .int hr, .int pl, .int 0, .int sz, .int go]) (rest := [.int ((((8 * hr) + pl) * 1301) + sz), .ref 79]) rfl rfl (Nat.le_of_ble_eq_true rfl) dX8_harmOf_58 (fun rv s10 hq => ?_)
      obtain ⟨r12, rfl, p11⟩ := hq
      refine V_iastJ C (j := j5) (k := 79) (n := 249792) (by rfl) (by rfl) e6 ⟨(by omega), (by omega)⟩ dX8_harmOf_61 ?_
      refine V_blk C (pc' := 68) (σ' := (g_up s10 79 j5 r12)) (L' := [some (.ref 63), some (.int hr), some (.int pl), some (.int sz), some (.int go), some (.int ((((8 * hr) + pl) * 1301) + sz))]) (st' := [.int ((((8 * hr) + pl) * 1301) + sz), .ref 79]) (g_c dX8_harmOf_62 (g_c dX8_harmOf_63 (g_c dX8_harmOf_66 g_n))) rfl rfl ?_
      refine V_ialdJ C (j := j5) (k := 79) (n := 249792) (by rfl) (by rfl) e6 ⟨(by omega), (by omega)⟩ dX8_harmOf_68 ?_
      refine V_eq rfl rfl (st' := [.int r12]) (by simp [g_up]) ?_
      refine V_iret C dX8_harmOf_69 ?_
      exact p11
  · skip
    have p13 := P.1 h1
    refine V_blk C (pc' := 15) (σ' := σ) (L' := [some (.ref 63), some (.int hr), some (.int pl), some (.int sz), some (.int go), none]) (st' := [.int go, .int sz, .int 0, .int pl, .int hr, .int 1, .ref 63]) (g_c dX8_harmOf_7 (g_c dX8_harmOf_8 (g_c dX8_harmOf_9 (g_c dX8_harmOf_10 (g_c dX8_harmOf_11 (g_c dX8_harmOf_12 (g_c dX8_harmOf_13 g_n))))))) rfl rfl ?_
    refine V_gV C cv_X8_281 p13 ⟨_, _, _, _, rfl, rfl⟩ (by rfl) (by decide) (As := [.int 1, .int hr, .int pl, .int 0, .int sz, .int go]) (rest := []) rfl rfl (Nat.le_of_ble_eq_true rfl) dX8_harmOf_15 (fun rv s14 hq => ?_)
    obtain ⟨r16, rfl, p15⟩ := hq
    refine V_iret C dX8_harmOf_18 ?_
    exact p15
set_option maxRecDepth 100000 in
def P_X8_empties (h : Nat)  (σ : gS) (Qp : Option Value → gS → Prop) : Prop :=
  (∃ I2 : Nat → Int32 → gS → Prop, (∃ k7 : Nat, I2 k7 0 σ) ∧ ∀ (k4 : Nat) (v1 : Int32) (s10 : gS), I2 k4 v1 s10 → (((v1 : Int32) < (s10 63 9) → (∃ I17 : Nat → Int32 → Int32 → Prop, (∃ k22 : Nat, I17 k22 (-1) 0) ∧ ∀ (k19 : Nat) (v15 : Int32) (v16 : Int32), I17 k19 v15 v16 → (((v16 : Int32) < (s10 63 19) → (∃ j41 : Nat, v16 = nI j41 ∧ j41 < 5 ∧ (∃ J44 : Int32 → Prop, ((((s10 73 j41) : Int32) = (-1) → (J44 0)) ∧ (¬ ((s10 73 j41) : Int32) = (-1) → (J44 (if (0 : Int32) < (s10 76 j41) then 1 else 0)))) ∧ ∀ (v43 : Int32), J44 v43 → (((v43 : Int32) = 0 → (∃ k52 : Nat, k52 < k19 ∧ I17 k52 v15 (v16 + 1))) ∧ (¬ (v43 : Int32) = 0 → (((v15 : Int32) = (-1) → (∃ k56 : Nat, k56 < k19 ∧ I17 k56 v16 (v16 + 1))) ∧ (¬ (v15 : Int32) = (-1) → ((((s10 63 10) : Int32) = 0 → (∃ j72 : Nat, v15 = nI j72 ∧ j72 < 5 ∧ ((((s10 76 j72) : Int32) < (s10 76 j41) → (∃ k78 : Nat, k78 < k19 ∧ I17 k78 v16 (v16 + 1))) ∧ (¬ ((s10 76 j72) : Int32) < (s10 76 j41) → (∃ k76 : Nat, k76 < k19 ∧ I17 k76 v15 (v16 + 1)))))) ∧ (¬ ((s10 63 10) : Int32) = 0 → (∃ j62 : Nat, v15 = nI j62 ∧ j62 < 5 ∧ (((((s10 72 j41) - (s10 76 j41)) : Int32) < ((s10 72 j62) - (s10 76 j62)) → (∃ k68 : Nat, k68 < k19 ∧ I17 k68 v16 (v16 + 1))) ∧ (¬ (((s10 72 j41) - (s10 76 j41)) : Int32) < ((s10 72 j62) - (s10 76 j62)) → (∃ k66 : Nat, k66 < k19 ∧ I17 k66 v15 (v16 + 1)))))))))))))) ∧ (¬ (v16 : Int32) < (s10 63 19) → (((v15 : Int32) = (-1) → (∃ k31 : Nat, k31 < k4 ∧ I2 k31 (v1 + 1) s10)) ∧ (¬ (v15 : Int32) = (-1) → (∃ j35 : Nat, v15 = nI j35 ∧ j35 < 5 ∧ (∃ k37 : Nat, k37 < k4 ∧ I2 k37 (v1 + 1) (g_up s10 76 j35 0))))))))) ∧ (¬ (v1 : Int32) < (s10 63 9) → (Qp none s10))))
set_option maxHeartbeats 4000000 in
set_option maxRecDepth 100000 in
theorem w_X8_empties {h : Nat} (hh : 6 ≤ h)  {σ : gS} {Qp : Option Value → gS → Prop} (P : P_X8_empties h  σ Qp) : g_Met yX8_empties cX8_empties 5 none h kM [.ref 63] σ Qp := by
  unfold P_X8_empties at P
  refine g_Met.of (own := 8) (L := [some (.ref 63), none, none, none, none]) (by decide) rfl rfl (fun ad => Nat.le_of_ble_eq_true rfl) (fun ad => rfl) (fun X G K C => ?_)
  refine V_blk C (pc' := 2) (σ' := σ) (L' := [some (.ref 63), some (.int 0), none, none, none]) (st' := []) (g_c dX8_empties_0 (g_c dX8_empties_1 g_n)) rfl rfl ?_
  obtain ⟨I2, ⟨k7, hI9⟩, hS6⟩ := P
  have lp8 : ∀ (k4 : Nat) (v1 : Int32) (s10 : gS), I2 k4 v1 s10 → gV X G K 5 Qp s10 [some (.ref 63), some (.int v1), none, none, none] [] 2 := by
    intro k4
    induction k4 using Nat.strongRecOn with
    | ind k4 ih3 =>
      intro v1 s10 hI5
      have p11 := hS6 k4 v1 s10 hI5
      refine V_blk C (pc' := 7) (σ' := s10) (L' := [some (.ref 63), some (.int v1), none, none, none]) (st' := [.int (s10 63 9), .int v1]) (g_c dX8_empties_2 (g_c dX8_empties_3 (g_c dX8_empties_4 g_n))) rfl rfl ?_
      refine V_icmp_ge2 C (tgt := 138) dX8_empties_7 (by decide) (fun h12 => ?_) (fun h12 => ?_)
      · skip
        have p13 := p11.2 h12
        refine V_vret C dX8_empties_138 ?_
        exact p13
      · skip
        have p14 := p11.1 h12
        refine V_blk C (pc' := 14) (σ' := s10) (L' := [some (.ref 63), some (.int v1), some (.int (-1)), some (.int 0), none]) (st' := []) (g_c dX8_empties_10 (g_c dX8_empties_11 (g_c dX8_empties_12 (g_c dX8_empties_13 g_n)))) rfl rfl ?_
        obtain ⟨I17, ⟨k22, hI24⟩, hS21⟩ := p14
        have lp23 : ∀ (k19 : Nat) (v15 : Int32) (v16 : Int32), I17 k19 v15 v16 → gV X G K 5 Qp s10 [some (.ref 63), some (.int v1), some (.int v15), some (.int v16), none] [] 14 := by
          intro k19
          induction k19 using Nat.strongRecOn with
          | ind k19 ih18 =>
            intro v15 v16 hI20
            have p26 := hS21 k19 v15 v16 hI20
            refine V_blk C (pc' := 19) (σ' := s10) (L' := [some (.ref 63), some (.int v1), some (.int v15), some (.int v16), none]) (st' := [.int (s10 63 19), .int v16]) (g_c dX8_empties_14 (g_c dX8_empties_15 (g_c dX8_empties_16 g_n))) rfl rfl ?_
            refine V_icmp_ge2 C (tgt := 120) dX8_empties_19 (by decide) (fun h27 => ?_) (fun h27 => ?_)
            · skip
              have p28 := p26.2 h27
              refine V_blk C (pc' := 122) (σ' := s10) (L' := [some (.ref 63), some (.int v1), some (.int v15), some (.int v16), none]) (st' := [.int (-1), .int v15]) (g_c dX8_empties_120 (g_c dX8_empties_121 g_n)) rfl rfl ?_
              refine V_icmp_eq C (tgt := 132) dX8_empties_122 (by decide) (fun h29 => ?_) (fun h29 => ?_)
              · skip
                have p30 := p28.1 h29
                refine V_blk C (pc' := 135) (σ' := s10) (L' := [some (.ref 63), some (.int (v1 + 1)), some (.int v15), some (.int v16), none]) (st' := []) (g_c dX8_empties_132 g_n) rfl rfl ?_
                refine V_goto C (tgt := 2) dX8_empties_135 (by decide) ?_
                refine V_less (L' := [some (.ref 63), some (.int (v1 + 1)), none, none, none]) (by simp [g_subL]) ?_
                obtain ⟨k31, hkk31, hIk31⟩ := p30
                exact ih3 k31 hkk31 (v1 + 1) s10 hIk31
              · skip
                have p32 := p28.2 h29
                refine V_blk C (pc' := 131) (σ' := s10) (L' := [some (.ref 63), some (.int v1), some (.int v15), some (.int v16), none]) (st' := [.int 0, .int v15, .ref 76]) (g_c dX8_empties_125 (g_c dX8_empties_126 (g_c dX8_empties_129 (g_c dX8_empties_130 g_n)))) rfl rfl ?_
                obtain ⟨j35, e36, l34, p33⟩ := p32
                refine V_iastJ C (j := j35) (k := 76) (n := 5) (by rfl) (by rfl) e36 ⟨(by omega), (by omega)⟩ dX8_empties_131 ?_
                refine V_blk C (pc' := 135) (σ' := (g_up s10 76 j35 0)) (L' := [some (.ref 63), some (.int (v1 + 1)), some (.int v15), some (.int v16), none]) (st' := []) (g_c dX8_empties_132 g_n) rfl rfl ?_
                refine V_goto C (tgt := 2) dX8_empties_135 (by decide) ?_
                refine V_less (L' := [some (.ref 63), some (.int (v1 + 1)), none, none, none]) (by simp [g_subL]) ?_
                obtain ⟨k37, hkk37, hIk37⟩ := p33
                exact ih3 k37 hkk37 (v1 + 1) (g_up s10 76 j35 0) hIk37
            · skip
              have p38 := p26.1 h27
              refine V_blk C (pc' := 27) (σ' := s10) (L' := [some (.ref 63), some (.int v1), some (.int v15), some (.int v16), none]) (st' := [.int v16, .ref 73]) (g_c dX8_empties_22 (g_c dX8_empties_23 (g_c dX8_empties_26 g_n))) rfl rfl ?_
              obtain ⟨j41, e42, l40, p39⟩ := p38
              refine V_ialdJ C (j := j41) (k := 73) (n := 5) (by rfl) (by rfl) e42 ⟨(by omega), (by omega)⟩ dX8_empties_27 ?_
              refine V_blk C (pc' := 29) (σ' := s10) (L' := [some (.ref 63), some (.int v1), some (.int v15), some (.int v16), none]) (st' := [.int (-1), .int (s10 73 j41)]) (g_c dX8_empties_28 g_n) rfl rfl ?_
              obtain ⟨J44, p46, p47⟩ := p39
              have jn45 : ∀ (v43 : Int32) (_ : J44 v43), gV X G K 5 Qp s10 [some (.ref 63), some (.int v1), some (.int v15), some (.int v16), none] [.int v43] 46 := by
                intro v43 hJ48
                have p49 := p47 v43 hJ48
                refine V_blk C (pc' := 50) (σ' := s10) (L' := [some (.ref 63), some (.int v1), some (.int v15), some (.int v16), some (.int v43)]) (st' := [.int v43]) (g_c dX8_empties_46 (g_c dX8_empties_48 g_n)) rfl rfl ?_
                refine V_if_eq C (tgt := 114) dX8_empties_50 (by decide) (fun h50 => ?_) (fun h50 => ?_)
                · skip
                  have p51 := p49.1 h50
                  refine V_blk C (pc' := 117) (σ' := s10) (L' := [some (.ref 63), some (.int v1), some (.int v15), some (.int (v16 + 1)), some (.int v43)]) (st' := []) (g_c dX8_empties_114 g_n) rfl rfl ?_
                  refine V_goto C (tgt := 14) dX8_empties_117 (by decide) ?_
                  refine V_less (L' := [some (.ref 63), some (.int v1), some (.int v15), some (.int (v16 + 1)), none]) (by simp [g_subL]) ?_
                  obtain ⟨k52, hkk52, hIk52⟩ := p51
                  exact ih18 k52 hkk52 v15 (v16 + 1) hIk52
                · skip
                  have p53 := p49.2 h50
                  refine V_blk C (pc' := 55) (σ' := s10) (L' := [some (.ref 63), some (.int v1), some (.int v15), some (.int v16), some (.int v43)]) (st' := [.int (-1), .int v15]) (g_c dX8_empties_53 (g_c dX8_empties_54 g_n)) rfl rfl ?_
                  refine V_icmp_eq C (tgt := 112) dX8_empties_55 (by decide) (fun h54 => ?_) (fun h54 => ?_)
                  · skip
                    have p55 := p53.1 h54
                    refine V_blk C (pc' := 117) (σ' := s10) (L' := [some (.ref 63), some (.int v1), some (.int v16), some (.int (v16 + 1)), some (.int v43)]) (st' := []) (g_c dX8_empties_112 (g_c dX8_empties_113 (g_c dX8_empties_114 g_n))) rfl rfl ?_
                    refine V_goto C (tgt := 14) dX8_empties_117 (by decide) ?_
                    refine V_less (L' := [some (.ref 63), some (.int v1), some (.int v16), some (.int (v16 + 1)), none]) (by simp [g_subL]) ?_
                    obtain ⟨k56, hkk56, hIk56⟩ := p55
                    exact ih18 k56 hkk56 v16 (v16 + 1) hIk56
                  · skip
                    have p57 := p53.2 h54
                    refine V_blk C (pc' := 62) (σ' := s10) (L' := [some (.ref 63), some (.int v1), some (.int v15), some (.int v16), some (.int v43)]) (st' := [.int (s10 63 10)]) (g_c dX8_empties_58 (g_c dX8_empties_59 g_n)) rfl rfl ?_
                    refine V_if_ne C (tgt := 83) dX8_empties_62 (by decide) (fun h58 => ?_) (fun h58 => ?_)
                    · skip
                      have p59 := p57.2 h58
                      refine V_blk C (pc' := 88) (σ' := s10) (L' := [some (.ref 63), some (.int v1), some (.int v15), some (.int v16), some (.int v43)]) (st' := [.int v16, .ref 72]) (g_c dX8_empties_83 (g_c dX8_empties_84 (g_c dX8_empties_87 g_n))) rfl rfl ?_
                      refine V_ialdJ C (j := j41) (k := 72) (n := 5) (by rfl) (by rfl) e42 ⟨(by omega), (by omega)⟩ dX8_empties_88 ?_
                      refine V_blk C (pc' := 94) (σ' := s10) (L' := [some (.ref 63), some (.int v1), some (.int v15), some (.int v16), some (.int v43)]) (st' := [.int v16, .ref 76, .int (s10 72 j41)]) (g_c dX8_empties_89 (g_c dX8_empties_90 (g_c dX8_empties_93 g_n))) rfl rfl ?_
                      refine V_ialdJ C (j := j41) (k := 76) (n := 5) (by rfl) (by rfl) e42 ⟨(by omega), (by omega)⟩ dX8_empties_94 ?_
                      refine V_blk C (pc' := 101) (σ' := s10) (L' := [some (.ref 63), some (.int v1), some (.int v15), some (.int v16), some (.int v43)]) (st' := [.int v15, .ref 72, .int ((s10 72 j41) - (s10 76 j41))]) (g_c dX8_empties_95 (g_c dX8_empties_96 (g_c dX8_empties_97 (g_c dX8_empties_100 g_n)))) rfl rfl ?_
                      obtain ⟨j62, e63, l61, p60⟩ := p59
                      refine V_ialdJ C (j := j62) (k := 72) (n := 5) (by rfl) (by rfl) e63 ⟨(by omega), (by omega)⟩ dX8_empties_101 ?_
                      refine V_blk C (pc' := 107) (σ' := s10) (L' := [some (.ref 63), some (.int v1), some (.int v15), some (.int v16), some (.int v43)]) (st' := [.int v15, .ref 76, .int (s10 72 j62), .int ((s10 72 j41) - (s10 76 j41))]) (g_c dX8_empties_102 (g_c dX8_empties_103 (g_c dX8_empties_106 g_n))) rfl rfl ?_
                      refine V_ialdJ C (j := j62) (k := 76) (n := 5) (by rfl) (by rfl) e63 ⟨(by omega), (by omega)⟩ dX8_empties_107 ?_
                      refine V_blk C (pc' := 109) (σ' := s10) (L' := [some (.ref 63), some (.int v1), some (.int v15), some (.int v16), some (.int v43)]) (st' := [.int ((s10 72 j62) - (s10 76 j62)), .int ((s10 72 j41) - (s10 76 j41))]) (g_c dX8_empties_108 g_n) rfl rfl ?_
                      refine V_icmp_ge2 C (tgt := 114) dX8_empties_109 (by decide) (fun h64 => ?_) (fun h64 => ?_)
                      · skip
                        have p65 := p60.2 h64
                        refine V_blk C (pc' := 117) (σ' := s10) (L' := [some (.ref 63), some (.int v1), some (.int v15), some (.int (v16 + 1)), some (.int v43)]) (st' := []) (g_c dX8_empties_114 g_n) rfl rfl ?_
                        refine V_goto C (tgt := 14) dX8_empties_117 (by decide) ?_
                        refine V_less (L' := [some (.ref 63), some (.int v1), some (.int v15), some (.int (v16 + 1)), none]) (by simp [g_subL]) ?_
                        obtain ⟨k66, hkk66, hIk66⟩ := p65
                        exact ih18 k66 hkk66 v15 (v16 + 1) hIk66
                      · skip
                        have p67 := p60.1 h64
                        refine V_blk C (pc' := 117) (σ' := s10) (L' := [some (.ref 63), some (.int v1), some (.int v16), some (.int (v16 + 1)), some (.int v43)]) (st' := []) (g_c dX8_empties_112 (g_c dX8_empties_113 (g_c dX8_empties_114 g_n))) rfl rfl ?_
                        refine V_goto C (tgt := 14) dX8_empties_117 (by decide) ?_
                        refine V_less (L' := [some (.ref 63), some (.int v1), some (.int v16), some (.int (v16 + 1)), none]) (by simp [g_subL]) ?_
                        obtain ⟨k68, hkk68, hIk68⟩ := p67
                        exact ih18 k68 hkk68 v16 (v16 + 1) hIk68
                    · skip
                      have p69 := p57.1 h58
                      refine V_blk C (pc' := 70) (σ' := s10) (L' := [some (.ref 63), some (.int v1), some (.int v15), some (.int v16), some (.int v43)]) (st' := [.int v16, .ref 76]) (g_c dX8_empties_65 (g_c dX8_empties_66 (g_c dX8_empties_69 g_n))) rfl rfl ?_
                      refine V_ialdJ C (j := j41) (k := 76) (n := 5) (by rfl) (by rfl) e42 ⟨(by omega), (by omega)⟩ dX8_empties_70 ?_
                      refine V_blk C (pc' := 76) (σ' := s10) (L' := [some (.ref 63), some (.int v1), some (.int v15), some (.int v16), some (.int v43)]) (st' := [.int v15, .ref 76, .int (s10 76 j41)]) (g_c dX8_empties_71 (g_c dX8_empties_72 (g_c dX8_empties_75 g_n))) rfl rfl ?_
                      obtain ⟨j72, e73, l71, p70⟩ := p69
                      refine V_ialdJ C (j := j72) (k := 76) (n := 5) (by rfl) (by rfl) e73 ⟨(by omega), (by omega)⟩ dX8_empties_76 ?_
                      refine V_icmp_le2 C (tgt := 114) dX8_empties_77 (by decide) (fun h74 => ?_) (fun h74 => ?_)
                      · skip
                        have p75 := p70.2 h74
                        refine V_blk C (pc' := 117) (σ' := s10) (L' := [some (.ref 63), some (.int v1), some (.int v15), some (.int (v16 + 1)), some (.int v43)]) (st' := []) (g_c dX8_empties_114 g_n) rfl rfl ?_
                        refine V_goto C (tgt := 14) dX8_empties_117 (by decide) ?_
                        refine V_less (L' := [some (.ref 63), some (.int v1), some (.int v15), some (.int (v16 + 1)), none]) (by simp [g_subL]) ?_
                        obtain ⟨k76, hkk76, hIk76⟩ := p75
                        exact ih18 k76 hkk76 v15 (v16 + 1) hIk76
                      · skip
                        have p77 := p70.1 h74
                        refine V_goto C (tgt := 112) dX8_empties_80 (by decide) ?_
                        refine V_blk C (pc' := 117) (σ' := s10) (L' := [some (.ref 63), some (.int v1), some (.int v16), some (.int (v16 + 1)), some (.int v43)]) (st' := []) (g_c dX8_empties_112 (g_c dX8_empties_113 (g_c dX8_empties_114 g_n))) rfl rfl ?_
                        refine V_goto C (tgt := 14) dX8_empties_117 (by decide) ?_
                        refine V_less (L' := [some (.ref 63), some (.int v1), some (.int v16), some (.int (v16 + 1)), none]) (by simp [g_subL]) ?_
                        obtain ⟨k78, hkk78, hIk78⟩ := p77
                        exact ih18 k78 hkk78 v16 (v16 + 1) hIk78
              refine V_icmp_eq C (tgt := 45) dX8_empties_29 (by decide) (fun h79 => ?_) (fun h79 => ?_)
              · skip
                have p80 := p46.1 h79
                refine V_blk C (pc' := 46) (σ' := s10) (L' := [some (.ref 63), some (.int v1), some (.int v15), some (.int v16), none]) (st' := [.int 0]) (g_c dX8_empties_45 g_n) rfl rfl ?_
                exact jn45 0 p80
              · skip
                have p81 := p46.2 h79
                refine V_blk C (pc' := 37) (σ' := s10) (L' := [some (.ref 63), some (.int v1), some (.int v15), some (.int v16), none]) (st' := [.int v16, .ref 76]) (g_c dX8_empties_32 (g_c dX8_empties_33 (g_c dX8_empties_36 g_n))) rfl rfl ?_
                refine V_ialdJ C (j := j41) (k := 76) (n := 5) (by rfl) (by rfl) e42 ⟨(by omega), (by omega)⟩ dX8_empties_37 ?_
                refine V_join (P := (0 : Int32) < (s10 76 j41)) (a := 1) (b := 0) (pcJ := 46) (rest := []) (fun x_ hx_ => ?_) (fun kT kF => ?_)
                · skip
                  subst hx_
                  exact jn45 (if (0 : Int32) < (s10 76 j41) then 1 else 0) p81
                · refine V_if_le2 C (tgt := 45) dX8_empties_38 (by decide) (fun h82 => ?_) (fun h82 => ?_)
                  · skip
                    refine V_blk C (pc' := 46) (σ' := s10) (L' := [some (.ref 63), some (.int v1), some (.int v15), some (.int v16), none]) (st' := [.int 0]) (g_c dX8_empties_45 g_n) rfl rfl ?_
                    exact kF h82
                  · skip
                    refine V_blk C (pc' := 42) (σ' := s10) (L' := [some (.ref 63), some (.int v1), some (.int v15), some (.int v16), none]) (st' := [.int 1]) (g_c dX8_empties_41 g_n) rfl rfl ?_
                    refine V_goto C (tgt := 46) dX8_empties_42 (by decide) ?_
                    exact kT h82
        exact lp23 k22 (-1) 0 hI24
  exact lp8 k7 0 σ hI9
set_option maxRecDepth 100000 in
def P_X8_goes (h : Nat) (n : Int32) (σ : gS) (Qp : Option Value → gS → Prop) : Prop :=
  (∃ I2 : Nat → Int32 → gS → Prop, (∃ k7 : Nat, I2 k7 0 σ) ∧ ∀ (k4 : Nat) (v1 : Int32) (s10 : gS), I2 k4 v1 s10 → (((v1 : Int32) < (s10 63 19) → (∃ j118 : Nat, v1 = nI j118 ∧ j118 < 5 ∧ (∃ k120 : Nat, k120 < k4 ∧ I2 k120 (v1 + 1) (g_up s10 76 j118 (s10 74 j118))))) ∧ (¬ (v1 : Int32) < (s10 63 19) → (∃ I16 : Nat → Int32 → Int32 → gS → Prop, (∃ k21 : Nat, I16 k21 0 0 (g_up (g_up (g_up (g_up s10 63 39 0) 63 40 0) 63 41 0) 63 42 (-1))) ∧ ∀ (k18 : Nat) (v14 : Int32) (v15 : Int32) (s24 : gS), I16 k18 v14 v15 s24 → (((v15 : Int32) < n → (∃ J31 : Int32 → gS → Prop, ((((((s24 63 8) >>> (v15 &&& 31)) &&& 1) : Int32) = 1 → (g_call yX8_says cX8_says 7 (some .int) kM h [.ref 63, .int 2, .int v15, .int 0, .int 0, .int 0, .int v14] s24 (fun rv s110 => ∃ r112 : Int32, rv = some (.int r112) ∧ (g_call yX8_empties cX8_empties 5 none kM h [.ref 63] (g_up s110 63 40 ((s24 63 40) + r112)) (fun rv s113 => rv = none ∧ (J31 0 s113)))))) ∧ (¬ ((((s24 63 8) >>> (v15 &&& 31)) &&& 1) : Int32) = 1 → (J31 v14 s24))) ∧ ∀ (v29 : Int32) (s30 : gS), J31 v29 s30 → (∃ I38 : Nat → Int32 → gS → Prop, (∃ k43 : Nat, I38 k43 0 s30) ∧ ∀ (k40 : Nat) (v37 : Int32) (s46 : gS), I38 k40 v37 s46 → (((v37 : Int32) < 8 → (∃ j77 : Nat, ((8 * v15) + v37) = nI j77 ∧ j77 < 192 ∧ (g_call yX8_vesselOn cX8_vesselOn 3 (some .int) kM h [.ref 63, .int v37] s46 (fun rv s79 => ∃ r81 : Int32, rv = some (.int r81) ∧ (∃ J84 : Int32 → gS → Prop, (((r81 : Int32) = (-1) → (J84 (s46 75 j77) s79)) ∧ (¬ (r81 : Int32) = (-1) → (∃ j104 : Nat, r81 = nI j104 ∧ j104 < 5 ∧ (J84 ((s46 75 j77) - (if ((s46 75 j77) : Int32) < ((s79 72 j104) - (s79 76 j104)) then (s46 75 j77) else ((s79 72 j104) - (s79 76 j104)))) (g_up s79 76 j104 ((s79 76 j104) + (if ((s46 75 j77) : Int32) < ((s79 72 j104) - (s79 76 j104)) then (s46 75 j77) else ((s79 72 j104) - (s79 76 j104))))))))) ∧ ∀ (v82 : Int32) (s83 : gS), J84 v82 s83 → (((0 : Int32) < v82 → (g_call yX8_harmOf cX8_harmOf 6 (some .int) kM h [.ref 63, .int v15, .int v37, .int v82, .int v29] (g_up s83 78 j77 v82) (fun rv s94 => ∃ r96 : Int32, rv = some (.int r96) ∧ (∃ k98 : Nat, k98 < k40 ∧ I38 k98 (v37 + 1) (g_up (g_up (g_up s94 63 39 ((s83 63 39) + r96)) 63 41 ((s94 63 41) + v82)) 63 42 (if ((s94 63 42) : Int32) = (-1) then v15 else (s94 63 42))))))) ∧ (¬ (0 : Int32) < v82 → (∃ k92 : Nat, k92 < k40 ∧ I38 k92 (v37 + 1) (g_up s83 78 j77 v82))))))))) ∧ (¬ (v37 : Int32) < 8 → (∃ I51 : Nat → Int32 → gS → Prop, (∃ k56 : Nat, I51 k56 0 s46) ∧ ∀ (k53 : Nat) (v50 : Int32) (s59 : gS), I51 k53 v50 s59 → (((v50 : Int32) < (s59 63 19) → (∃ j67 : Nat, v50 = nI j67 ∧ j67 < 5 ∧ (∃ j71 : Nat, ((5 * v15) + v50) = nI j71 ∧ j71 < 120 ∧ (∃ k73 : Nat, k73 < k53 ∧ I51 k73 (v50 + 1) (g_up s59 77 j71 (s59 76 j67)))))) ∧ (¬ (v50 : Int32) < (s59 63 19) → (∃ k63 : Nat, k63 < k18 ∧ I16 k63 (v29 + 1) (v15 + 1) s59))))))))) ∧ (¬ (v15 : Int32) < n → (Qp none s24)))))))
set_option maxHeartbeats 4000000 in
set_option maxRecDepth 100000 in
theorem w_X8_goes {h : Nat} (hh : 6 ≤ h) {n : Int32} {σ : gS} {Qp : Option Value → gS → Prop} (P : P_X8_goes h n σ Qp) : g_Met yX8_goes cX8_goes 9 none h kM [.ref 63, .int n] σ Qp := by
  unfold P_X8_goes at P
  refine g_Met.of (own := 8) (L := [some (.ref 63), some (.int n), none, none, none, none, none, none, none]) (by decide) rfl rfl (fun ad => Nat.le_of_ble_eq_true rfl) (fun ad => rfl) (fun X G K C => ?_)
  refine V_blk C (pc' := 2) (σ' := σ) (L' := [some (.ref 63), some (.int n), some (.int 0), none, none, none, none, none, none]) (st' := []) (g_c dX8_goes_0 (g_c dX8_goes_1 g_n)) rfl rfl ?_
  obtain ⟨I2, ⟨k7, hI9⟩, hS6⟩ := P
  have lp8 : ∀ (k4 : Nat) (v1 : Int32) (s10 : gS), I2 k4 v1 s10 → gV X G K 9 Qp s10 [some (.ref 63), some (.int n), some (.int v1), none, none, none, none, none, none] [] 2 := by
    intro k4
    induction k4 using Nat.strongRecOn with
    | ind k4 ih3 =>
      intro v1 s10 hI5
      have p11 := hS6 k4 v1 s10 hI5
      refine V_blk C (pc' := 7) (σ' := s10) (L' := [some (.ref 63), some (.int n), some (.int v1), none, none, none, none, none, none]) (st' := [.int (s10 63 19), .int v1]) (g_c dX8_goes_2 (g_c dX8_goes_3 (g_c dX8_goes_4 g_n))) rfl rfl ?_
      refine V_icmp_ge2 C (tgt := 28) dX8_goes_7 (by decide) (fun h12 => ?_) (fun h12 => ?_)
      · skip
        have p13 := p11.2 h12
        refine V_blk C (pc' := 52) (σ' := (g_up (g_up (g_up (g_up s10 63 39 0) 63 40 0) 63 41 0) 63 42 (-1))) (L' := [some (.ref 63), some (.int n), some (.int 0), some (.int 0), none, none, none, none, none]) (st' := []) (g_c dX8_goes_28 (g_c dX8_goes_29 (g_c dX8_goes_30 (g_c dX8_goes_33 (g_c dX8_goes_34 (g_c dX8_goes_35 (g_c dX8_goes_38 (g_c dX8_goes_39 (g_c dX8_goes_40 (g_c dX8_goes_43 (g_c dX8_goes_44 (g_c dX8_goes_45 (g_c dX8_goes_48 (g_c dX8_goes_49 (g_c dX8_goes_50 (g_c dX8_goes_51 g_n)))))))))))))))) rfl rfl ?_
        obtain ⟨I16, ⟨k21, hI23⟩, hS20⟩ := p13
        have lp22 : ∀ (k18 : Nat) (v14 : Int32) (v15 : Int32) (s24 : gS), I16 k18 v14 v15 s24 → gV X G K 9 Qp s24 [some (.ref 63), some (.int n), some (.int v14), some (.int v15), none, none, none, none, none] [] 52 := by
          intro k18
          induction k18 using Nat.strongRecOn with
          | ind k18 ih17 =>
            intro v14 v15 s24 hI19
            have p25 := hS20 k18 v14 v15 s24 hI19
            refine V_blk C (pc' := 54) (σ' := s24) (L' := [some (.ref 63), some (.int n), some (.int v14), some (.int v15), none, none, none, none, none]) (st' := [.int n, .int v15]) (g_c dX8_goes_52 (g_c dX8_goes_53 g_n)) rfl rfl ?_
            refine V_icmp_ge2 C (tgt := 304) dX8_goes_54 (by decide) (fun h26 => ?_) (fun h26 => ?_)
            · skip
              have p27 := p25.2 h26
              refine V_vret C dX8_goes_304 ?_
              exact p27
            · skip
              have p28 := p25.1 h26
              refine V_blk C (pc' := 66) (σ' := s24) (L' := [some (.ref 63), some (.int n), some (.int v14), some (.int v15), none, none, none, none, none]) (st' := [.int 1, .int (((s24 63 8) >>> (v15 &&& 31)) &&& 1)]) (g_c dX8_goes_57 (g_c dX8_goes_58 (g_c dX8_goes_61 (g_c dX8_goes_62 (g_c dX8_goes_63 (g_c dX8_goes_64 (g_c dX8_goes_65 g_n))))))) rfl rfl ?_
              obtain ⟨J31, p33, p34⟩ := p28
              have jn32 : ∀ (v29 : Int32) (s30 : gS) (_ : J31 v29 s30), gV X G K 9 Qp s30 [some (.ref 63), some (.int n), some (.int v29), some (.int v15), none, none, none, none, none] [] 94 := by
                intro v29 s30 hJ35
                have p36 := p34 v29 s30 hJ35
                refine V_blk C (pc' := 97) (σ' := s30) (L' := [some (.ref 63), some (.int n), some (.int v29), some (.int v15), some (.int 0), none, none, none, none]) (st' := []) (g_c dX8_goes_94 (g_c dX8_goes_95 g_n)) rfl rfl ?_
                obtain ⟨I38, ⟨k43, hI45⟩, hS42⟩ := p36
                have lp44 : ∀ (k40 : Nat) (v37 : Int32) (s46 : gS), I38 k40 v37 s46 → gV X G K 9 Qp s46 [some (.ref 63), some (.int n), some (.int v29), some (.int v15), some (.int v37), none, none, none, none] [] 97 := by
                  intro k40
                  induction k40 using Nat.strongRecOn with
                  | ind k40 ih39 =>
                    intro v37 s46 hI41
                    have p47 := hS42 k40 v37 s46 hI41
                    refine V_blk C (pc' := 101) (σ' := s46) (L' := [some (.ref 63), some (.int n), some (.int v29), some (.int v15), some (.int v37), none, none, none, none]) (st' := [.int 8, .int v37]) (g_c dX8_goes_97 (g_c dX8_goes_99 g_n)) rfl rfl ?_
                    refine V_icmp_ge2 C (tgt := 259) dX8_goes_101 (by decide) (fun h48 => ?_) (fun h48 => ?_)
                    · skip
                      have p49 := p47.2 h48
                      refine V_blk C (pc' := 262) (σ' := s46) (L' := [some (.ref 63), some (.int n), some (.int v29), some (.int v15), some (.int 0), none, none, none, none]) (st' := []) (g_c dX8_goes_259 (g_c dX8_goes_260 g_n)) rfl rfl ?_
                      obtain ⟨I51, ⟨k56, hI58⟩, hS55⟩ := p49
                      have lp57 : ∀ (k53 : Nat) (v50 : Int32) (s59 : gS), I51 k53 v50 s59 → gV X G K 9 Qp s59 [some (.ref 63), some (.int n), some (.int v29), some (.int v15), some (.int v50), none, none, none, none] [] 262 := by
                        intro k53
                        induction k53 using Nat.strongRecOn with
                        | ind k53 ih52 =>
                          intro v50 s59 hI54
                          have p60 := hS55 k53 v50 s59 hI54
                          refine V_blk C (pc' := 268) (σ' := s59) (L' := [some (.ref 63), some (.int n), some (.int v29), some (.int v15), some (.int v50), none, none, none, none]) (st' := [.int (s59 63 19), .int v50]) (g_c dX8_goes_262 (g_c dX8_goes_264 (g_c dX8_goes_265 g_n))) rfl rfl ?_
                          refine V_icmp_ge2 C (tgt := 295) dX8_goes_268 (by decide) (fun h61 => ?_) (fun h61 => ?_)
                          · skip
                            have p62 := p60.2 h61
                            refine V_blk C (pc' := 301) (σ' := s59) (L' := [some (.ref 63), some (.int n), some (.int (v29 + 1)), some (.int (v15 + 1)), some (.int v50), none, none, none, none]) (st' := []) (g_c dX8_goes_295 (g_c dX8_goes_298 g_n)) rfl rfl ?_
                            refine V_goto C (tgt := 52) dX8_goes_301 (by decide) ?_
                            refine V_less (L' := [some (.ref 63), some (.int n), some (.int (v29 + 1)), some (.int (v15 + 1)), none, none, none, none, none]) (by simp [g_subL]) ?_
                            obtain ⟨k63, hkk63, hIk63⟩ := p62
                            exact ih17 k63 hkk63 (v29 + 1) (v15 + 1) s59 hIk63
                          · skip
                            have p64 := p60.1 h61
                            refine V_blk C (pc' := 287) (σ' := s59) (L' := [some (.ref 63), some (.int n), some (.int v29), some (.int v15), some (.int v50), none, none, none, none]) (st' := [.int v50, .ref 76, .int ((5 * v15) + v50), .ref 77]) (g_c dX8_goes_271 (g_c dX8_goes_272 (g_c dX8_goes_275 (g_c dX8_goes_276 (g_c dX8_goes_277 (g_c dX8_goes_278 (g_c dX8_goes_280 (g_c dX8_goes_281 (g_c dX8_goes_282 (g_c dX8_goes_285 g_n)))))))))) rfl rfl ?_
                            obtain ⟨j67, e68, l66, p65⟩ := p64
                            refine V_ialdJ C (j := j67) (k := 76) (n := 5) (by rfl) (by rfl) e68 ⟨(by omega), (by omega)⟩ dX8_goes_287 ?_
                            obtain ⟨j71, e72, l70, p69⟩ := p65
                            refine V_iastJ C (j := j71) (k := 77) (n := 120) (by rfl) (by rfl) e72 ⟨(by omega), (by omega)⟩ dX8_goes_288 ?_
                            refine V_blk C (pc' := 292) (σ' := (g_up s59 77 j71 (s59 76 j67))) (L' := [some (.ref 63), some (.int n), some (.int v29), some (.int v15), some (.int (v50 + 1)), none, none, none, none]) (st' := []) (g_c dX8_goes_289 g_n) rfl rfl ?_
                            refine V_goto C (tgt := 262) dX8_goes_292 (by decide) ?_
                            obtain ⟨k73, hkk73, hIk73⟩ := p69
                            exact ih52 k73 hkk73 (v50 + 1) (g_up s59 77 j71 (s59 76 j67)) hIk73
                      exact lp57 k56 0 s46 hI58
                    · skip
                      have p74 := p47.1 h48
                      refine V_blk C (pc' := 115) (σ' := s46) (L' := [some (.ref 63), some (.int n), some (.int v29), some (.int v15), some (.int v37), none, none, none, none]) (st' := [.int ((8 * v15) + v37), .ref 75]) (g_c dX8_goes_104 (g_c dX8_goes_105 (g_c dX8_goes_108 (g_c dX8_goes_110 (g_c dX8_goes_111 (g_c dX8_goes_112 (g_c dX8_goes_114 g_n))))))) rfl rfl ?_
                      obtain ⟨j77, e78, l76, p75⟩ := p74
                      refine V_ialdJ C (j := j77) (k := 75) (n := 192) (by rfl) (by rfl) e78 ⟨(by omega), (by omega)⟩ dX8_goes_115 ?_
                      refine V_blk C (pc' := 121) (σ' := s46) (L' := [some (.ref 63), some (.int n), some (.int v29), some (.int v15), some (.int v37), some (.int (s46 75 j77)), none, none, none]) (st' := [.int v37, .ref 63]) (g_c dX8_goes_116 (g_c dX8_goes_118 (g_c dX8_goes_119 g_n))) rfl rfl ?_
                      refine V_gV C cv_X8_150 p75 ⟨_, _, _, _, rfl, rfl⟩ (by rfl) (by decide) (As := [.int v37]) (rest := []) rfl rfl (Nat.le_of_ble_eq_true rfl) dX8_goes_121 (fun rv s79 hq => ?_)
                      obtain ⟨r81, rfl, p80⟩ := hq
                      refine V_blk C (pc' := 129) (σ' := s79) (L' := [some (.ref 63), some (.int n), some (.int v29), some (.int v15), some (.int v37), some (.int (s46 75 j77)), some (.int r81), none, none]) (st' := [.int (-1), .int r81]) (g_c dX8_goes_124 (g_c dX8_goes_126 (g_c dX8_goes_128 g_n))) rfl rfl ?_
                      obtain ⟨J84, p86, p87⟩ := p80
                      have jn85 : ∀ (v82 : Int32) (s83 : gS) (_ : J84 v82 s83), gV X G K 9 Qp s83 [some (.ref 63), some (.int n), some (.int v29), some (.int v15), some (.int v37), some (.int v82), none, none, none] [] 184 := by
                        intro v82 s83 hJ88
                        have p89 := p87 v82 s83 hJ88
                        refine V_blk C (pc' := 197) (σ' := s83) (L' := [some (.ref 63), some (.int n), some (.int v29), some (.int v15), some (.int v37), some (.int v82), none, none, none]) (st' := [.int v82, .int ((8 * v15) + v37), .ref 78]) (g_c dX8_goes_184 (g_c dX8_goes_185 (g_c dX8_goes_188 (g_c dX8_goes_190 (g_c dX8_goes_191 (g_c dX8_goes_192 (g_c dX8_goes_194 (g_c dX8_goes_195 g_n)))))))) rfl rfl ?_
                        refine V_iastJ C (j := j77) (k := 78) (n := 192) (by rfl) (by rfl) e78 ⟨(by omega), (by omega)⟩ dX8_goes_197 ?_
                        refine V_blk C (pc' := 200) (σ' := (g_up s83 78 j77 v82)) (L' := [some (.ref 63), some (.int n), some (.int v29), some (.int v15), some (.int v37), some (.int v82), none, none, none]) (st' := [.int v82]) (g_c dX8_goes_198 g_n) rfl rfl ?_
                        refine V_if_le2 C (tgt := 253) dX8_goes_200 (by decide) (fun h90 => ?_) (fun h90 => ?_)
                        · skip
                          have p91 := p89.2 h90
                          refine V_blk C (pc' := 256) (σ' := (g_up s83 78 j77 v82)) (L' := [some (.ref 63), some (.int n), some (.int v29), some (.int v15), some (.int (v37 + 1)), some (.int v82), none, none, none]) (st' := []) (g_c dX8_goes_253 g_n) rfl rfl ?_
                          refine V_goto C (tgt := 97) dX8_goes_256 (by decide) ?_
                          refine V_less (L' := [some (.ref 63), some (.int n), some (.int v29), some (.int v15), some (.int (v37 + 1)), none, none, none, none]) (by simp [g_subL]) ?_
                          obtain ⟨k92, hkk92, hIk92⟩ := p91
                          exact ih39 k92 hkk92 (v37 + 1) (g_up s83 78 j77 v82) hIk92
                        · skip
                          have p93 := p89.1 h90
                          refine V_blk C (pc' := 215) (σ' := (g_up s83 78 j77 v82)) (L' := [some (.ref 63), some (.int n), some (.int v29), some (.int v15), some (.int v37), some (.int v82), none, none, none]) (st' := [.int v29, .int v82, .int v37, .int v15, .ref 63, .int (s83 63 39), .ref 63]) (g_c dX8_goes_203 (g_c dX8_goes_204 (g_c dX8_goes_205 (g_c dX8_goes_208 (g_c dX8_goes_209 (g_c dX8_goes_210 (g_c dX8_goes_212 (g_c dX8_goes_214 g_n)))))))) rfl rfl ?_
                          refine V_gV C cv_X8_313 p93 ⟨_, _, _, _, rfl, rfl⟩ (by rfl) (by decide) (As := [.int v15, .int v37, .int v82, .int v29]) (rest := [.int (s83 63 39), .ref 63]) rfl rfl (Nat.le_of_ble_eq_true rfl) dX8_goes_215 (fun rv s94 hq => ?_)
                          obtain ⟨r96, rfl, p95⟩ := hq
                          refine V_blk C (pc' := 239) (σ' := (g_up (g_up s94 63 39 ((s83 63 39) + r96)) 63 41 ((s94 63 41) + v82))) (L' := [some (.ref 63), some (.int n), some (.int v29), some (.int v15), some (.int v37), some (.int v82), none, none, none]) (st' := [.int (-1), .int (s94 63 42), .ref 63]) (g_c dX8_goes_218 (g_c dX8_goes_219 (g_c dX8_goes_222 (g_c dX8_goes_223 (g_c dX8_goes_224 (g_c dX8_goes_227 (g_c dX8_goes_229 (g_c dX8_goes_230 (g_c dX8_goes_233 (g_c dX8_goes_234 (g_c dX8_goes_235 (g_c dX8_goes_238 g_n)))))))))))) rfl rfl ?_
                          refine V_join (P := ((s94 63 42) : Int32) = (-1)) (a := v15) (b := (s94 63 42)) (pcJ := 250) (rest := [.ref 63]) (fun x_ hx_ => ?_) (fun kT kF => ?_)
                          · skip
                            subst hx_
                            refine V_blk C (pc' := 256) (σ' := (g_up (g_up (g_up s94 63 39 ((s83 63 39) + r96)) 63 41 ((s94 63 41) + v82)) 63 42 (if ((s94 63 42) : Int32) = (-1) then v15 else (s94 63 42)))) (L' := [some (.ref 63), some (.int n), some (.int v29), some (.int v15), some (.int (v37 + 1)), some (.int v82), none, none, none]) (st' := []) (g_c dX8_goes_250 (g_c dX8_goes_253 g_n)) rfl rfl ?_
                            refine V_goto C (tgt := 97) dX8_goes_256 (by decide) ?_
                            refine V_less (L' := [some (.ref 63), some (.int n), some (.int v29), some (.int v15), some (.int (v37 + 1)), none, none, none, none]) (by simp [g_subL]) ?_
                            obtain ⟨k98, hkk98, hIk98⟩ := p95
                            exact ih39 k98 hkk98 (v37 + 1) (g_up (g_up (g_up s94 63 39 ((s83 63 39) + r96)) 63 41 ((s94 63 41) + v82)) 63 42 (if ((s94 63 42) : Int32) = (-1) then v15 else (s94 63 42))) hIk98
                          · refine V_icmp_ne C (tgt := 246) dX8_goes_239 (by decide) (fun h97 => ?_) (fun h97 => ?_)
                            · skip
                              refine V_blk C (pc' := 250) (σ' := (g_up (g_up s94 63 39 ((s83 63 39) + r96)) 63 41 ((s94 63 41) + v82))) (L' := [some (.ref 63), some (.int n), some (.int v29), some (.int v15), some (.int v37), some (.int v82), none, none, none]) (st' := [.int (s94 63 42), .ref 63]) (g_c dX8_goes_246 (g_c dX8_goes_247 g_n)) rfl rfl ?_
                              exact kF h97
                            · skip
                              refine V_blk C (pc' := 243) (σ' := (g_up (g_up s94 63 39 ((s83 63 39) + r96)) 63 41 ((s94 63 41) + v82))) (L' := [some (.ref 63), some (.int n), some (.int v29), some (.int v15), some (.int v37), some (.int v82), none, none, none]) (st' := [.int v15, .ref 63]) (g_c dX8_goes_242 g_n) rfl rfl ?_
                              refine V_goto C (tgt := 250) dX8_goes_243 (by decide) ?_
                              exact kT h97
                      refine V_icmp_eq C (tgt := 184) dX8_goes_129 (by decide) (fun h99 => ?_) (fun h99 => ?_)
                      · skip
                        have p100 := p86.1 h99
                        refine V_less (L' := [some (.ref 63), some (.int n), some (.int v29), some (.int v15), some (.int v37), some (.int (s46 75 j77)), none, none, none]) (by simp [g_subL]) ?_
                        exact jn85 (s46 75 j77) s79 p100
                      · skip
                        have p101 := p86.2 h99
                        refine V_blk C (pc' := 138) (σ' := s79) (L' := [some (.ref 63), some (.int n), some (.int v29), some (.int v15), some (.int v37), some (.int (s46 75 j77)), some (.int r81), none, none]) (st' := [.int r81, .ref 72]) (g_c dX8_goes_132 (g_c dX8_goes_133 (g_c dX8_goes_136 g_n))) rfl rfl ?_
                        obtain ⟨j104, e105, l103, p102⟩ := p101
                        refine V_ialdJ C (j := j104) (k := 72) (n := 5) (by rfl) (by rfl) e105 ⟨(by omega), (by omega)⟩ dX8_goes_138 ?_
                        refine V_blk C (pc' := 145) (σ' := s79) (L' := [some (.ref 63), some (.int n), some (.int v29), some (.int v15), some (.int v37), some (.int (s46 75 j77)), some (.int r81), none, none]) (st' := [.int r81, .ref 76, .int (s79 72 j104)]) (g_c dX8_goes_139 (g_c dX8_goes_140 (g_c dX8_goes_143 g_n))) rfl rfl ?_
                        refine V_ialdJ C (j := j104) (k := 76) (n := 5) (by rfl) (by rfl) e105 ⟨(by omega), (by omega)⟩ dX8_goes_145 ?_
                        refine V_blk C (pc' := 153) (σ' := s79) (L' := [some (.ref 63), some (.int n), some (.int v29), some (.int v15), some (.int v37), some (.int (s46 75 j77)), some (.int r81), some (.int ((s79 72 j104) - (s79 76 j104))), none]) (st' := [.int ((s79 72 j104) - (s79 76 j104)), .int (s46 75 j77)]) (g_c dX8_goes_146 (g_c dX8_goes_147 (g_c dX8_goes_149 (g_c dX8_goes_151 g_n)))) rfl rfl ?_
                        refine V_join (P := ((s46 75 j77) : Int32) < ((s79 72 j104) - (s79 76 j104))) (a := (s46 75 j77)) (b := ((s79 72 j104) - (s79 76 j104))) (pcJ := 163) (rest := []) (fun x_ hx_ => ?_) (fun kT kF => ?_)
                        · skip
                          subst hx_
                          refine V_blk C (pc' := 172) (σ' := s79) (L' := [some (.ref 63), some (.int n), some (.int v29), some (.int v15), some (.int v37), some (.int (s46 75 j77)), some (.int r81), some (.int ((s79 72 j104) - (s79 76 j104))), some (.int (if ((s46 75 j77) : Int32) < ((s79 72 j104) - (s79 76 j104)) then (s46 75 j77) else ((s79 72 j104) - (s79 76 j104))))]) (st' := [.int r81, .ref 76, .int r81, .ref 76]) (g_c dX8_goes_163 (g_c dX8_goes_165 (g_c dX8_goes_166 (g_c dX8_goes_169 (g_c dX8_goes_171 g_n))))) rfl rfl ?_
                          refine V_ialdJ C (j := j104) (k := 76) (n := 5) (by rfl) (by rfl) e105 ⟨(by omega), (by omega)⟩ dX8_goes_172 ?_
                          refine V_blk C (pc' := 176) (σ' := s79) (L' := [some (.ref 63), some (.int n), some (.int v29), some (.int v15), some (.int v37), some (.int (s46 75 j77)), some (.int r81), some (.int ((s79 72 j104) - (s79 76 j104))), some (.int (if ((s46 75 j77) : Int32) < ((s79 72 j104) - (s79 76 j104)) then (s46 75 j77) else ((s79 72 j104) - (s79 76 j104))))]) (st' := [.int ((s79 76 j104) + (if ((s46 75 j77) : Int32) < ((s79 72 j104) - (s79 76 j104)) then (s46 75 j77) else ((s79 72 j104) - (s79 76 j104)))), .int r81, .ref 76]) (g_c dX8_goes_173 (g_c dX8_goes_175 g_n)) rfl rfl ?_
                          refine V_iastJ C (j := j104) (k := 76) (n := 5) (by rfl) (by rfl) e105 ⟨(by omega), (by omega)⟩ dX8_goes_176 ?_
                          refine V_blk C (pc' := 184) (σ' := (g_up s79 76 j104 ((s79 76 j104) + (if ((s46 75 j77) : Int32) < ((s79 72 j104) - (s79 76 j104)) then (s46 75 j77) else ((s79 72 j104) - (s79 76 j104)))))) (L' := [some (.ref 63), some (.int n), some (.int v29), some (.int v15), some (.int v37), some (.int ((s46 75 j77) - (if ((s46 75 j77) : Int32) < ((s79 72 j104) - (s79 76 j104)) then (s46 75 j77) else ((s79 72 j104) - (s79 76 j104))))), some (.int r81), some (.int ((s79 72 j104) - (s79 76 j104))), some (.int (if ((s46 75 j77) : Int32) < ((s79 72 j104) - (s79 76 j104)) then (s46 75 j77) else ((s79 72 j104) - (s79 76 j104))))]) (st' := []) (g_c dX8_goes_177 (g_c dX8_goes_179 (g_c dX8_goes_181 (g_c dX8_goes_182 g_n)))) rfl rfl ?_
                          refine V_less (L' := [some (.ref 63), some (.int n), some (.int v29), some (.int v15), some (.int v37), some (.int ((s46 75 j77) - (if ((s46 75 j77) : Int32) < ((s79 72 j104) - (s79 76 j104)) then (s46 75 j77) else ((s79 72 j104) - (s79 76 j104))))), none, none, none]) (by simp [g_subL]) ?_
                          exact jn85 ((s46 75 j77) - (if ((s46 75 j77) : Int32) < ((s79 72 j104) - (s79 76 j104)) then (s46 75 j77) else ((s79 72 j104) - (s79 76 j104)))) (g_up s79 76 j104 ((s79 76 j104) + (if ((s46 75 j77) : Int32) < ((s79 72 j104) - (s79 76 j104)) then (s46 75 j77) else ((s79 72 j104) - (s79 76 j104))))) p102
                        · refine V_icmp_ge2 C (tgt := 161) dX8_goes_153 (by decide) (fun h106 => ?_) (fun h106 => ?_)
                          · skip
                            refine V_blk C (pc' := 163) (σ' := s79) (L' := [some (.ref 63), some (.int n), some (.int v29), some (.int v15), some (.int v37), some (.int (s46 75 j77)), some (.int r81), some (.int ((s79 72 j104) - (s79 76 j104))), none]) (st' := [.int ((s79 72 j104) - (s79 76 j104))]) (g_c dX8_goes_161 g_n) rfl rfl ?_
                            exact kF h106
                          · skip
                            refine V_blk C (pc' := 158) (σ' := s79) (L' := [some (.ref 63), some (.int n), some (.int v29), some (.int v15), some (.int v37), some (.int (s46 75 j77)), some (.int r81), some (.int ((s79 72 j104) - (s79 76 j104))), none]) (st' := [.int (s46 75 j77)]) (g_c dX8_goes_156 g_n) rfl rfl ?_
                            refine V_goto C (tgt := 163) dX8_goes_158 (by decide) ?_
                            exact kT h106
                exact lp44 k43 0 s30 hI45
              refine V_icmp_ne C (tgt := 94) dX8_goes_66 (by decide) (fun h107 => ?_) (fun h107 => ?_)
              · skip
                have p108 := p33.2 h107
                exact jn32 v14 s24 p108
              · skip
                have p109 := p33.1 h107
                refine V_blk C (pc' := 81) (σ' := s24) (L' := [some (.ref 63), some (.int n), some (.int v14), some (.int v15), none, none, none, none, none]) (st' := [.int v14, .int 0, .int 0, .int 0, .int v15, .int 2, .ref 63, .int (s24 63 40), .ref 63]) (g_c dX8_goes_69 (g_c dX8_goes_70 (g_c dX8_goes_71 (g_c dX8_goes_74 (g_c dX8_goes_75 (g_c dX8_goes_76 (g_c dX8_goes_77 (g_c dX8_goes_78 (g_c dX8_goes_79 (g_c dX8_goes_80 g_n)))))))))) rfl rfl ?_
                refine V_gV C cv_X8_281 p109 ⟨_, _, _, _, rfl, rfl⟩ (by rfl) (by decide) (As := [.int 2, .int v15, .int 0, .int 0, .int 0, .int v14]) (rest := [.int (s24 63 40), .ref 63]) rfl rfl (Nat.le_of_ble_eq_true rfl) dX8_goes_81 (fun rv s110 hq => ?_)
                obtain ⟨r112, rfl, p111⟩ := hq
                refine V_blk C (pc' := 89) (σ' := (g_up s110 63 40 ((s24 63 40) + r112))) (L' := [some (.ref 63), some (.int n), some (.int v14), some (.int v15), none, none, none, none, none]) (st' := [.ref 63]) (g_c dX8_goes_84 (g_c dX8_goes_85 (g_c dX8_goes_88 g_n))) rfl rfl ?_
                refine V_gV C cv_X8_310 p111 ⟨_, _, _, _, rfl, rfl⟩ (by rfl) (by decide) (As := []) (rest := []) rfl rfl (Nat.le_of_ble_eq_true rfl) dX8_goes_89 (fun rv s113 hq => ?_)
                obtain ⟨rfl, p114⟩ := hq
                refine V_blk C (pc' := 94) (σ' := s113) (L' := [some (.ref 63), some (.int n), some (.int 0), some (.int v15), none, none, none, none, none]) (st' := []) (g_c dX8_goes_92 (g_c dX8_goes_93 g_n)) rfl rfl ?_
                exact jn32 0 s113 p114
        exact lp22 k21 0 0 (g_up (g_up (g_up (g_up s10 63 39 0) 63 40 0) 63 41 0) 63 42 (-1)) hI23
      · skip
        have p115 := p11.1 h12
        refine V_blk C (pc' := 20) (σ' := s10) (L' := [some (.ref 63), some (.int n), some (.int v1), none, none, none, none, none, none]) (st' := [.int v1, .ref 74, .int v1, .ref 76]) (g_c dX8_goes_10 (g_c dX8_goes_11 (g_c dX8_goes_14 (g_c dX8_goes_15 (g_c dX8_goes_16 (g_c dX8_goes_19 g_n)))))) rfl rfl ?_
        obtain ⟨j118, e119, l117, p116⟩ := p115
        refine V_ialdJ C (j := j118) (k := 74) (n := 5) (by rfl) (by rfl) e119 ⟨(by omega), (by omega)⟩ dX8_goes_20 ?_
        refine V_iastJ C (j := j118) (k := 76) (n := 5) (by rfl) (by rfl) e119 ⟨(by omega), (by omega)⟩ dX8_goes_21 ?_
        refine V_blk C (pc' := 25) (σ' := (g_up s10 76 j118 (s10 74 j118))) (L' := [some (.ref 63), some (.int n), some (.int (v1 + 1)), none, none, none, none, none, none]) (st' := []) (g_c dX8_goes_22 g_n) rfl rfl ?_
        refine V_goto C (tgt := 2) dX8_goes_25 (by decide) ?_
        obtain ⟨k120, hkk120, hIk120⟩ := p116
        exact ih3 k120 hkk120 (v1 + 1) (g_up s10 76 j118 (s10 74 j118)) hIk120
  exact lp8 k7 0 σ hI9
set_option maxRecDepth 100000 in
def P_X8_cost (h : Nat)  (σ : gS) (Qp : Option Value → gS → Prop) : Prop :=
  (g_call yX8_goes cX8_goes 9 none kM h [.ref 63, .int 24] σ (fun rv s1 => rv = none ∧ (Qp (some (.int ((s1 63 39) + (s1 63 40)))) s1)))
set_option maxHeartbeats 4000000 in
set_option maxRecDepth 100000 in
theorem w_X8_cost {h : Nat} (hh : 6 ≤ h)  {σ : gS} {Qp : Option Value → gS → Prop} (P : P_X8_cost h  σ Qp) : g_Met yX8_cost cX8_cost 1 (some .int) h kM [.ref 63] σ Qp := by
  unfold P_X8_cost at P
  refine g_Met.of (own := 8) (L := [some (.ref 63)]) (by decide) rfl rfl (fun ad => Nat.le_of_ble_eq_true rfl) (fun ad => rfl) (fun X G K C => ?_)
  refine V_blk C (pc' := 3) (σ' := σ) (L' := [some (.ref 63)]) (st' := [.int 24, .ref 63]) (g_c dX8_cost_0 (g_c dX8_cost_1 g_n)) rfl rfl ?_
  refine V_gV C cv_X8_317 P ⟨_, _, _, _, rfl, rfl⟩ (by rfl) (by decide) (As := [.int 24]) (rest := []) rfl rfl (Nat.le_of_ble_eq_true rfl) dX8_cost_3 (fun rv s1 hq => ?_)
  obtain ⟨rfl, p2⟩ := hq
  refine V_blk C (pc' := 15) (σ' := s1) (L' := [some (.ref 63)]) (st' := [.int ((s1 63 39) + (s1 63 40))]) (g_c dX8_cost_6 (g_c dX8_cost_7 (g_c dX8_cost_10 (g_c dX8_cost_11 (g_c dX8_cost_14 g_n))))) rfl rfl ?_
  refine V_iret C dX8_cost_15 ?_
  exact p2
set_option maxRecDepth 100000 in
def P_X8_costNow (h : Nat)  (σ : gS) (Qp : Option Value → gS → Prop) : Prop :=
  (g_call yX8_allDrips cX8_allDrips 1 (some .int) kM h [.ref 63] σ (fun rv s1 => ∃ r3 : Int32, rv = some (.int r3) ∧ (g_call yX8_poursOf cX8_poursOf 3 none kM h [.ref 63, .int r3] s1 (fun rv s4 => rv = none ∧ (g_call yX8_cost cX8_cost 1 (some .int) kM h [.ref 63] s4 (fun rv s6 => ∃ r8 : Int32, rv = some (.int r8) ∧ (Qp (some (.int r8)) s6)))))))
set_option maxHeartbeats 4000000 in
set_option maxRecDepth 100000 in
theorem w_X8_costNow {h : Nat} (hh : 6 ≤ h)  {σ : gS} {Qp : Option Value → gS → Prop} (P : P_X8_costNow h  σ Qp) : g_Met yX8_costNow cX8_costNow 1 (some .int) h kM [.ref 63] σ Qp := by
  unfold P_X8_costNow at P
  refine g_Met.of (own := 8) (L := [some (.ref 63)]) (by decide) rfl rfl (fun ad => Nat.le_of_ble_eq_true rfl) (fun ad => rfl) (fun X G K C => ?_)
  refine V_blk C (pc' := 2) (σ' := σ) (L' := [some (.ref 63)]) (st' := [.ref 63, .ref 63]) (g_c dX8_costNow_0 (g_c dX8_costNow_1 g_n)) rfl rfl ?_
  refine V_gV C cv_X8_321 P ⟨_, _, _, _, rfl, rfl⟩ (by rfl) (by decide) (As := []) (rest := [.ref 63]) rfl rfl (Nat.le_of_ble_eq_true rfl) dX8_costNow_2 (fun rv s1 hq => ?_)
  obtain ⟨r3, rfl, p2⟩ := hq
  refine V_gV C cv_X8_324 p2 ⟨_, _, _, _, rfl, rfl⟩ (by rfl) (by decide) (As := [.int r3]) (rest := []) rfl rfl (Nat.le_of_ble_eq_true rfl) dX8_costNow_5 (fun rv s4 hq => ?_)
  obtain ⟨rfl, p5⟩ := hq
  refine V_blk C (pc' := 9) (σ' := s4) (L' := [some (.ref 63)]) (st' := [.ref 63]) (g_c dX8_costNow_8 g_n) rfl rfl ?_
  refine V_gV C cv_X8_327 p5 ⟨_, _, _, _, rfl, rfl⟩ (by rfl) (by decide) (As := []) (rest := []) rfl rfl (Nat.le_of_ble_eq_true rfl) dX8_costNow_9 (fun rv s6 hq => ?_)
  obtain ⟨r8, rfl, p7⟩ := hq
  refine V_iret C dX8_costNow_12 ?_
  exact p7
set_option maxRecDepth 100000 in
def P_X8_day (h : Nat) (wh : Int32) (σ : gS) (Qp : Option Value → gS → Prop) : Prop :=
  ((g_in wh 0 5 → (g_call yX8_costNow cX8_costNow 1 (some .int) kM h [.ref 63] σ (fun rv s3 => ∃ r5 : Int32, rv = some (.int r5) ∧ (((wh : Int32) < 3 → (((wh : Int32) = 0 → (Qp (some (.int (s3 63 39))) s3)) ∧ (¬ (wh : Int32) = 0 → (Qp (some (.int (if (wh : Int32) = 1 then (s3 63 40) else r5))) s3)))) ∧ (¬ (wh : Int32) < 3 → (((wh : Int32) < 5 → (Qp (some (.int (if (wh : Int32) = 3 then (s3 63 41) else (s3 63 42)))) s3)) ∧ (¬ (wh : Int32) < 5 → (∃ I12 : Nat → Int32 → Int32 → Prop, (∃ k17 : Nat, I12 k17 0 0) ∧ ∀ (k14 : Nat) (v10 : Int32) (v11 : Int32), I12 k14 v10 v11 → (((v11 : Int32) < 192 → (∃ j27 : Nat, v11 = nI j27 ∧ j27 < 192 ∧ (∃ k29 : Nat, k29 < k14 ∧ I12 k29 (v10 + (s3 75 j27)) (v11 + 1)))) ∧ (¬ (v11 : Int32) < 192 → (Qp (some (.int v10)) s3))))))))))) ∧ (¬ g_in wh 0 5 → (Qp (some (.int (-2))) σ)))
set_option maxHeartbeats 4000000 in
set_option maxRecDepth 100000 in
theorem w_X8_day {h : Nat} (hh : 6 ≤ h) {wh : Int32} {σ : gS} {Qp : Option Value → gS → Prop} (P : P_X8_day h wh σ Qp) : g_Met yX8_day cX8_day 5 (some .int) h kM [.ref 63, .int wh] σ Qp := by
  unfold P_X8_day at P
  refine g_Met.of (own := 8) (L := [some (.ref 63), some (.int wh), none, none, none]) (by decide) rfl rfl (fun ad => Nat.le_of_ble_eq_true rfl) (fun ad => rfl) (fun X G K C => ?_)
  refine V_blk C (pc' := 6) (σ' := σ) (L' := [some (.ref 63), some (.int wh), none, none, none]) (st' := [.long 5, .long 0, .long (Int32.toInt64 wh)]) (g_c dX8_day_0 (g_c dX8_day_1 (g_c dX8_day_2 (g_c dX8_day_3 g_n)))) rfl rfl ?_
  refine V_callSI C cs_X8_110 (c_X8_in32 σ wh 0 5 (by decide) (by decide)) (by omega) (by decide) (fun _ h => h) (As := [.long (Int32.toInt64 wh), .long 0, .long 5]) (rest := []) rfl rfl (Nat.le_of_ble_eq_true rfl) dX8_day_6 ?_
  refine V_if_ne_b C (tgt := 15) dX8_day_9 (by decide) (fun h1 => ?_) (fun h1 => ?_)
  · skip
    have p2 := P.1 h1
    refine V_blk C (pc' := 16) (σ' := σ) (L' := [some (.ref 63), some (.int wh), none, none, none]) (st' := [.ref 63]) (g_c dX8_day_15 g_n) rfl rfl ?_
    refine V_gV C cv_X8_330 p2 ⟨_, _, _, _, rfl, rfl⟩ (by rfl) (by decide) (As := []) (rest := []) rfl rfl (Nat.le_of_ble_eq_true rfl) dX8_day_16 (fun rv s3 hq => ?_)
    obtain ⟨r5, rfl, p4⟩ := hq
    refine V_blk C (pc' := 22) (σ' := s3) (L' := [some (.ref 63), some (.int wh), some (.int r5), none, none]) (st' := [.int 3, .int wh]) (g_c dX8_day_19 (g_c dX8_day_20 (g_c dX8_day_21 g_n))) rfl rfl ?_
    refine V_icmp_ge2 C (tgt := 50) dX8_day_22 (by decide) (fun h6 => ?_) (fun h6 => ?_)
    · skip
      have p7 := p4.2 h6
      refine V_blk C (pc' := 52) (σ' := s3) (L' := [some (.ref 63), some (.int wh), some (.int r5), none, none]) (st' := [.int 5, .int wh]) (g_c dX8_day_50 (g_c dX8_day_51 g_n)) rfl rfl ?_
      refine V_icmp_ge2 C (tgt := 72) dX8_day_52 (by decide) (fun h8 => ?_) (fun h8 => ?_)
      · skip
        have p9 := p7.2 h8
        refine V_blk C (pc' := 77) (σ' := s3) (L' := [some (.ref 63), some (.int wh), some (.int r5), some (.int 0), some (.int 0)]) (st' := []) (g_c dX8_day_72 (g_c dX8_day_73 (g_c dX8_day_74 (g_c dX8_day_75 g_n)))) rfl rfl ?_
        refine V_less (L' := [some (.ref 63), none, none, some (.int 0), some (.int 0)]) (by simp [g_subL]) ?_
        obtain ⟨I12, ⟨k17, hI19⟩, hS16⟩ := p9
        have lp18 : ∀ (k14 : Nat) (v10 : Int32) (v11 : Int32), I12 k14 v10 v11 → gV X G K 5 Qp s3 [some (.ref 63), none, none, some (.int v10), some (.int v11)] [] 77 := by
          intro k14
          induction k14 using Nat.strongRecOn with
          | ind k14 ih13 =>
            intro v10 v11 hI15
            have p21 := hS16 k14 v10 v11 hI15
            refine V_blk C (pc' := 82) (σ' := s3) (L' := [some (.ref 63), none, none, some (.int v10), some (.int v11)]) (st' := [.int 192, .int v11]) (g_c dX8_day_77 (g_c dX8_day_79 g_n)) rfl rfl ?_
            refine V_icmp_ge2 C (tgt := 101) dX8_day_82 (by decide) (fun h22 => ?_) (fun h22 => ?_)
            · skip
              have p23 := p21.2 h22
              refine V_blk C (pc' := 102) (σ' := s3) (L' := [some (.ref 63), none, none, some (.int v10), some (.int v11)]) (st' := [.int v10]) (g_c dX8_day_101 g_n) rfl rfl ?_
              refine V_iret C dX8_day_102 ?_
              exact p23
            · skip
              have p24 := p21.1 h22
              refine V_blk C (pc' := 92) (σ' := s3) (L' := [some (.ref 63), none, none, some (.int v10), some (.int v11)]) (st' := [.int v11, .ref 75, .int v10]) (g_c dX8_day_85 (g_c dX8_day_86 (g_c dX8_day_87 (g_c dX8_day_90 g_n)))) rfl rfl ?_
              obtain ⟨j27, e28, l26, p25⟩ := p24
              refine V_ialdJ C (j := j27) (k := 75) (n := 192) (by rfl) (by rfl) e28 ⟨(by omega), (by omega)⟩ dX8_day_92 ?_
              refine V_blk C (pc' := 98) (σ' := s3) (L' := [some (.ref 63), none, none, some (.int (v10 + (s3 75 j27))), some (.int (v11 + 1))]) (st' := []) (g_c dX8_day_93 (g_c dX8_day_94 (g_c dX8_day_95 g_n))) rfl rfl ?_
              refine V_goto C (tgt := 77) dX8_day_98 (by decide) ?_
              obtain ⟨k29, hkk29, hIk29⟩ := p25
              exact ih13 k29 hkk29 (v10 + (s3 75 j27)) (v11 + 1) hIk29
        exact lp18 k17 0 0 hI19
      · skip
        have p30 := p7.1 h8
        refine V_blk C (pc' := 57) (σ' := s3) (L' := [some (.ref 63), some (.int wh), some (.int r5), none, none]) (st' := [.int 3, .int wh]) (g_c dX8_day_55 (g_c dX8_day_56 g_n)) rfl rfl ?_
        refine V_join (P := (wh : Int32) = 3) (a := (s3 63 41)) (b := (s3 63 42)) (pcJ := 71) (rest := []) (fun x_ hx_ => ?_) (fun kT kF => ?_)
        · skip
          subst hx_
          refine V_iret C dX8_day_71 ?_
          exact p30
        · refine V_icmp_ne C (tgt := 67) dX8_day_57 (by decide) (fun h31 => ?_) (fun h31 => ?_)
          · skip
            refine V_blk C (pc' := 71) (σ' := s3) (L' := [some (.ref 63), some (.int wh), some (.int r5), none, none]) (st' := [.int (s3 63 42)]) (g_c dX8_day_67 (g_c dX8_day_68 g_n)) rfl rfl ?_
            exact kF h31
          · skip
            refine V_blk C (pc' := 64) (σ' := s3) (L' := [some (.ref 63), some (.int wh), some (.int r5), none, none]) (st' := [.int (s3 63 41)]) (g_c dX8_day_60 (g_c dX8_day_61 g_n)) rfl rfl ?_
            refine V_goto C (tgt := 71) dX8_day_64 (by decide) ?_
            exact kT h31
    · skip
      have p32 := p4.1 h6
      refine V_blk C (pc' := 26) (σ' := s3) (L' := [some (.ref 63), some (.int wh), some (.int r5), none, none]) (st' := [.int wh]) (g_c dX8_day_25 g_n) rfl rfl ?_
      refine V_if_ne C (tgt := 36) dX8_day_26 (by decide) (fun h33 => ?_) (fun h33 => ?_)
      · skip
        have p34 := p32.2 h33
        refine V_blk C (pc' := 38) (σ' := s3) (L' := [some (.ref 63), some (.int wh), some (.int r5), none, none]) (st' := [.int 1, .int wh]) (g_c dX8_day_36 (g_c dX8_day_37 g_n)) rfl rfl ?_
        refine V_join (P := (wh : Int32) = 1) (a := (s3 63 40)) (b := r5) (pcJ := 49) (rest := []) (fun x_ hx_ => ?_) (fun kT kF => ?_)
        · skip
          subst hx_
          refine V_iret C dX8_day_49 ?_
          exact p34
        · refine V_icmp_ne C (tgt := 48) dX8_day_38 (by decide) (fun h35 => ?_) (fun h35 => ?_)
          · skip
            refine V_blk C (pc' := 49) (σ' := s3) (L' := [some (.ref 63), some (.int wh), some (.int r5), none, none]) (st' := [.int r5]) (g_c dX8_day_48 g_n) rfl rfl ?_
            exact kF h35
          · skip
            refine V_blk C (pc' := 45) (σ' := s3) (L' := [some (.ref 63), some (.int wh), some (.int r5), none, none]) (st' := [.int (s3 63 40)]) (g_c dX8_day_41 (g_c dX8_day_42 g_n)) rfl rfl ?_
            refine V_goto C (tgt := 49) dX8_day_45 (by decide) ?_
            exact kT h35
      · skip
        have p36 := p32.1 h33
        refine V_blk C (pc' := 33) (σ' := s3) (L' := [some (.ref 63), some (.int wh), some (.int r5), none, none]) (st' := [.int (s3 63 39)]) (g_c dX8_day_29 (g_c dX8_day_30 g_n)) rfl rfl ?_
        refine V_goto C (tgt := 49) dX8_day_33 (by decide) ?_
        refine V_iret C dX8_day_49 ?_
        exact p36
  · skip
    have p37 := P.2 h1
    refine V_blk C (pc' := 14) (σ' := σ) (L' := [some (.ref 63), some (.int wh), none, none, none]) (st' := [.int (-2)]) (g_c dX8_day_12 g_n) rfl rfl ?_
    refine V_iret C dX8_day_14 ?_
    exact p37
set_option maxRecDepth 100000 in
def P_X8_water (h : Nat) (of_ : Int32) (hr : Int32) (wh : Int32) (σ : gS) (Qp : Option Value → gS → Prop) : Prop :=
  ((g_in wh 0 1 → ((g_in hr 0 23 → (∃ J7 : Prop, (((wh : Int32) = 0 → ((g_in of_ 0 ((σ 63 19) - 1) → (J7)) ∧ (¬ g_in of_ 0 ((σ 63 19) - 1) → (Qp (some (.int (-2))) σ)))) ∧ (¬ (wh : Int32) = 0 → ((g_in of_ 0 7 → (J7)) ∧ (¬ g_in of_ 0 7 → (Qp (some (.int (-2))) σ))))) ∧ (J7 → (g_call yX8_costNow cX8_costNow 1 (some .int) kM h [.ref 63] σ (fun rv s13 => ∃ r15 : Int32, rv = some (.int r15) ∧ (((wh : Int32) = 0 → (∃ j25 : Nat, ((5 * hr) + of_) = nI j25 ∧ j25 < 120 ∧ (Qp (some (.int (s13 77 j25))) s13))) ∧ (¬ (wh : Int32) = 0 → (∃ j20 : Nat, ((8 * hr) + of_) = nI j20 ∧ j20 < 192 ∧ (Qp (some (.int (s13 78 j20))) s13))))))))) ∧ (¬ g_in hr 0 23 → (Qp (some (.int (-2))) σ)))) ∧ (¬ g_in wh 0 1 → (Qp (some (.int (-2))) σ)))
set_option maxHeartbeats 4000000 in
set_option maxRecDepth 100000 in
theorem w_X8_water {h : Nat} (hh : 6 ≤ h) {of_ : Int32} {hr : Int32} {wh : Int32} {σ : gS} {Qp : Option Value → gS → Prop} (P : P_X8_water h of_ hr wh σ Qp) : g_Met yX8_water cX8_water 4 (some .int) h kM [.ref 63, .int of_, .int hr, .int wh] σ Qp := by
  unfold P_X8_water at P
  refine g_Met.of (own := 8) (L := [some (.ref 63), some (.int of_), some (.int hr), some (.int wh)]) (by decide) rfl rfl (fun ad => Nat.le_of_ble_eq_true rfl) (fun ad => rfl) (fun X G K C => ?_)
  refine V_blk C (pc' := 4) (σ' := σ) (L' := [some (.ref 63), some (.int of_), some (.int hr), some (.int wh)]) (st' := [.long 1, .long 0, .long (Int32.toInt64 wh)]) (g_c dX8_water_0 (g_c dX8_water_1 (g_c dX8_water_2 (g_c dX8_water_3 g_n)))) rfl rfl ?_
  refine V_callSI C cs_X8_110 (c_X8_in32 σ wh 0 1 (by decide) (by decide)) (by omega) (by decide) (fun _ h => h) (As := [.long (Int32.toInt64 wh), .long 0, .long 1]) (rest := []) rfl rfl (Nat.le_of_ble_eq_true rfl) dX8_water_4 ?_
  refine V_if_eq_b C (tgt := 39) dX8_water_7 (by decide) (fun h1 => ?_) (fun h1 => ?_)
  · skip
    have p2 := P.2 h1
    refine V_blk C (pc' := 41) (σ' := σ) (L' := [some (.ref 63), some (.int of_), some (.int hr), some (.int wh)]) (st' := [.int (-2)]) (g_c dX8_water_39 g_n) rfl rfl ?_
    refine V_iret C dX8_water_41 ?_
    exact p2
  · skip
    have p3 := P.1 h1
    refine V_blk C (pc' := 11) (σ' := σ) (L' := [some (.ref 63), some (.int of_), some (.int hr), some (.int wh)]) (st' := [.int hr]) (g_c dX8_water_10 g_n) rfl rfl ?_
    refine V_callSI C cs_X8_123 (c_X8_isHour σ hr) (by omega) (by decide) (fun _ h => h) (As := [.int hr]) (rest := []) rfl rfl (Nat.le_of_ble_eq_true rfl) dX8_water_11 ?_
    refine V_if_eq_b C (tgt := 39) dX8_water_14 (by decide) (fun h4 => ?_) (fun h4 => ?_)
    · skip
      have p5 := p3.2 h4
      refine V_blk C (pc' := 41) (σ' := σ) (L' := [some (.ref 63), some (.int of_), some (.int hr), some (.int wh)]) (st' := [.int (-2)]) (g_c dX8_water_39 g_n) rfl rfl ?_
      refine V_iret C dX8_water_41 ?_
      exact p5
    · skip
      have p6 := p3.1 h4
      refine V_blk C (pc' := 18) (σ' := σ) (L' := [some (.ref 63), some (.int of_), some (.int hr), some (.int wh)]) (st' := [.int wh]) (g_c dX8_water_17 g_n) rfl rfl ?_
      obtain ⟨J7, p9, p10⟩ := p6
      have jn8 : ∀ (_ : J7 ), gV X G K 4 Qp σ [some (.ref 63), some (.int of_), some (.int hr), some (.int wh)] [] 42 := by
        intro  hJ11
        have p12 := p10  hJ11
        refine V_blk C (pc' := 43) (σ' := σ) (L' := [some (.ref 63), some (.int of_), some (.int hr), some (.int wh)]) (st' := [.ref 63]) (g_c dX8_water_42 g_n) rfl rfl ?_
        refine V_gV C cv_X8_330 p12 ⟨_, _, _, _, rfl, rfl⟩ (by rfl) (by decide) (As := []) (rest := []) rfl rfl (Nat.le_of_ble_eq_true rfl) dX8_water_43 (fun rv s13 hq => ?_)
        obtain ⟨r15, rfl, p14⟩ := hq
        refine V_blk C (pc' := 48) (σ' := s13) (L' := [some (.ref 63), some (.int of_), some (.int hr), some (.int wh)]) (st' := [.int wh]) (g_c dX8_water_46 (g_c dX8_water_47 g_n)) rfl rfl ?_
        refine V_if_ne C (tgt := 64) dX8_water_48 (by decide) (fun h16 => ?_) (fun h16 => ?_)
        · skip
          have p17 := p14.2 h16
          refine V_blk C (pc' := 74) (σ' := s13) (L' := [some (.ref 63), some (.int of_), some (.int hr), some (.int wh)]) (st' := [.int ((8 * hr) + of_), .ref 78]) (g_c dX8_water_64 (g_c dX8_water_65 (g_c dX8_water_68 (g_c dX8_water_70 (g_c dX8_water_71 (g_c dX8_water_72 (g_c dX8_water_73 g_n))))))) rfl rfl ?_
          obtain ⟨j20, e21, l19, p18⟩ := p17
          refine V_ialdJ C (j := j20) (k := 78) (n := 192) (by rfl) (by rfl) e21 ⟨(by omega), (by omega)⟩ dX8_water_74 ?_
          refine V_iret C dX8_water_75 ?_
          exact p18
        · skip
          have p22 := p14.1 h16
          refine V_blk C (pc' := 60) (σ' := s13) (L' := [some (.ref 63), some (.int of_), some (.int hr), some (.int wh)]) (st' := [.int ((5 * hr) + of_), .ref 77]) (g_c dX8_water_51 (g_c dX8_water_52 (g_c dX8_water_55 (g_c dX8_water_56 (g_c dX8_water_57 (g_c dX8_water_58 (g_c dX8_water_59 g_n))))))) rfl rfl ?_
          obtain ⟨j25, e26, l24, p23⟩ := p22
          refine V_ialdJ C (j := j25) (k := 77) (n := 120) (by rfl) (by rfl) e26 ⟨(by omega), (by omega)⟩ dX8_water_60 ?_
          refine V_goto C (tgt := 75) dX8_water_61 (by decide) ?_
          refine V_iret C dX8_water_75 ?_
          exact p23
      refine V_if_ne C (tgt := 32) dX8_water_18 (by decide) (fun h27 => ?_) (fun h27 => ?_)
      · skip
        have p28 := p9.2 h27
        refine V_blk C (pc' := 33) (σ' := σ) (L' := [some (.ref 63), some (.int of_), some (.int hr), some (.int wh)]) (st' := [.int of_]) (g_c dX8_water_32 g_n) rfl rfl ?_
        refine V_callSI C cs_X8_144 (c_X8_isPlace σ of_) (by omega) (by decide) (fun _ h => h) (As := [.int of_]) (rest := []) rfl rfl (Nat.le_of_ble_eq_true rfl) dX8_water_33 ?_
        refine V_if_ne_b C (tgt := 42) dX8_water_36 (by decide) (fun h29 => ?_) (fun h29 => ?_)
        · skip
          have p30 := p28.1 h29
          exact jn8 p30
        · skip
          have p31 := p28.2 h29
          refine V_blk C (pc' := 41) (σ' := σ) (L' := [some (.ref 63), some (.int of_), some (.int hr), some (.int wh)]) (st' := [.int (-2)]) (g_c dX8_water_39 g_n) rfl rfl ?_
          refine V_iret C dX8_water_41 ?_
          exact p31
      · skip
        have p32 := p9.1 h27
        refine V_blk C (pc' := 23) (σ' := σ) (L' := [some (.ref 63), some (.int of_), some (.int hr), some (.int wh)]) (st' := [.int of_, .ref 63]) (g_c dX8_water_21 (g_c dX8_water_22 g_n)) rfl rfl ?_
        refine V_callVI C cv_X8_147 (c_X8_isVessel σ of_) ⟨_, _, _, _, rfl, rfl⟩ (by rfl) (by omega) (by decide) (fun _ h => h) (As := [.int of_]) (rest := []) rfl rfl (Nat.le_of_ble_eq_true rfl) dX8_water_23 ?_
        refine V_if_eq_b C (tgt := 39) dX8_water_26 (by decide) (fun h33 => ?_) (fun h33 => ?_)
        · skip
          have p34 := p32.2 h33
          refine V_blk C (pc' := 41) (σ' := σ) (L' := [some (.ref 63), some (.int of_), some (.int hr), some (.int wh)]) (st' := [.int (-2)]) (g_c dX8_water_39 g_n) rfl rfl ?_
          refine V_iret C dX8_water_41 ?_
          exact p34
        · skip
          have p35 := p32.1 h33
          refine V_goto C (tgt := 42) dX8_water_29 (by decide) ?_
          exact jn8 p35
set_option maxRecDepth 100000 in
def P_X8_pass (h : Nat) (n : Int32) (σ : gS) (Qp : Option Value → gS → Prop) : Prop :=
  ((g_in n 0 24 → (g_call yX8_allDrips cX8_allDrips 1 (some .int) kM h [.ref 63] σ (fun rv s3 => ∃ r5 : Int32, rv = some (.int r5) ∧ (g_call yX8_poursOf cX8_poursOf 3 none kM h [.ref 63, .int r5] s3 (fun rv s6 => rv = none ∧ (g_call yX8_goes cX8_goes 9 none kM h [.ref 63, .int n] s6 (fun rv s8 => rv = none ∧ (∃ I11 : Nat → Int32 → gS → Prop, (∃ k16 : Nat, I11 k16 0 s8) ∧ ∀ (k13 : Nat) (v10 : Int32) (s19 : gS), I11 k13 v10 s19 → (((v10 : Int32) < (s19 63 19) → (∃ j26 : Nat, v10 = nI j26 ∧ j26 < 5 ∧ (∃ k28 : Nat, k28 < k13 ∧ I11 k28 (v10 + 1) (g_up s19 74 j26 (s19 76 j26))))) ∧ (¬ (v10 : Int32) < (s19 63 19) → (Qp (some (.int ((s19 63 39) + (s19 63 40)))) s19))))))))))) ∧ (¬ g_in n 0 24 → (Qp (some (.int (-2))) σ)))
set_option maxHeartbeats 4000000 in
set_option maxRecDepth 100000 in
theorem w_X8_pass {h : Nat} (hh : 6 ≤ h) {n : Int32} {σ : gS} {Qp : Option Value → gS → Prop} (P : P_X8_pass h n σ Qp) : g_Met yX8_pass cX8_pass 3 (some .int) h kM [.ref 63, .int n] σ Qp := by
  unfold P_X8_pass at P
  refine g_Met.of (own := 8) (L := [some (.ref 63), some (.int n), none]) (by decide) rfl rfl (fun ad => Nat.le_of_ble_eq_true rfl) (fun ad => rfl) (fun X G K C => ?_)
  refine V_blk C (pc' := 6) (σ' := σ) (L' := [some (.ref 63), some (.int n), none]) (st' := [.long 24, .long 0, .long (Int32.toInt64 n)]) (g_c dX8_pass_0 (g_c dX8_pass_1 (g_c dX8_pass_2 (g_c dX8_pass_3 g_n)))) rfl rfl ?_
  refine V_callSI C cs_X8_110 (c_X8_in32 σ n 0 24 (by decide) (by decide)) (by omega) (by decide) (fun _ h => h) (As := [.long (Int32.toInt64 n), .long 0, .long 24]) (rest := []) rfl rfl (Nat.le_of_ble_eq_true rfl) dX8_pass_6 ?_
  refine V_if_ne_b C (tgt := 15) dX8_pass_9 (by decide) (fun h1 => ?_) (fun h1 => ?_)
  · skip
    have p2 := P.1 h1
    refine V_blk C (pc' := 17) (σ' := σ) (L' := [some (.ref 63), some (.int n), none]) (st' := [.ref 63, .ref 63]) (g_c dX8_pass_15 (g_c dX8_pass_16 g_n)) rfl rfl ?_
    refine V_gV C cv_X8_321 p2 ⟨_, _, _, _, rfl, rfl⟩ (by rfl) (by decide) (As := []) (rest := [.ref 63]) rfl rfl (Nat.le_of_ble_eq_true rfl) dX8_pass_17 (fun rv s3 hq => ?_)
    obtain ⟨r5, rfl, p4⟩ := hq
    refine V_gV C cv_X8_324 p4 ⟨_, _, _, _, rfl, rfl⟩ (by rfl) (by decide) (As := [.int r5]) (rest := []) rfl rfl (Nat.le_of_ble_eq_true rfl) dX8_pass_20 (fun rv s6 hq => ?_)
    obtain ⟨rfl, p7⟩ := hq
    refine V_blk C (pc' := 25) (σ' := s6) (L' := [some (.ref 63), some (.int n), none]) (st' := [.int n, .ref 63]) (g_c dX8_pass_23 (g_c dX8_pass_24 g_n)) rfl rfl ?_
    refine V_gV C cv_X8_317 p7 ⟨_, _, _, _, rfl, rfl⟩ (by rfl) (by decide) (As := [.int n]) (rest := []) rfl rfl (Nat.le_of_ble_eq_true rfl) dX8_pass_25 (fun rv s8 hq => ?_)
    obtain ⟨rfl, p9⟩ := hq
    refine V_blk C (pc' := 30) (σ' := s8) (L' := [some (.ref 63), some (.int n), some (.int 0)]) (st' := []) (g_c dX8_pass_28 (g_c dX8_pass_29 g_n)) rfl rfl ?_
    refine V_less (L' := [some (.ref 63), none, some (.int 0)]) (by simp [g_subL]) ?_
    obtain ⟨I11, ⟨k16, hI18⟩, hS15⟩ := p9
    have lp17 : ∀ (k13 : Nat) (v10 : Int32) (s19 : gS), I11 k13 v10 s19 → gV X G K 3 Qp s19 [some (.ref 63), none, some (.int v10)] [] 30 := by
      intro k13
      induction k13 using Nat.strongRecOn with
      | ind k13 ih12 =>
        intro v10 s19 hI14
        have p20 := hS15 k13 v10 s19 hI14
        refine V_blk C (pc' := 35) (σ' := s19) (L' := [some (.ref 63), none, some (.int v10)]) (st' := [.int (s19 63 19), .int v10]) (g_c dX8_pass_30 (g_c dX8_pass_31 (g_c dX8_pass_32 g_n))) rfl rfl ?_
        refine V_icmp_ge2 C (tgt := 56) dX8_pass_35 (by decide) (fun h21 => ?_) (fun h21 => ?_)
        · skip
          have p22 := p20.2 h21
          refine V_blk C (pc' := 65) (σ' := s19) (L' := [some (.ref 63), none, some (.int v10)]) (st' := [.int ((s19 63 39) + (s19 63 40))]) (g_c dX8_pass_56 (g_c dX8_pass_57 (g_c dX8_pass_60 (g_c dX8_pass_61 (g_c dX8_pass_64 g_n))))) rfl rfl ?_
          refine V_iret C dX8_pass_65 ?_
          exact p22
        · skip
          have p23 := p20.1 h21
          refine V_blk C (pc' := 48) (σ' := s19) (L' := [some (.ref 63), none, some (.int v10)]) (st' := [.int v10, .ref 76, .int v10, .ref 74]) (g_c dX8_pass_38 (g_c dX8_pass_39 (g_c dX8_pass_42 (g_c dX8_pass_43 (g_c dX8_pass_44 (g_c dX8_pass_47 g_n)))))) rfl rfl ?_
          obtain ⟨j26, e27, l25, p24⟩ := p23
          refine V_ialdJ C (j := j26) (k := 76) (n := 5) (by rfl) (by rfl) e27 ⟨(by omega), (by omega)⟩ dX8_pass_48 ?_
          refine V_iastJ C (j := j26) (k := 74) (n := 5) (by rfl) (by rfl) e27 ⟨(by omega), (by omega)⟩ dX8_pass_49 ?_
          refine V_blk C (pc' := 53) (σ' := (g_up s19 74 j26 (s19 76 j26))) (L' := [some (.ref 63), none, some (.int (v10 + 1))]) (st' := []) (g_c dX8_pass_50 g_n) rfl rfl ?_
          refine V_goto C (tgt := 30) dX8_pass_53 (by decide) ?_
          obtain ⟨k28, hkk28, hIk28⟩ := p24
          exact ih12 k28 hkk28 (v10 + 1) (g_up s19 74 j26 (s19 76 j26)) hIk28
    exact lp17 k16 0 s8 hI18
  · skip
    have p29 := P.2 h1
    refine V_blk C (pc' := 14) (σ' := σ) (L' := [some (.ref 63), some (.int n), none]) (st' := [.int (-2)]) (g_c dX8_pass_12 g_n) rfl rfl ?_
    refine V_iret C dX8_pass_14 ?_
    exact p29
set_option maxRecDepth 100000 in
def P_X8_puts (h : Nat) (ve : Int32) (ta : Int32) (σ : gS) (Qp : Option Value → gS → Prop) : Prop :=
  (((ve : Int32) = (σ 63 19) → (g_call yX8_cost cX8_cost 1 (some .int) kM h [.ref 63] σ (fun rv s29 => ∃ r31 : Int32, rv = some (.int r31) ∧ (∃ J32 : Prop, ((((s29 63 47) : Int32) = 0 → (J32)) ∧ (¬ ((s29 63 47) : Int32) = 0 → (((r31 : Int32) < (s29 63 46) → (J32)) ∧ (¬ (r31 : Int32) < (s29 63 46) → (Qp none s29))))) ∧ (J32 → (∃ I39 : Nat → Int32 → gS → Prop, (∃ k44 : Nat, I39 k44 0 (g_up (g_up s29 63 47 1) 63 46 r31)) ∧ ∀ (k41 : Nat) (v38 : Int32) (s47 : gS), I39 k41 v38 s47 → (((v38 : Int32) < (s47 63 19) → (∃ j54 : Nat, v38 = nI j54 ∧ j54 < 5 ∧ (∃ k56 : Nat, k56 < k41 ∧ I39 k56 (v38 + 1) (g_up s47 80 j54 (s47 73 j54))))) ∧ (¬ (v38 : Int32) < (s47 63 19) → (Qp none s47))))))))) ∧ (¬ (ve : Int32) = (σ 63 19) → (∃ I4 : Nat → Int32 → gS → Prop, (∃ k9 : Nat, I4 k9 0 σ) ∧ ∀ (k6 : Nat) (v3 : Int32) (s12 : gS), I4 k6 v3 s12 → (((v3 : Int32) < 8 → (((((ta >>> (v3 &&& 31)) &&& 1) : Int32) = 0 → (∃ j23 : Nat, ve = nI j23 ∧ j23 < 5 ∧ (g_call yX8_puts cX8_puts 5 none kM h [.ref 63, .int (ve + 1), .int (ta ||| ((1 : Int32) <<< (v3 &&& 31)))] (g_up s12 73 j23 v3) (fun rv s25 => rv = none ∧ (∃ k27 : Nat, k27 < k6 ∧ I4 k27 (v3 + 1) s25))))) ∧ (¬ (((ta >>> (v3 &&& 31)) &&& 1) : Int32) = 0 → (∃ k19 : Nat, k19 < k6 ∧ I4 k19 (v3 + 1) s12)))) ∧ (¬ (v3 : Int32) < 8 → (Qp none s12))))))
set_option maxHeartbeats 4000000 in
set_option maxRecDepth 100000 in
theorem w_X8_puts {h : Nat} (hh : 6 ≤ h) {ve : Int32} {ta : Int32} {σ : gS} {Qp : Option Value → gS → Prop} (P : P_X8_puts h ve ta σ Qp) : g_Met yX8_puts cX8_puts 5 none h kM [.ref 63, .int ve, .int ta] σ Qp := by
  unfold P_X8_puts at P
  refine g_Met.of (own := 8) (L := [some (.ref 63), some (.int ve), some (.int ta), none, none]) (by decide) rfl rfl (fun ad => Nat.le_of_ble_eq_true rfl) (fun ad => rfl) (fun X G K C => ?_)
  refine V_blk C (pc' := 5) (σ' := σ) (L' := [some (.ref 63), some (.int ve), some (.int ta), none, none]) (st' := [.int (σ 63 19), .int ve]) (g_c dX8_puts_0 (g_c dX8_puts_1 (g_c dX8_puts_2 g_n))) rfl rfl ?_
  refine V_icmp_ne C (tgt := 71) dX8_puts_5 (by decide) (fun h1 => ?_) (fun h1 => ?_)
  · skip
    have p2 := P.2 h1
    refine V_blk C (pc' := 73) (σ' := σ) (L' := [some (.ref 63), some (.int ve), some (.int ta), some (.int 0), none]) (st' := []) (g_c dX8_puts_71 (g_c dX8_puts_72 g_n)) rfl rfl ?_
    obtain ⟨I4, ⟨k9, hI11⟩, hS8⟩ := p2
    have lp10 : ∀ (k6 : Nat) (v3 : Int32) (s12 : gS), I4 k6 v3 s12 → gV X G K 5 Qp s12 [some (.ref 63), some (.int ve), some (.int ta), some (.int v3), none] [] 73 := by
      intro k6
      induction k6 using Nat.strongRecOn with
      | ind k6 ih5 =>
        intro v3 s12 hI7
        have p13 := hS8 k6 v3 s12 hI7
        refine V_blk C (pc' := 76) (σ' := s12) (L' := [some (.ref 63), some (.int ve), some (.int ta), some (.int v3), none]) (st' := [.int 8, .int v3]) (g_c dX8_puts_73 (g_c dX8_puts_74 g_n)) rfl rfl ?_
        refine V_icmp_ge2 C (tgt := 112) dX8_puts_76 (by decide) (fun h14 => ?_) (fun h14 => ?_)
        · skip
          have p15 := p13.2 h14
          refine V_vret C dX8_puts_112 ?_
          exact p15
        · skip
          have p16 := p13.1 h14
          refine V_blk C (pc' := 84) (σ' := s12) (L' := [some (.ref 63), some (.int ve), some (.int ta), some (.int v3), none]) (st' := [.int ((ta >>> (v3 &&& 31)) &&& 1)]) (g_c dX8_puts_79 (g_c dX8_puts_80 (g_c dX8_puts_81 (g_c dX8_puts_82 (g_c dX8_puts_83 g_n))))) rfl rfl ?_
          refine V_if_ne C (tgt := 106) dX8_puts_84 (by decide) (fun h17 => ?_) (fun h17 => ?_)
          · skip
            have p18 := p16.2 h17
            refine V_blk C (pc' := 109) (σ' := s12) (L' := [some (.ref 63), some (.int ve), some (.int ta), some (.int (v3 + 1)), none]) (st' := []) (g_c dX8_puts_106 g_n) rfl rfl ?_
            refine V_goto C (tgt := 73) dX8_puts_109 (by decide) ?_
            obtain ⟨k19, hkk19, hIk19⟩ := p18
            exact ih5 k19 hkk19 (v3 + 1) s12 hIk19
          · skip
            have p20 := p16.1 h17
            refine V_blk C (pc' := 93) (σ' := s12) (L' := [some (.ref 63), some (.int ve), some (.int ta), some (.int v3), none]) (st' := [.int v3, .int ve, .ref 73]) (g_c dX8_puts_87 (g_c dX8_puts_88 (g_c dX8_puts_91 (g_c dX8_puts_92 g_n)))) rfl rfl ?_
            obtain ⟨j23, e24, l22, p21⟩ := p20
            refine V_iastJ C (j := j23) (k := 73) (n := 5) (by rfl) (by rfl) e24 ⟨(by omega), (by omega)⟩ dX8_puts_93 ?_
            refine V_blk C (pc' := 103) (σ' := (g_up s12 73 j23 v3)) (L' := [some (.ref 63), some (.int ve), some (.int ta), some (.int v3), none]) (st' := [.int (ta ||| ((1 : Int32) <<< (v3 &&& 31))), .int (ve + 1), .ref 63]) (g_c dX8_puts_94 (g_c dX8_puts_95 (g_c dX8_puts_96 (g_c dX8_puts_97 (g_c dX8_puts_98 (g_c dX8_puts_99 (g_c dX8_puts_100 (g_c dX8_puts_101 (g_c dX8_puts_102 g_n))))))))) rfl rfl ?_
            refine V_gV C cv_X8_341 p21 ⟨_, _, _, _, rfl, rfl⟩ (by rfl) (by decide) (As := [.int (ve + 1), .int (ta ||| ((1 : Int32) <<< (v3 &&& 31)))]) (rest := []) rfl rfl (Nat.le_of_ble_eq_true rfl) dX8_puts_103 (fun rv s25 hq => ?_)
            obtain ⟨rfl, p26⟩ := hq
            refine V_blk C (pc' := 109) (σ' := s25) (L' := [some (.ref 63), some (.int ve), some (.int ta), some (.int (v3 + 1)), none]) (st' := []) (g_c dX8_puts_106 g_n) rfl rfl ?_
            refine V_goto C (tgt := 73) dX8_puts_109 (by decide) ?_
            obtain ⟨k27, hkk27, hIk27⟩ := p26
            exact ih5 k27 hkk27 (v3 + 1) s25 hIk27
    exact lp10 k9 0 σ hI11
  · skip
    have p28 := P.1 h1
    refine V_blk C (pc' := 9) (σ' := σ) (L' := [some (.ref 63), some (.int ve), some (.int ta), none, none]) (st' := [.ref 63]) (g_c dX8_puts_8 g_n) rfl rfl ?_
    refine V_gV C cv_X8_327 p28 ⟨_, _, _, _, rfl, rfl⟩ (by rfl) (by decide) (As := []) (rest := []) rfl rfl (Nat.le_of_ble_eq_true rfl) dX8_puts_9 (fun rv s29 hq => ?_)
    obtain ⟨r31, rfl, p30⟩ := hq
    refine V_blk C (pc' := 17) (σ' := s29) (L' := [some (.ref 63), some (.int ve), some (.int ta), some (.int r31), none]) (st' := [.int (s29 63 47)]) (g_c dX8_puts_12 (g_c dX8_puts_13 (g_c dX8_puts_14 g_n))) rfl rfl ?_
    obtain ⟨J32, p34, p35⟩ := p30
    have jn33 : ∀ (_ : J32 ), gV X G K 5 Qp s29 [some (.ref 63), none, none, some (.int r31), none] [] 28 := by
      intro  hJ36
      have p37 := p35  hJ36
      refine V_blk C (pc' := 30) (σ' := s29) (L' := [some (.ref 63), none, none, some (.int r31), none]) (st' := [.int 1, .ref 63]) (g_c dX8_puts_28 (g_c dX8_puts_29 g_n)) rfl rfl ?_
      refine V_putZ C (k := 63) fl_X8_335 (by decide) rfl rfl (by rfl) rfl dX8_puts_30 ?_
      refine V_blk C (pc' := 41) (σ' := (g_up (g_up s29 63 47 1) 63 46 r31)) (L' := [some (.ref 63), none, none, some (.int r31), some (.int 0)]) (st' := []) (g_c dX8_puts_33 (g_c dX8_puts_34 (g_c dX8_puts_35 (g_c dX8_puts_38 (g_c dX8_puts_39 g_n))))) rfl rfl ?_
      refine V_less (L' := [some (.ref 63), none, none, none, some (.int 0)]) (by simp [g_subL]) ?_
      obtain ⟨I39, ⟨k44, hI46⟩, hS43⟩ := p37
      have lp45 : ∀ (k41 : Nat) (v38 : Int32) (s47 : gS), I39 k41 v38 s47 → gV X G K 5 Qp s47 [some (.ref 63), none, none, none, some (.int v38)] [] 41 := by
        intro k41
        induction k41 using Nat.strongRecOn with
        | ind k41 ih40 =>
          intro v38 s47 hI42
          have p48 := hS43 k41 v38 s47 hI42
          refine V_blk C (pc' := 47) (σ' := s47) (L' := [some (.ref 63), none, none, none, some (.int v38)]) (st' := [.int (s47 63 19), .int v38]) (g_c dX8_puts_41 (g_c dX8_puts_43 (g_c dX8_puts_44 g_n))) rfl rfl ?_
          refine V_icmp_ge2 C (tgt := 70) dX8_puts_47 (by decide) (fun h49 => ?_) (fun h49 => ?_)
          · skip
            have p50 := p48.2 h49
            refine V_vret C dX8_puts_70 ?_
            exact p50
          · skip
            have p51 := p48.1 h49
            refine V_blk C (pc' := 62) (σ' := s47) (L' := [some (.ref 63), none, none, none, some (.int v38)]) (st' := [.int v38, .ref 73, .int v38, .ref 80]) (g_c dX8_puts_50 (g_c dX8_puts_51 (g_c dX8_puts_54 (g_c dX8_puts_56 (g_c dX8_puts_57 (g_c dX8_puts_60 g_n)))))) rfl rfl ?_
            obtain ⟨j54, e55, l53, p52⟩ := p51
            refine V_ialdJ C (j := j54) (k := 73) (n := 5) (by rfl) (by rfl) e55 ⟨(by omega), (by omega)⟩ dX8_puts_62 ?_
            refine V_iastJ C (j := j54) (k := 80) (n := 5) (by rfl) (by rfl) e55 ⟨(by omega), (by omega)⟩ dX8_puts_63 ?_
            refine V_blk C (pc' := 67) (σ' := (g_up s47 80 j54 (s47 73 j54))) (L' := [some (.ref 63), none, none, none, some (.int (v38 + 1))]) (st' := []) (g_c dX8_puts_64 g_n) rfl rfl ?_
            refine V_goto C (tgt := 41) dX8_puts_67 (by decide) ?_
            obtain ⟨k56, hkk56, hIk56⟩ := p52
            exact ih40 k56 hkk56 (v38 + 1) (g_up s47 80 j54 (s47 73 j54)) hIk56
      exact lp45 k44 0 (g_up (g_up s29 63 47 1) 63 46 r31) hI46
    refine V_if_eq C (tgt := 28) dX8_puts_17 (by decide) (fun h57 => ?_) (fun h57 => ?_)
    · skip
      have p58 := p34.1 h57
      refine V_less (L' := [some (.ref 63), none, none, some (.int r31), none]) (by simp [g_subL]) ?_
      exact jn33 p58
    · skip
      have p59 := p34.2 h57
      refine V_blk C (pc' := 25) (σ' := s29) (L' := [some (.ref 63), some (.int ve), some (.int ta), some (.int r31), none]) (st' := [.int (s29 63 46), .int r31]) (g_c dX8_puts_20 (g_c dX8_puts_21 (g_c dX8_puts_22 g_n))) rfl rfl ?_
      refine V_icmp_ge2 C (tgt := 70) dX8_puts_25 (by decide) (fun h60 => ?_) (fun h60 => ?_)
      · skip
        have p61 := p59.2 h60
        refine V_vret C dX8_puts_70 ?_
        exact p61
      · skip
        have p62 := p59.1 h60
        refine V_less (L' := [some (.ref 63), none, none, some (.int r31), none]) (by simp [g_subL]) ?_
        exact jn33 p62
set_option maxRecDepth 100000 in
def P_X8_stand (h : Nat) (wh : Int32) (σ : gS) (Qp : Option Value → gS → Prop) : Prop :=
  (∃ J1 : Prop, (((wh : Int32) = (-1) → (J1)) ∧ (¬ (wh : Int32) = (-1) → ((g_in wh 0 ((σ 63 19) - 1) → (J1)) ∧ (¬ g_in wh 0 ((σ 63 19) - 1) → (Qp (some (.int (-2))) σ))))) ∧ (J1 → (∃ I8 : Nat → Int32 → gS → Prop, (∃ k13 : Nat, I8 k13 0 σ) ∧ ∀ (k10 : Nat) (v7 : Int32) (s16 : gS), I8 k10 v7 s16 → (((v7 : Int32) < 5 → (∃ j94 : Nat, v7 = nI j94 ∧ j94 < 5 ∧ (∃ k96 : Nat, k96 < k10 ∧ I8 k96 (v7 + 1) (g_up s16 81 j94 (s16 73 j94))))) ∧ (¬ (v7 : Int32) < 5 → (∃ I21 : Nat → Int32 → gS → Prop, (∃ k26 : Nat, I21 k26 0 s16) ∧ ∀ (k23 : Nat) (v20 : Int32) (s29 : gS), I21 k23 v20 s29 → (((v20 : Int32) < 249792 → (∃ j88 : Nat, v20 = nI j88 ∧ j88 < 249792 ∧ (∃ k90 : Nat, k90 < k23 ∧ I21 k90 (v20 + 1) (g_up s29 79 j88 (-1))))) ∧ (¬ (v20 : Int32) < 249792 → (g_call yX8_allDrips cX8_allDrips 1 (some .int) kM h [.ref 63] (g_up (g_up s29 63 44 1) 63 47 0) (fun rv s33 => ∃ r35 : Int32, rv = some (.int r35) ∧ (g_call yX8_poursOf cX8_poursOf 3 none kM h [.ref 63, .int r35] s33 (fun rv s36 => rv = none ∧ (∃ I39 : Nat → Int32 → gS → Prop, (∃ k44 : Nat, I39 k44 0 s36) ∧ ∀ (k41 : Nat) (v38 : Int32) (s47 : gS), I39 k41 v38 s47 → (((v38 : Int32) < (s47 63 19) → (∃ j82 : Nat, v38 = nI j82 ∧ j82 < 5 ∧ (∃ k84 : Nat, k84 < k41 ∧ I39 k84 (v38 + 1) (g_up s47 73 j82 (-1))))) ∧ (¬ (v38 : Int32) < (s47 63 19) → (g_call yX8_puts cX8_puts 5 none kM h [.ref 63, .int 0, .int 0] s47 (fun rv s51 => rv = none ∧ (∃ I54 : Nat → Int32 → gS → Prop, (∃ k59 : Nat, I54 k59 0 (g_up s51 63 44 0)) ∧ ∀ (k56 : Nat) (v53 : Int32) (s62 : gS), I54 k56 v53 s62 → (((v53 : Int32) < 5 → (∃ j76 : Nat, v53 = nI j76 ∧ j76 < 5 ∧ (∃ k78 : Nat, k78 < k56 ∧ I54 k78 (v53 + 1) (g_up s62 73 j76 (s62 81 j76))))) ∧ (¬ (v53 : Int32) < 5 → (((wh : Int32) = (-1) → (Qp (some (.int (s62 63 46))) s62)) ∧ (¬ (wh : Int32) = (-1) → (∃ j70 : Nat, wh = nI j70 ∧ j70 < 5 ∧ (Qp (some (.int (s62 80 j70))) s62))))))))))))))))))))))))
set_option maxHeartbeats 4000000 in
set_option maxRecDepth 100000 in
theorem w_X8_stand {h : Nat} (hh : 6 ≤ h) {wh : Int32} {σ : gS} {Qp : Option Value → gS → Prop} (P : P_X8_stand h wh σ Qp) : g_Met yX8_stand cX8_stand 3 (some .int) h kM [.ref 63, .int wh] σ Qp := by
  unfold P_X8_stand at P
  refine g_Met.of (own := 8) (L := [some (.ref 63), some (.int wh), none]) (by decide) rfl rfl (fun ad => Nat.le_of_ble_eq_true rfl) (fun ad => rfl) (fun X G K C => ?_)
  refine V_blk C (pc' := 2) (σ' := σ) (L' := [some (.ref 63), some (.int wh), none]) (st' := [.int (-1), .int wh]) (g_c dX8_stand_0 (g_c dX8_stand_1 g_n)) rfl rfl ?_
  obtain ⟨J1, p3, p4⟩ := P
  have jn2 : ∀ (_ : J1 ), gV X G K 3 Qp σ [some (.ref 63), some (.int wh), none] [] 16 := by
    intro  hJ5
    have p6 := p4  hJ5
    refine V_blk C (pc' := 18) (σ' := σ) (L' := [some (.ref 63), some (.int wh), some (.int 0)]) (st' := []) (g_c dX8_stand_16 (g_c dX8_stand_17 g_n)) rfl rfl ?_
    obtain ⟨I8, ⟨k13, hI15⟩, hS12⟩ := p6
    have lp14 : ∀ (k10 : Nat) (v7 : Int32) (s16 : gS), I8 k10 v7 s16 → gV X G K 3 Qp s16 [some (.ref 63), some (.int wh), some (.int v7)] [] 18 := by
      intro k10
      induction k10 using Nat.strongRecOn with
      | ind k10 ih9 =>
        intro v7 s16 hI11
        have p17 := hS12 k10 v7 s16 hI11
        refine V_blk C (pc' := 20) (σ' := s16) (L' := [some (.ref 63), some (.int wh), some (.int v7)]) (st' := [.int 5, .int v7]) (g_c dX8_stand_18 (g_c dX8_stand_19 g_n)) rfl rfl ?_
        refine V_icmp_ge2 C (tgt := 41) dX8_stand_20 (by decide) (fun h18 => ?_) (fun h18 => ?_)
        · skip
          have p19 := p17.2 h18
          refine V_blk C (pc' := 43) (σ' := s16) (L' := [some (.ref 63), some (.int wh), some (.int 0)]) (st' := []) (g_c dX8_stand_41 (g_c dX8_stand_42 g_n)) rfl rfl ?_
          obtain ⟨I21, ⟨k26, hI28⟩, hS25⟩ := p19
          have lp27 : ∀ (k23 : Nat) (v20 : Int32) (s29 : gS), I21 k23 v20 s29 → gV X G K 3 Qp s29 [some (.ref 63), some (.int wh), some (.int v20)] [] 43 := by
            intro k23
            induction k23 using Nat.strongRecOn with
            | ind k23 ih22 =>
              intro v20 s29 hI24
              have p30 := hS25 k23 v20 s29 hI24
              refine V_blk C (pc' := 46) (σ' := s29) (L' := [some (.ref 63), some (.int wh), some (.int v20)]) (st' := [.int 249792, .int v20]) (g_c dX8_stand_43 (g_c dX8_stand_44 g_n)) rfl rfl ?_
              refine V_icmp_ge2 C (tgt := 62) dX8_stand_46 (by decide) (fun h31 => ?_) (fun h31 => ?_)
              · skip
                have p32 := p30.2 h31
                refine V_blk C (pc' := 64) (σ' := s29) (L' := [some (.ref 63), some (.int wh), some (.int v20)]) (st' := [.int 1, .ref 63]) (g_c dX8_stand_62 (g_c dX8_stand_63 g_n)) rfl rfl ?_
                refine V_putZ C (k := 63) fl_X8_295 (by decide) rfl rfl (by rfl) rfl dX8_stand_64 ?_
                refine V_blk C (pc' := 69) (σ' := (g_up s29 63 44 1)) (L' := [some (.ref 63), some (.int wh), some (.int v20)]) (st' := [.int 0, .ref 63]) (g_c dX8_stand_67 (g_c dX8_stand_68 g_n)) rfl rfl ?_
                refine V_putZ C (k := 63) fl_X8_335 (by decide) rfl rfl (by rfl) rfl dX8_stand_69 ?_
                refine V_blk C (pc' := 74) (σ' := (g_up (g_up s29 63 44 1) 63 47 0)) (L' := [some (.ref 63), some (.int wh), some (.int v20)]) (st' := [.ref 63, .ref 63]) (g_c dX8_stand_72 (g_c dX8_stand_73 g_n)) rfl rfl ?_
                refine V_gV C cv_X8_321 p32 ⟨_, _, _, _, rfl, rfl⟩ (by rfl) (by decide) (As := []) (rest := [.ref 63]) rfl rfl (Nat.le_of_ble_eq_true rfl) dX8_stand_74 (fun rv s33 hq => ?_)
                obtain ⟨r35, rfl, p34⟩ := hq
                refine V_gV C cv_X8_324 p34 ⟨_, _, _, _, rfl, rfl⟩ (by rfl) (by decide) (As := [.int r35]) (rest := []) rfl rfl (Nat.le_of_ble_eq_true rfl) dX8_stand_77 (fun rv s36 hq => ?_)
                obtain ⟨rfl, p37⟩ := hq
                refine V_blk C (pc' := 82) (σ' := s36) (L' := [some (.ref 63), some (.int wh), some (.int 0)]) (st' := []) (g_c dX8_stand_80 (g_c dX8_stand_81 g_n)) rfl rfl ?_
                obtain ⟨I39, ⟨k44, hI46⟩, hS43⟩ := p37
                have lp45 : ∀ (k41 : Nat) (v38 : Int32) (s47 : gS), I39 k41 v38 s47 → gV X G K 3 Qp s47 [some (.ref 63), some (.int wh), some (.int v38)] [] 82 := by
                  intro k41
                  induction k41 using Nat.strongRecOn with
                  | ind k41 ih40 =>
                    intro v38 s47 hI42
                    have p48 := hS43 k41 v38 s47 hI42
                    refine V_blk C (pc' := 87) (σ' := s47) (L' := [some (.ref 63), some (.int wh), some (.int v38)]) (st' := [.int (s47 63 19), .int v38]) (g_c dX8_stand_82 (g_c dX8_stand_83 (g_c dX8_stand_84 g_n))) rfl rfl ?_
                    refine V_icmp_ge2 C (tgt := 103) dX8_stand_87 (by decide) (fun h49 => ?_) (fun h49 => ?_)
                    · skip
                      have p50 := p48.2 h49
                      refine V_blk C (pc' := 106) (σ' := s47) (L' := [some (.ref 63), some (.int wh), some (.int v38)]) (st' := [.int 0, .int 0, .ref 63]) (g_c dX8_stand_103 (g_c dX8_stand_104 (g_c dX8_stand_105 g_n))) rfl rfl ?_
                      refine V_gV C cv_X8_341 p50 ⟨_, _, _, _, rfl, rfl⟩ (by rfl) (by decide) (As := [.int 0, .int 0]) (rest := []) rfl rfl (Nat.le_of_ble_eq_true rfl) dX8_stand_106 (fun rv s51 hq => ?_)
                      obtain ⟨rfl, p52⟩ := hq
                      refine V_blk C (pc' := 111) (σ' := s51) (L' := [some (.ref 63), some (.int wh), some (.int v38)]) (st' := [.int 0, .ref 63]) (g_c dX8_stand_109 (g_c dX8_stand_110 g_n)) rfl rfl ?_
                      refine V_putZ C (k := 63) fl_X8_295 (by decide) rfl rfl (by rfl) rfl dX8_stand_111 ?_
                      refine V_blk C (pc' := 116) (σ' := (g_up s51 63 44 0)) (L' := [some (.ref 63), some (.int wh), some (.int 0)]) (st' := []) (g_c dX8_stand_114 (g_c dX8_stand_115 g_n)) rfl rfl ?_
                      obtain ⟨I54, ⟨k59, hI61⟩, hS58⟩ := p52
                      have lp60 : ∀ (k56 : Nat) (v53 : Int32) (s62 : gS), I54 k56 v53 s62 → gV X G K 3 Qp s62 [some (.ref 63), some (.int wh), some (.int v53)] [] 116 := by
                        intro k56
                        induction k56 using Nat.strongRecOn with
                        | ind k56 ih55 =>
                          intro v53 s62 hI57
                          have p63 := hS58 k56 v53 s62 hI57
                          refine V_blk C (pc' := 118) (σ' := s62) (L' := [some (.ref 63), some (.int wh), some (.int v53)]) (st' := [.int 5, .int v53]) (g_c dX8_stand_116 (g_c dX8_stand_117 g_n)) rfl rfl ?_
                          refine V_icmp_ge2 C (tgt := 139) dX8_stand_118 (by decide) (fun h64 => ?_) (fun h64 => ?_)
                          · skip
                            have p65 := p63.2 h64
                            refine V_blk C (pc' := 141) (σ' := s62) (L' := [some (.ref 63), some (.int wh), some (.int v53)]) (st' := [.int (-1), .int wh]) (g_c dX8_stand_139 (g_c dX8_stand_140 g_n)) rfl rfl ?_
                            refine V_icmp_ne C (tgt := 151) dX8_stand_141 (by decide) (fun h66 => ?_) (fun h66 => ?_)
                            · skip
                              have p67 := p65.2 h66
                              refine V_blk C (pc' := 156) (σ' := s62) (L' := [some (.ref 63), some (.int wh), some (.int v53)]) (st' := [.int wh, .ref 80]) (g_c dX8_stand_151 (g_c dX8_stand_152 (g_c dX8_stand_155 g_n))) rfl rfl ?_
                              obtain ⟨j70, e71, l69, p68⟩ := p67
                              refine V_ialdJ C (j := j70) (k := 80) (n := 5) (by rfl) (by rfl) e71 ⟨(by omega), (by omega)⟩ dX8_stand_156 ?_
                              refine V_iret C dX8_stand_157 ?_
                              exact p68
                            · skip
                              have p72 := p65.1 h66
                              refine V_blk C (pc' := 148) (σ' := s62) (L' := [some (.ref 63), some (.int wh), some (.int v53)]) (st' := [.int (s62 63 46)]) (g_c dX8_stand_144 (g_c dX8_stand_145 g_n)) rfl rfl ?_
                              refine V_goto C (tgt := 157) dX8_stand_148 (by decide) ?_
                              refine V_iret C dX8_stand_157 ?_
                              exact p72
                          · skip
                            have p73 := p63.1 h64
                            refine V_blk C (pc' := 131) (σ' := s62) (L' := [some (.ref 63), some (.int wh), some (.int v53)]) (st' := [.int v53, .ref 81, .int v53, .ref 73]) (g_c dX8_stand_121 (g_c dX8_stand_122 (g_c dX8_stand_125 (g_c dX8_stand_126 (g_c dX8_stand_127 (g_c dX8_stand_130 g_n)))))) rfl rfl ?_
                            obtain ⟨j76, e77, l75, p74⟩ := p73
                            refine V_ialdJ C (j := j76) (k := 81) (n := 5) (by rfl) (by rfl) e77 ⟨(by omega), (by omega)⟩ dX8_stand_131 ?_
                            refine V_iastJ C (j := j76) (k := 73) (n := 5) (by rfl) (by rfl) e77 ⟨(by omega), (by omega)⟩ dX8_stand_132 ?_
                            refine V_blk C (pc' := 136) (σ' := (g_up s62 73 j76 (s62 81 j76))) (L' := [some (.ref 63), some (.int wh), some (.int (v53 + 1))]) (st' := []) (g_c dX8_stand_133 g_n) rfl rfl ?_
                            refine V_goto C (tgt := 116) dX8_stand_136 (by decide) ?_
                            obtain ⟨k78, hkk78, hIk78⟩ := p74
                            exact ih55 k78 hkk78 (v53 + 1) (g_up s62 73 j76 (s62 81 j76)) hIk78
                      exact lp60 k59 0 (g_up s51 63 44 0) hI61
                    · skip
                      have p79 := p48.1 h49
                      refine V_blk C (pc' := 96) (σ' := s47) (L' := [some (.ref 63), some (.int wh), some (.int v38)]) (st' := [.int (-1), .int v38, .ref 73]) (g_c dX8_stand_90 (g_c dX8_stand_91 (g_c dX8_stand_94 (g_c dX8_stand_95 g_n)))) rfl rfl ?_
                      obtain ⟨j82, e83, l81, p80⟩ := p79
                      refine V_iastJ C (j := j82) (k := 73) (n := 5) (by rfl) (by rfl) e83 ⟨(by omega), (by omega)⟩ dX8_stand_96 ?_
                      refine V_blk C (pc' := 100) (σ' := (g_up s47 73 j82 (-1))) (L' := [some (.ref 63), some (.int wh), some (.int (v38 + 1))]) (st' := []) (g_c dX8_stand_97 g_n) rfl rfl ?_
                      refine V_goto C (tgt := 82) dX8_stand_100 (by decide) ?_
                      obtain ⟨k84, hkk84, hIk84⟩ := p80
                      exact ih40 k84 hkk84 (v38 + 1) (g_up s47 73 j82 (-1)) hIk84
                exact lp45 k44 0 s36 hI46
              · skip
                have p85 := p30.1 h31
                refine V_blk C (pc' := 55) (σ' := s29) (L' := [some (.ref 63), some (.int wh), some (.int v20)]) (st' := [.int (-1), .int v20, .ref 79]) (g_c dX8_stand_49 (g_c dX8_stand_50 (g_c dX8_stand_53 (g_c dX8_stand_54 g_n)))) rfl rfl ?_
                obtain ⟨j88, e89, l87, p86⟩ := p85
                refine V_iastJ C (j := j88) (k := 79) (n := 249792) (by rfl) (by rfl) e89 ⟨(by omega), (by omega)⟩ dX8_stand_55 ?_
                refine V_blk C (pc' := 59) (σ' := (g_up s29 79 j88 (-1))) (L' := [some (.ref 63), some (.int wh), some (.int (v20 + 1))]) (st' := []) (g_c dX8_stand_56 g_n) rfl rfl ?_
                refine V_goto C (tgt := 43) dX8_stand_59 (by decide) ?_
                obtain ⟨k90, hkk90, hIk90⟩ := p86
                exact ih22 k90 hkk90 (v20 + 1) (g_up s29 79 j88 (-1)) hIk90
          exact lp27 k26 0 s16 hI28
        · skip
          have p91 := p17.1 h18
          refine V_blk C (pc' := 33) (σ' := s16) (L' := [some (.ref 63), some (.int wh), some (.int v7)]) (st' := [.int v7, .ref 73, .int v7, .ref 81]) (g_c dX8_stand_23 (g_c dX8_stand_24 (g_c dX8_stand_27 (g_c dX8_stand_28 (g_c dX8_stand_29 (g_c dX8_stand_32 g_n)))))) rfl rfl ?_
          obtain ⟨j94, e95, l93, p92⟩ := p91
          refine V_ialdJ C (j := j94) (k := 73) (n := 5) (by rfl) (by rfl) e95 ⟨(by omega), (by omega)⟩ dX8_stand_33 ?_
          refine V_iastJ C (j := j94) (k := 81) (n := 5) (by rfl) (by rfl) e95 ⟨(by omega), (by omega)⟩ dX8_stand_34 ?_
          refine V_blk C (pc' := 38) (σ' := (g_up s16 81 j94 (s16 73 j94))) (L' := [some (.ref 63), some (.int wh), some (.int (v7 + 1))]) (st' := []) (g_c dX8_stand_35 g_n) rfl rfl ?_
          refine V_goto C (tgt := 18) dX8_stand_38 (by decide) ?_
          obtain ⟨k96, hkk96, hIk96⟩ := p92
          exact ih9 k96 hkk96 (v7 + 1) (g_up s16 81 j94 (s16 73 j94)) hIk96
    exact lp14 k13 0 σ hI15
  refine V_icmp_eq C (tgt := 16) dX8_stand_2 (by decide) (fun h97 => ?_) (fun h97 => ?_)
  · skip
    have p98 := p3.1 h97
    exact jn2 p98
  · skip
    have p99 := p3.2 h97
    refine V_blk C (pc' := 7) (σ' := σ) (L' := [some (.ref 63), some (.int wh), none]) (st' := [.int wh, .ref 63]) (g_c dX8_stand_5 (g_c dX8_stand_6 g_n)) rfl rfl ?_
    refine V_callVI C cv_X8_147 (c_X8_isVessel σ wh) ⟨_, _, _, _, rfl, rfl⟩ (by rfl) (by omega) (by decide) (fun _ h => h) (As := [.int wh]) (rest := []) rfl rfl (Nat.le_of_ble_eq_true rfl) dX8_stand_7 ?_
    refine V_if_ne_b C (tgt := 16) dX8_stand_10 (by decide) (fun h100 => ?_) (fun h100 => ?_)
    · skip
      have p101 := p99.1 h100
      exact jn2 p101
    · skip
      have p102 := p99.2 h100
      refine V_blk C (pc' := 15) (σ' := σ) (L' := [some (.ref 63), some (.int wh), none]) (st' := [.int (-2)]) (g_c dX8_stand_13 g_n) rfl rfl ?_
      refine V_iret C dX8_stand_15 ?_
      exact p102
set_option maxRecDepth 100000 in
def P_X8_tries (h : Nat) (hrs : Int32) (σ : gS) (Qp : Option Value → gS → Prop) : Prop :=
  (g_call yX8_cost cX8_cost 1 (some .int) kM h [.ref 63] (g_up σ 63 8 hrs) (fun rv s1 => ∃ r3 : Int32, rv = some (.int r3) ∧ ((((s1 63 47) : Int32) = 0 → (Qp none (g_up (g_up (g_up s1 63 47 1) 63 46 r3) 63 49 hrs))) ∧ (¬ ((s1 63 47) : Int32) = 0 → (((r3 : Int32) < (s1 63 46) → (Qp none (g_up (g_up (g_up s1 63 47 1) 63 46 r3) 63 49 hrs))) ∧ (¬ (r3 : Int32) < (s1 63 46) → (Qp none s1)))))))
set_option maxHeartbeats 4000000 in
set_option maxRecDepth 100000 in
theorem w_X8_tries {h : Nat} (hh : 6 ≤ h) {hrs : Int32} {σ : gS} {Qp : Option Value → gS → Prop} (P : P_X8_tries h hrs σ Qp) : g_Met yX8_tries cX8_tries 3 none h kM [.ref 63, .int hrs] σ Qp := by
  unfold P_X8_tries at P
  refine g_Met.of (own := 8) (L := [some (.ref 63), some (.int hrs), none]) (by decide) rfl rfl (fun ad => Nat.le_of_ble_eq_true rfl) (fun ad => rfl) (fun X G K C => ?_)
  refine V_blk C (pc' := 6) (σ' := (g_up σ 63 8 hrs)) (L' := [some (.ref 63), some (.int hrs), none]) (st' := [.ref 63]) (g_c dX8_tries_0 (g_c dX8_tries_1 (g_c dX8_tries_2 (g_c dX8_tries_5 g_n)))) rfl rfl ?_
  refine V_gV C cv_X8_327 P ⟨_, _, _, _, rfl, rfl⟩ (by rfl) (by decide) (As := []) (rest := []) rfl rfl (Nat.le_of_ble_eq_true rfl) dX8_tries_6 (fun rv s1 hq => ?_)
  obtain ⟨r3, rfl, p2⟩ := hq
  refine V_blk C (pc' := 14) (σ' := s1) (L' := [some (.ref 63), some (.int hrs), some (.int r3)]) (st' := [.int (s1 63 47)]) (g_c dX8_tries_9 (g_c dX8_tries_10 (g_c dX8_tries_11 g_n))) rfl rfl ?_
  refine V_if_eq C (tgt := 25) dX8_tries_14 (by decide) (fun h4 => ?_) (fun h4 => ?_)
  · skip
    have p5 := p2.1 h4
    refine V_blk C (pc' := 27) (σ' := s1) (L' := [some (.ref 63), some (.int hrs), some (.int r3)]) (st' := [.int 1, .ref 63]) (g_c dX8_tries_25 (g_c dX8_tries_26 g_n)) rfl rfl ?_
    refine V_putZ C (k := 63) fl_X8_335 (by decide) rfl rfl (by rfl) rfl dX8_tries_27 ?_
    refine V_blk C (pc' := 40) (σ' := (g_up (g_up (g_up s1 63 47 1) 63 46 r3) 63 49 hrs)) (L' := [some (.ref 63), some (.int hrs), some (.int r3)]) (st' := []) (g_c dX8_tries_30 (g_c dX8_tries_31 (g_c dX8_tries_32 (g_c dX8_tries_35 (g_c dX8_tries_36 (g_c dX8_tries_37 g_n)))))) rfl rfl ?_
    refine V_vret C dX8_tries_40 ?_
    exact p5
  · skip
    have p6 := p2.2 h4
    refine V_blk C (pc' := 22) (σ' := s1) (L' := [some (.ref 63), some (.int hrs), some (.int r3)]) (st' := [.int (s1 63 46), .int r3]) (g_c dX8_tries_17 (g_c dX8_tries_18 (g_c dX8_tries_19 g_n))) rfl rfl ?_
    refine V_icmp_ge2 C (tgt := 40) dX8_tries_22 (by decide) (fun h7 => ?_) (fun h7 => ?_)
    · skip
      have p8 := p6.2 h7
      refine V_vret C dX8_tries_40 ?_
      exact p8
    · skip
      have p9 := p6.1 h7
      refine V_blk C (pc' := 27) (σ' := s1) (L' := [some (.ref 63), some (.int hrs), some (.int r3)]) (st' := [.int 1, .ref 63]) (g_c dX8_tries_25 (g_c dX8_tries_26 g_n)) rfl rfl ?_
      refine V_putZ C (k := 63) fl_X8_335 (by decide) rfl rfl (by rfl) rfl dX8_tries_27 ?_
      refine V_blk C (pc' := 40) (σ' := (g_up (g_up (g_up s1 63 47 1) 63 46 r3) 63 49 hrs)) (L' := [some (.ref 63), some (.int hrs), some (.int r3)]) (st' := []) (g_c dX8_tries_30 (g_c dX8_tries_31 (g_c dX8_tries_32 (g_c dX8_tries_35 (g_c dX8_tries_36 (g_c dX8_tries_37 g_n)))))) rfl rfl ?_
      refine V_vret C dX8_tries_40 ?_
      exact p9
set_option maxRecDepth 100000 in
def P_X8_rise (h : Nat) (k : Int32) (wh : Int32) (σ : gS) (Qp : Option Value → gS → Prop) : Prop :=
  ((g_in k 0 3 → ((g_in wh 0 1 → (g_call yX8_allDrips cX8_allDrips 1 (some .int) kM h [.ref 63] (g_up σ 63 47 0) (fun rv s6 => ∃ r8 : Int32, rv = some (.int r8) ∧ (g_call yX8_poursOf cX8_poursOf 3 none kM h [.ref 63, .int r8] s6 (fun rv s9 => rv = none ∧ (∃ J12 : gS → Prop, (((k : Int32) = 0 → (g_call yX8_tries cX8_tries 3 none kM h [.ref 63, .int 0] s9 (fun rv s105 => rv = none ∧ (J12 s105)))) ∧ (¬ (k : Int32) = 0 → (J12 s9))) ∧ ∀  (s11 : gS), J12 s11 → (∃ I19 : Nat → Int32 → gS → Prop, (∃ k24 : Nat, I19 k24 0 s11) ∧ ∀ (k21 : Nat) (v18 : Int32) (s27 : gS), I19 k21 v18 s27 → (((v18 : Int32) < 24 → (((0 : Int32) < k → (∃ J38 : gS → Prop, (((k : Int32) = 1 → (g_call yX8_tries cX8_tries 3 none kM h [.ref 63, .int ((1 : Int32) <<< (v18 &&& 31))] s27 (fun rv s100 => rv = none ∧ (J38 s100)))) ∧ (¬ (k : Int32) = 1 → (J38 s27))) ∧ ∀  (s37 : gS), J38 s37 → (∃ I45 : Nat → Int32 → gS → Prop, (∃ k50 : Nat, I45 k50 0 s37) ∧ ∀ (k47 : Nat) (v44 : Int32) (s53 : gS), I45 k47 v44 s53 → (((v44 : Int32) < v18 → (((1 : Int32) < k → (∃ J64 : gS → Prop, (((k : Int32) = 2 → (g_call yX8_tries cX8_tries 3 none kM h [.ref 63, .int (((1 : Int32) <<< (v18 &&& 31)) ||| ((1 : Int32) <<< (v44 &&& 31)))] s53 (fun rv s95 => rv = none ∧ (J64 s95)))) ∧ (¬ (k : Int32) = 2 → (J64 s53))) ∧ ∀  (s63 : gS), J64 s63 → (∃ I71 : Nat → Int32 → gS → Prop, (∃ k76 : Nat, I71 k76 0 s63) ∧ ∀ (k73 : Nat) (v70 : Int32) (s79 : gS), I71 k73 v70 s79 → (((v70 : Int32) < v44 → (((2 : Int32) < k → (g_call yX8_tries cX8_tries 3 none kM h [.ref 63, .int ((((1 : Int32) <<< (v18 &&& 31)) ||| ((1 : Int32) <<< (v44 &&& 31))) ||| ((1 : Int32) <<< (v70 &&& 31)))] s79 (fun rv s89 => rv = none ∧ (∃ k91 : Nat, k91 < k73 ∧ I71 k91 (v70 + 1) s89)))) ∧ (¬ (2 : Int32) < k → (∃ k87 : Nat, k87 < k47 ∧ I45 k87 (v44 + 1) s79)))) ∧ (¬ (v70 : Int32) < v44 → (∃ k83 : Nat, k83 < k47 ∧ I45 k83 (v44 + 1) s79)))))) ∧ (¬ (1 : Int32) < k → (∃ k61 : Nat, k61 < k21 ∧ I19 k61 (v18 + 1) s53)))) ∧ (¬ (v44 : Int32) < v18 → (∃ k57 : Nat, k57 < k21 ∧ I19 k57 (v18 + 1) s53)))))) ∧ (¬ (0 : Int32) < k → (Qp (some (.int (if (wh : Int32) = 0 then (s27 63 46) else (s27 63 49)))) (g_up s27 63 8 (σ 63 8)))))) ∧ (¬ (v18 : Int32) < 24 → (Qp (some (.int (if (wh : Int32) = 0 then (s27 63 46) else (s27 63 49)))) (g_up s27 63 8 (σ 63 8)))))))))))) ∧ (¬ g_in wh 0 1 → (Qp (some (.int (-2))) σ)))) ∧ (¬ g_in k 0 3 → (Qp (some (.int (-2))) σ)))
set_option maxHeartbeats 4000000 in
set_option maxRecDepth 100000 in
theorem w_X8_rise {h : Nat} (hh : 6 ≤ h) {k : Int32} {wh : Int32} {σ : gS} {Qp : Option Value → gS → Prop} (P : P_X8_rise h k wh σ Qp) : g_Met yX8_rise cX8_rise 7 (some .int) h kM [.ref 63, .int k, .int wh] σ Qp := by
  unfold P_X8_rise at P
  refine g_Met.of (own := 8) (L := [some (.ref 63), some (.int k), some (.int wh), none, none, none, none]) (by decide) rfl rfl (fun ad => Nat.le_of_ble_eq_true rfl) (fun ad => rfl) (fun X G K C => ?_)
  refine V_blk C (pc' := 6) (σ' := σ) (L' := [some (.ref 63), some (.int k), some (.int wh), none, none, none, none]) (st' := [.long 3, .long 0, .long (Int32.toInt64 k)]) (g_c dX8_rise_0 (g_c dX8_rise_1 (g_c dX8_rise_2 (g_c dX8_rise_3 g_n)))) rfl rfl ?_
  refine V_callSI C cs_X8_110 (c_X8_in32 σ k 0 3 (by decide) (by decide)) (by omega) (by decide) (fun _ h => h) (As := [.long (Int32.toInt64 k), .long 0, .long 3]) (rest := []) rfl rfl (Nat.le_of_ble_eq_true rfl) dX8_rise_6 ?_
  refine V_if_eq_b C (tgt := 22) dX8_rise_9 (by decide) (fun h1 => ?_) (fun h1 => ?_)
  · skip
    have p2 := P.2 h1
    refine V_blk C (pc' := 24) (σ' := σ) (L' := [some (.ref 63), some (.int k), some (.int wh), none, none, none, none]) (st' := [.int (-2)]) (g_c dX8_rise_22 g_n) rfl rfl ?_
    refine V_iret C dX8_rise_24 ?_
    exact p2
  · skip
    have p3 := P.1 h1
    refine V_blk C (pc' := 16) (σ' := σ) (L' := [some (.ref 63), some (.int k), some (.int wh), none, none, none, none]) (st' := [.long 1, .long 0, .long (Int32.toInt64 wh)]) (g_c dX8_rise_12 (g_c dX8_rise_13 (g_c dX8_rise_14 (g_c dX8_rise_15 g_n)))) rfl rfl ?_
    refine V_callSI C cs_X8_110 (c_X8_in32 σ wh 0 1 (by decide) (by decide)) (by omega) (by decide) (fun _ h => h) (As := [.long (Int32.toInt64 wh), .long 0, .long 1]) (rest := []) rfl rfl (Nat.le_of_ble_eq_true rfl) dX8_rise_16 ?_
    refine V_if_ne_b C (tgt := 25) dX8_rise_19 (by decide) (fun h4 => ?_) (fun h4 => ?_)
    · skip
      have p5 := p3.1 h4
      refine V_blk C (pc' := 32) (σ' := σ) (L' := [some (.ref 63), some (.int k), some (.int wh), some (.int (σ 63 8)), none, none, none]) (st' := [.int 0, .ref 63]) (g_c dX8_rise_25 (g_c dX8_rise_26 (g_c dX8_rise_29 (g_c dX8_rise_30 (g_c dX8_rise_31 g_n))))) rfl rfl ?_
      refine V_putZ C (k := 63) fl_X8_335 (by decide) rfl rfl (by rfl) rfl dX8_rise_32 ?_
      refine V_blk C (pc' := 37) (σ' := (g_up σ 63 47 0)) (L' := [some (.ref 63), some (.int k), some (.int wh), some (.int (σ 63 8)), none, none, none]) (st' := [.ref 63, .ref 63]) (g_c dX8_rise_35 (g_c dX8_rise_36 g_n)) rfl rfl ?_
      refine V_gV C cv_X8_321 p5 ⟨_, _, _, _, rfl, rfl⟩ (by rfl) (by decide) (As := []) (rest := [.ref 63]) rfl rfl (Nat.le_of_ble_eq_true rfl) dX8_rise_37 (fun rv s6 hq => ?_)
      obtain ⟨r8, rfl, p7⟩ := hq
      refine V_gV C cv_X8_324 p7 ⟨_, _, _, _, rfl, rfl⟩ (by rfl) (by decide) (As := [.int r8]) (rest := []) rfl rfl (Nat.le_of_ble_eq_true rfl) dX8_rise_40 (fun rv s9 hq => ?_)
      obtain ⟨rfl, p10⟩ := hq
      refine V_blk C (pc' := 44) (σ' := s9) (L' := [some (.ref 63), some (.int k), some (.int wh), some (.int (σ 63 8)), none, none, none]) (st' := [.int k]) (g_c dX8_rise_43 g_n) rfl rfl ?_
      obtain ⟨J12, p14, p15⟩ := p10
      have jn13 : ∀  (s11 : gS) (_ : J12 s11), gV X G K 7 Qp s11 [some (.ref 63), some (.int k), some (.int wh), some (.int (σ 63 8)), none, none, none] [] 52 := by
        intro s11 hJ16
        have p17 := p15 s11 hJ16
        refine V_blk C (pc' := 55) (σ' := s11) (L' := [some (.ref 63), some (.int k), some (.int wh), some (.int (σ 63 8)), some (.int 0), none, none]) (st' := []) (g_c dX8_rise_52 (g_c dX8_rise_53 g_n)) rfl rfl ?_
        obtain ⟨I19, ⟨k24, hI26⟩, hS23⟩ := p17
        have lp25 : ∀ (k21 : Nat) (v18 : Int32) (s27 : gS), I19 k21 v18 s27 → gV X G K 7 Qp s27 [some (.ref 63), some (.int k), some (.int wh), some (.int (σ 63 8)), some (.int v18), none, none] [] 55 := by
          intro k21
          induction k21 using Nat.strongRecOn with
          | ind k21 ih20 =>
            intro v18 s27 hI22
            have p28 := hS23 k21 v18 s27 hI22
            refine V_blk C (pc' := 59) (σ' := s27) (L' := [some (.ref 63), some (.int k), some (.int wh), some (.int (σ 63 8)), some (.int v18), none, none]) (st' := [.int 24, .int v18]) (g_c dX8_rise_55 (g_c dX8_rise_57 g_n)) rfl rfl ?_
            refine V_icmp_ge2 C (tgt := 163) dX8_rise_59 (by decide) (fun h29 => ?_) (fun h29 => ?_)
            · skip
              have p30 := p28.2 h29
              refine V_blk C (pc' := 169) (σ' := (g_up s27 63 8 (σ 63 8))) (L' := [some (.ref 63), some (.int k), some (.int wh), some (.int (σ 63 8)), some (.int v18), none, none]) (st' := [.int wh]) (g_c dX8_rise_163 (g_c dX8_rise_164 (g_c dX8_rise_165 (g_c dX8_rise_168 g_n)))) rfl rfl ?_
              refine V_join (P := (wh : Int32) = 0) (a := (s27 63 46)) (b := (s27 63 49)) (pcJ := 183) (rest := []) (fun x_ hx_ => ?_) (fun kT kF => ?_)
              · skip
                subst hx_
                refine V_iret C dX8_rise_183 ?_
                exact p30
              · refine V_if_ne C (tgt := 179) dX8_rise_169 (by decide) (fun h31 => ?_) (fun h31 => ?_)
                · skip
                  refine V_blk C (pc' := 183) (σ' := (g_up s27 63 8 (σ 63 8))) (L' := [some (.ref 63), some (.int k), some (.int wh), some (.int (σ 63 8)), some (.int v18), none, none]) (st' := [.int (s27 63 49)]) (g_c dX8_rise_179 (g_c dX8_rise_180 g_n)) rfl rfl ?_
                  exact kF h31
                · skip
                  refine V_blk C (pc' := 176) (σ' := (g_up s27 63 8 (σ 63 8))) (L' := [some (.ref 63), some (.int k), some (.int wh), some (.int (σ 63 8)), some (.int v18), none, none]) (st' := [.int (s27 63 46)]) (g_c dX8_rise_172 (g_c dX8_rise_173 g_n)) rfl rfl ?_
                  refine V_goto C (tgt := 183) dX8_rise_176 (by decide) ?_
                  exact kT h31
            · skip
              have p32 := p28.1 h29
              refine V_blk C (pc' := 63) (σ' := s27) (L' := [some (.ref 63), some (.int k), some (.int wh), some (.int (σ 63 8)), some (.int v18), none, none]) (st' := [.int k]) (g_c dX8_rise_62 g_n) rfl rfl ?_
              refine V_if_le2 C (tgt := 163) dX8_rise_63 (by decide) (fun h33 => ?_) (fun h33 => ?_)
              · skip
                have p34 := p32.2 h33
                refine V_blk C (pc' := 169) (σ' := (g_up s27 63 8 (σ 63 8))) (L' := [some (.ref 63), some (.int k), some (.int wh), some (.int (σ 63 8)), some (.int v18), none, none]) (st' := [.int wh]) (g_c dX8_rise_163 (g_c dX8_rise_164 (g_c dX8_rise_165 (g_c dX8_rise_168 g_n)))) rfl rfl ?_
                refine V_join (P := (wh : Int32) = 0) (a := (s27 63 46)) (b := (s27 63 49)) (pcJ := 183) (rest := []) (fun x_ hx_ => ?_) (fun kT kF => ?_)
                · skip
                  subst hx_
                  refine V_iret C dX8_rise_183 ?_
                  exact p34
                · refine V_if_ne C (tgt := 179) dX8_rise_169 (by decide) (fun h35 => ?_) (fun h35 => ?_)
                  · skip
                    refine V_blk C (pc' := 183) (σ' := (g_up s27 63 8 (σ 63 8))) (L' := [some (.ref 63), some (.int k), some (.int wh), some (.int (σ 63 8)), some (.int v18), none, none]) (st' := [.int (s27 63 49)]) (g_c dX8_rise_179 (g_c dX8_rise_180 g_n)) rfl rfl ?_
                    exact kF h35
                  · skip
                    refine V_blk C (pc' := 176) (σ' := (g_up s27 63 8 (σ 63 8))) (L' := [some (.ref 63), some (.int k), some (.int wh), some (.int (σ 63 8)), some (.int v18), none, none]) (st' := [.int (s27 63 46)]) (g_c dX8_rise_172 (g_c dX8_rise_173 g_n)) rfl rfl ?_
                    refine V_goto C (tgt := 183) dX8_rise_176 (by decide) ?_
                    exact kT h35
              · skip
                have p36 := p32.1 h33
                refine V_blk C (pc' := 68) (σ' := s27) (L' := [some (.ref 63), some (.int k), some (.int wh), some (.int (σ 63 8)), some (.int v18), none, none]) (st' := [.int 1, .int k]) (g_c dX8_rise_66 (g_c dX8_rise_67 g_n)) rfl rfl ?_
                obtain ⟨J38, p40, p41⟩ := p36
                have jn39 : ∀  (s37 : gS) (_ : J38 s37), gV X G K 7 Qp s37 [some (.ref 63), some (.int k), some (.int wh), some (.int (σ 63 8)), some (.int v18), none, none] [] 79 := by
                  intro s37 hJ42
                  have p43 := p41 s37 hJ42
                  refine V_blk C (pc' := 82) (σ' := s37) (L' := [some (.ref 63), some (.int k), some (.int wh), some (.int (σ 63 8)), some (.int v18), some (.int 0), none]) (st' := []) (g_c dX8_rise_79 (g_c dX8_rise_80 g_n)) rfl rfl ?_
                  obtain ⟨I45, ⟨k50, hI52⟩, hS49⟩ := p43
                  have lp51 : ∀ (k47 : Nat) (v44 : Int32) (s53 : gS), I45 k47 v44 s53 → gV X G K 7 Qp s53 [some (.ref 63), some (.int k), some (.int wh), some (.int (σ 63 8)), some (.int v18), some (.int v44), none] [] 82 := by
                    intro k47
                    induction k47 using Nat.strongRecOn with
                    | ind k47 ih46 =>
                      intro v44 s53 hI48
                      have p54 := hS49 k47 v44 s53 hI48
                      refine V_blk C (pc' := 86) (σ' := s53) (L' := [some (.ref 63), some (.int k), some (.int wh), some (.int (σ 63 8)), some (.int v18), some (.int v44), none]) (st' := [.int v18, .int v44]) (g_c dX8_rise_82 (g_c dX8_rise_84 g_n)) rfl rfl ?_
                      refine V_icmp_ge2 C (tgt := 157) dX8_rise_86 (by decide) (fun h55 => ?_) (fun h55 => ?_)
                      · skip
                        have p56 := p54.2 h55
                        refine V_blk C (pc' := 160) (σ' := s53) (L' := [some (.ref 63), some (.int k), some (.int wh), some (.int (σ 63 8)), some (.int (v18 + 1)), some (.int v44), none]) (st' := []) (g_c dX8_rise_157 g_n) rfl rfl ?_
                        refine V_goto C (tgt := 55) dX8_rise_160 (by decide) ?_
                        refine V_less (L' := [some (.ref 63), some (.int k), some (.int wh), some (.int (σ 63 8)), some (.int (v18 + 1)), none, none]) (by simp [g_subL]) ?_
                        obtain ⟨k57, hkk57, hIk57⟩ := p56
                        exact ih20 k57 hkk57 (v18 + 1) s53 hIk57
                      · skip
                        have p58 := p54.1 h55
                        refine V_blk C (pc' := 91) (σ' := s53) (L' := [some (.ref 63), some (.int k), some (.int wh), some (.int (σ 63 8)), some (.int v18), some (.int v44), none]) (st' := [.int 1, .int k]) (g_c dX8_rise_89 (g_c dX8_rise_90 g_n)) rfl rfl ?_
                        refine V_icmp_le2 C (tgt := 157) dX8_rise_91 (by decide) (fun h59 => ?_) (fun h59 => ?_)
                        · skip
                          have p60 := p58.2 h59
                          refine V_blk C (pc' := 160) (σ' := s53) (L' := [some (.ref 63), some (.int k), some (.int wh), some (.int (σ 63 8)), some (.int (v18 + 1)), some (.int v44), none]) (st' := []) (g_c dX8_rise_157 g_n) rfl rfl ?_
                          refine V_goto C (tgt := 55) dX8_rise_160 (by decide) ?_
                          refine V_less (L' := [some (.ref 63), some (.int k), some (.int wh), some (.int (σ 63 8)), some (.int (v18 + 1)), none, none]) (by simp [g_subL]) ?_
                          obtain ⟨k61, hkk61, hIk61⟩ := p60
                          exact ih20 k61 hkk61 (v18 + 1) s53 hIk61
                        · skip
                          have p62 := p58.1 h59
                          refine V_blk C (pc' := 96) (σ' := s53) (L' := [some (.ref 63), some (.int k), some (.int wh), some (.int (σ 63 8)), some (.int v18), some (.int v44), none]) (st' := [.int 2, .int k]) (g_c dX8_rise_94 (g_c dX8_rise_95 g_n)) rfl rfl ?_
                          obtain ⟨J64, p66, p67⟩ := p62
                          have jn65 : ∀  (s63 : gS) (_ : J64 s63), gV X G K 7 Qp s63 [some (.ref 63), some (.int k), some (.int wh), some (.int (σ 63 8)), some (.int v18), some (.int v44), none] [] 112 := by
                            intro s63 hJ68
                            have p69 := p67 s63 hJ68
                            refine V_blk C (pc' := 115) (σ' := s63) (L' := [some (.ref 63), some (.int k), some (.int wh), some (.int (σ 63 8)), some (.int v18), some (.int v44), some (.int 0)]) (st' := []) (g_c dX8_rise_112 (g_c dX8_rise_113 g_n)) rfl rfl ?_
                            obtain ⟨I71, ⟨k76, hI78⟩, hS75⟩ := p69
                            have lp77 : ∀ (k73 : Nat) (v70 : Int32) (s79 : gS), I71 k73 v70 s79 → gV X G K 7 Qp s79 [some (.ref 63), some (.int k), some (.int wh), some (.int (σ 63 8)), some (.int v18), some (.int v44), some (.int v70)] [] 115 := by
                              intro k73
                              induction k73 using Nat.strongRecOn with
                              | ind k73 ih72 =>
                                intro v70 s79 hI74
                                have p80 := hS75 k73 v70 s79 hI74
                                refine V_blk C (pc' := 119) (σ' := s79) (L' := [some (.ref 63), some (.int k), some (.int wh), some (.int (σ 63 8)), some (.int v18), some (.int v44), some (.int v70)]) (st' := [.int v44, .int v70]) (g_c dX8_rise_115 (g_c dX8_rise_117 g_n)) rfl rfl ?_
                                refine V_icmp_ge2 C (tgt := 151) dX8_rise_119 (by decide) (fun h81 => ?_) (fun h81 => ?_)
                                · skip
                                  have p82 := p80.2 h81
                                  refine V_blk C (pc' := 154) (σ' := s79) (L' := [some (.ref 63), some (.int k), some (.int wh), some (.int (σ 63 8)), some (.int v18), some (.int (v44 + 1)), some (.int v70)]) (st' := []) (g_c dX8_rise_151 g_n) rfl rfl ?_
                                  refine V_goto C (tgt := 82) dX8_rise_154 (by decide) ?_
                                  refine V_less (L' := [some (.ref 63), some (.int k), some (.int wh), some (.int (σ 63 8)), some (.int v18), some (.int (v44 + 1)), none]) (by simp [g_subL]) ?_
                                  obtain ⟨k83, hkk83, hIk83⟩ := p82
                                  exact ih46 k83 hkk83 (v44 + 1) s79 hIk83
                                · skip
                                  have p84 := p80.1 h81
                                  refine V_blk C (pc' := 124) (σ' := s79) (L' := [some (.ref 63), some (.int k), some (.int wh), some (.int (σ 63 8)), some (.int v18), some (.int v44), some (.int v70)]) (st' := [.int 2, .int k]) (g_c dX8_rise_122 (g_c dX8_rise_123 g_n)) rfl rfl ?_
                                  refine V_icmp_le2 C (tgt := 151) dX8_rise_124 (by decide) (fun h85 => ?_) (fun h85 => ?_)
                                  · skip
                                    have p86 := p84.2 h85
                                    refine V_blk C (pc' := 154) (σ' := s79) (L' := [some (.ref 63), some (.int k), some (.int wh), some (.int (σ 63 8)), some (.int v18), some (.int (v44 + 1)), some (.int v70)]) (st' := []) (g_c dX8_rise_151 g_n) rfl rfl ?_
                                    refine V_goto C (tgt := 82) dX8_rise_154 (by decide) ?_
                                    refine V_less (L' := [some (.ref 63), some (.int k), some (.int wh), some (.int (σ 63 8)), some (.int v18), some (.int (v44 + 1)), none]) (by simp [g_subL]) ?_
                                    obtain ⟨k87, hkk87, hIk87⟩ := p86
                                    exact ih46 k87 hkk87 (v44 + 1) s79 hIk87
                                  · skip
                                    have p88 := p84.1 h85
                                    refine V_blk C (pc' := 142) (σ' := s79) (L' := [some (.ref 63), some (.int k), some (.int wh), some (.int (σ 63 8)), some (.int v18), some (.int v44), some (.int v70)]) (st' := [.int ((((1 : Int32) <<< (v18 &&& 31)) ||| ((1 : Int32) <<< (v44 &&& 31))) ||| ((1 : Int32) <<< (v70 &&& 31))), .ref 63]) (g_c dX8_rise_127 (g_c dX8_rise_128 (g_c dX8_rise_129 (g_c dX8_rise_131 (g_c dX8_rise_132 (g_c dX8_rise_133 (g_c dX8_rise_135 (g_c dX8_rise_136 (g_c dX8_rise_137 (g_c dX8_rise_138 (g_c dX8_rise_140 (g_c dX8_rise_141 g_n)))))))))))) rfl rfl ?_
                                    refine V_gV C cv_X8_350 p88 ⟨_, _, _, _, rfl, rfl⟩ (by rfl) (by decide) (As := [.int ((((1 : Int32) <<< (v18 &&& 31)) ||| ((1 : Int32) <<< (v44 &&& 31))) ||| ((1 : Int32) <<< (v70 &&& 31)))]) (rest := []) rfl rfl (Nat.le_of_ble_eq_true rfl) dX8_rise_142 (fun rv s89 hq => ?_)
                                    obtain ⟨rfl, p90⟩ := hq
                                    refine V_blk C (pc' := 148) (σ' := s89) (L' := [some (.ref 63), some (.int k), some (.int wh), some (.int (σ 63 8)), some (.int v18), some (.int v44), some (.int (v70 + 1))]) (st' := []) (g_c dX8_rise_145 g_n) rfl rfl ?_
                                    refine V_goto C (tgt := 115) dX8_rise_148 (by decide) ?_
                                    obtain ⟨k91, hkk91, hIk91⟩ := p90
                                    exact ih72 k91 hkk91 (v70 + 1) s89 hIk91
                            exact lp77 k76 0 s63 hI78
                          refine V_icmp_ne C (tgt := 112) dX8_rise_96 (by decide) (fun h92 => ?_) (fun h92 => ?_)
                          · skip
                            have p93 := p66.2 h92
                            exact jn65 s53 p93
                          · skip
                            have p94 := p66.1 h92
                            refine V_blk C (pc' := 109) (σ' := s53) (L' := [some (.ref 63), some (.int k), some (.int wh), some (.int (σ 63 8)), some (.int v18), some (.int v44), none]) (st' := [.int (((1 : Int32) <<< (v18 &&& 31)) ||| ((1 : Int32) <<< (v44 &&& 31))), .ref 63]) (g_c dX8_rise_99 (g_c dX8_rise_100 (g_c dX8_rise_101 (g_c dX8_rise_103 (g_c dX8_rise_104 (g_c dX8_rise_105 (g_c dX8_rise_107 (g_c dX8_rise_108 g_n)))))))) rfl rfl ?_
                            refine V_gV C cv_X8_350 p94 ⟨_, _, _, _, rfl, rfl⟩ (by rfl) (by decide) (As := [.int (((1 : Int32) <<< (v18 &&& 31)) ||| ((1 : Int32) <<< (v44 &&& 31)))]) (rest := []) rfl rfl (Nat.le_of_ble_eq_true rfl) dX8_rise_109 (fun rv s95 hq => ?_)
                            obtain ⟨rfl, p96⟩ := hq
                            exact jn65 s95 p96
                  exact lp51 k50 0 s37 hI52
                refine V_icmp_ne C (tgt := 79) dX8_rise_68 (by decide) (fun h97 => ?_) (fun h97 => ?_)
                · skip
                  have p98 := p40.2 h97
                  exact jn39 s27 p98
                · skip
                  have p99 := p40.1 h97
                  refine V_blk C (pc' := 76) (σ' := s27) (L' := [some (.ref 63), some (.int k), some (.int wh), some (.int (σ 63 8)), some (.int v18), none, none]) (st' := [.int ((1 : Int32) <<< (v18 &&& 31)), .ref 63]) (g_c dX8_rise_71 (g_c dX8_rise_72 (g_c dX8_rise_73 (g_c dX8_rise_75 g_n)))) rfl rfl ?_
                  refine V_gV C cv_X8_350 p99 ⟨_, _, _, _, rfl, rfl⟩ (by rfl) (by decide) (As := [.int ((1 : Int32) <<< (v18 &&& 31))]) (rest := []) rfl rfl (Nat.le_of_ble_eq_true rfl) dX8_rise_76 (fun rv s100 hq => ?_)
                  obtain ⟨rfl, p101⟩ := hq
                  exact jn39 s100 p101
        exact lp25 k24 0 s11 hI26
      refine V_if_ne C (tgt := 52) dX8_rise_44 (by decide) (fun h102 => ?_) (fun h102 => ?_)
      · skip
        have p103 := p14.2 h102
        exact jn13 s9 p103
      · skip
        have p104 := p14.1 h102
        refine V_blk C (pc' := 49) (σ' := s9) (L' := [some (.ref 63), some (.int k), some (.int wh), some (.int (σ 63 8)), none, none, none]) (st' := [.int 0, .ref 63]) (g_c dX8_rise_47 (g_c dX8_rise_48 g_n)) rfl rfl ?_
        refine V_gV C cv_X8_350 p104 ⟨_, _, _, _, rfl, rfl⟩ (by rfl) (by decide) (As := [.int 0]) (rest := []) rfl rfl (Nat.le_of_ble_eq_true rfl) dX8_rise_49 (fun rv s105 hq => ?_)
        obtain ⟨rfl, p106⟩ := hq
        exact jn13 s105 p106
    · skip
      have p107 := p3.2 h4
      refine V_blk C (pc' := 24) (σ' := σ) (L' := [some (.ref 63), some (.int k), some (.int wh), none, none, none, none]) (st' := [.int (-2)]) (g_c dX8_rise_22 g_n) rfl rfl ?_
      refine V_iret C dX8_rise_24 ?_
      exact p107
set_option maxRecDepth 100000 in
def P_X8_lead (h : Nat) (wh : Int32) (σ : gS) (Qp : Option Value → gS → Prop) : Prop :=
  ((g_in wh 0 1 → (g_call yX8_costNow cX8_costNow 1 (some .int) kM h [.ref 63] σ (fun rv s3 => ∃ r5 : Int32, rv = some (.int r5) ∧ (∃ I9 : Nat → Int32 → Int32 → Int32 → gS → Prop, (∃ k14 : Nat, I9 k14 r5 (-1) 0 s3) ∧ ∀ (k11 : Nat) (v6 : Int32) (v7 : Int32) (v8 : Int32) (s17 : gS), I9 k11 v6 v7 v8 s17 → (((v8 : Int32) < (s17 63 15) → (∃ I26 : Nat → Int32 → Int32 → Int32 → gS → Prop, (∃ k31 : Nat, I26 k31 v6 v7 0 s17) ∧ ∀ (k28 : Nat) (v23 : Int32) (v24 : Int32) (v25 : Int32) (s34 : gS), I26 k28 v23 v24 v25 s34 → (((v25 : Int32) < 8 → (g_call yX8_allDrips cX8_allDrips 1 (some .int) kM h [.ref 63] s34 (fun rv s40 => ∃ r42 : Int32, rv = some (.int r42) ∧ (g_call yX8_poursOf cX8_poursOf 3 none kM h [.ref 63, .int (r42 &&& (((1 : Int32) <<< (v8 &&& 31)) ^^^ (-1)))] s40 (fun rv s43 => rv = none ∧ (g_call yX8_pour cX8_pour 6 none kM h [.ref 63, .int v8, .int v25, .int 1] s43 (fun rv s45 => rv = none ∧ (g_call yX8_cost cX8_cost 1 (some .int) kM h [.ref 63] s45 (fun rv s47 => ∃ r49 : Int32, rv = some (.int r49) ∧ (((r49 : Int32) < v23 → (∃ k54 : Nat, k54 < k28 ∧ I26 k54 r49 ((10 * v8) + v25) (v25 + 1) s47)) ∧ (¬ (r49 : Int32) < v23 → (∃ k52 : Nat, k52 < k28 ∧ I26 k52 v23 v24 (v25 + 1) s47)))))))))))) ∧ (¬ (v25 : Int32) < 8 → (∃ k38 : Nat, k38 < k11 ∧ I9 k38 v23 v24 (v8 + 1) s34))))) ∧ (¬ (v8 : Int32) < (s17 63 15) → (Qp (some (.int (if (wh : Int32) = 0 then v7 else v6))) s17))))))) ∧ (¬ g_in wh 0 1 → (Qp (some (.int (-2))) σ)))
set_option maxHeartbeats 4000000 in
set_option maxRecDepth 100000 in
theorem w_X8_lead {h : Nat} (hh : 6 ≤ h) {wh : Int32} {σ : gS} {Qp : Option Value → gS → Prop} (P : P_X8_lead h wh σ Qp) : g_Met yX8_lead cX8_lead 7 (some .int) h kM [.ref 63, .int wh] σ Qp := by
  unfold P_X8_lead at P
  refine g_Met.of (own := 8) (L := [some (.ref 63), some (.int wh), none, none, none, none, none]) (by decide) rfl rfl (fun ad => Nat.le_of_ble_eq_true rfl) (fun ad => rfl) (fun X G K C => ?_)
  refine V_blk C (pc' := 4) (σ' := σ) (L' := [some (.ref 63), some (.int wh), none, none, none, none, none]) (st' := [.long 1, .long 0, .long (Int32.toInt64 wh)]) (g_c dX8_lead_0 (g_c dX8_lead_1 (g_c dX8_lead_2 (g_c dX8_lead_3 g_n)))) rfl rfl ?_
  refine V_callSI C cs_X8_110 (c_X8_in32 σ wh 0 1 (by decide) (by decide)) (by omega) (by decide) (fun _ h => h) (As := [.long (Int32.toInt64 wh), .long 0, .long 1]) (rest := []) rfl rfl (Nat.le_of_ble_eq_true rfl) dX8_lead_4 ?_
  refine V_if_ne_b C (tgt := 13) dX8_lead_7 (by decide) (fun h1 => ?_) (fun h1 => ?_)
  · skip
    have p2 := P.1 h1
    refine V_blk C (pc' := 14) (σ' := σ) (L' := [some (.ref 63), some (.int wh), none, none, none, none, none]) (st' := [.ref 63]) (g_c dX8_lead_13 g_n) rfl rfl ?_
    refine V_gV C cv_X8_330 p2 ⟨_, _, _, _, rfl, rfl⟩ (by rfl) (by decide) (As := []) (rest := []) rfl rfl (Nat.le_of_ble_eq_true rfl) dX8_lead_14 (fun rv s3 hq => ?_)
    obtain ⟨r5, rfl, p4⟩ := hq
    refine V_blk C (pc' := 23) (σ' := s3) (L' := [some (.ref 63), some (.int wh), some (.int r5), some (.int (-1)), some (.int 0), none, none]) (st' := []) (g_c dX8_lead_17 (g_c dX8_lead_18 (g_c dX8_lead_19 (g_c dX8_lead_20 (g_c dX8_lead_21 g_n))))) rfl rfl ?_
    obtain ⟨I9, ⟨k14, hI16⟩, hS13⟩ := p4
    have lp15 : ∀ (k11 : Nat) (v6 : Int32) (v7 : Int32) (v8 : Int32) (s17 : gS), I9 k11 v6 v7 v8 s17 → gV X G K 7 Qp s17 [some (.ref 63), some (.int wh), some (.int v6), some (.int v7), some (.int v8), none, none] [] 23 := by
      intro k11
      induction k11 using Nat.strongRecOn with
      | ind k11 ih10 =>
        intro v6 v7 v8 s17 hI12
        have p18 := hS13 k11 v6 v7 v8 s17 hI12
        refine V_blk C (pc' := 29) (σ' := s17) (L' := [some (.ref 63), some (.int wh), some (.int v6), some (.int v7), some (.int v8), none, none]) (st' := [.int (s17 63 15), .int v8]) (g_c dX8_lead_23 (g_c dX8_lead_25 (g_c dX8_lead_26 g_n))) rfl rfl ?_
        refine V_icmp_ge2 C (tgt := 102) dX8_lead_29 (by decide) (fun h19 => ?_) (fun h19 => ?_)
        · skip
          have p20 := p18.2 h19
          refine V_blk C (pc' := 103) (σ' := s17) (L' := [some (.ref 63), some (.int wh), some (.int v6), some (.int v7), some (.int v8), none, none]) (st' := [.int wh]) (g_c dX8_lead_102 g_n) rfl rfl ?_
          refine V_join (P := (wh : Int32) = 0) (a := v7) (b := v6) (pcJ := 111) (rest := []) (fun x_ hx_ => ?_) (fun kT kF => ?_)
          · skip
            subst hx_
            refine V_iret C dX8_lead_111 ?_
            exact p20
          · refine V_if_ne C (tgt := 110) dX8_lead_103 (by decide) (fun h21 => ?_) (fun h21 => ?_)
            · skip
              refine V_blk C (pc' := 111) (σ' := s17) (L' := [some (.ref 63), some (.int wh), some (.int v6), some (.int v7), some (.int v8), none, none]) (st' := [.int v6]) (g_c dX8_lead_110 g_n) rfl rfl ?_
              exact kF h21
            · skip
              refine V_blk C (pc' := 107) (σ' := s17) (L' := [some (.ref 63), some (.int wh), some (.int v6), some (.int v7), some (.int v8), none, none]) (st' := [.int v7]) (g_c dX8_lead_106 g_n) rfl rfl ?_
              refine V_goto C (tgt := 111) dX8_lead_107 (by decide) ?_
              exact kT h21
        · skip
          have p22 := p18.1 h19
          refine V_blk C (pc' := 35) (σ' := s17) (L' := [some (.ref 63), some (.int wh), some (.int v6), some (.int v7), some (.int v8), some (.int 0), none]) (st' := []) (g_c dX8_lead_32 (g_c dX8_lead_33 g_n)) rfl rfl ?_
          obtain ⟨I26, ⟨k31, hI33⟩, hS30⟩ := p22
          have lp32 : ∀ (k28 : Nat) (v23 : Int32) (v24 : Int32) (v25 : Int32) (s34 : gS), I26 k28 v23 v24 v25 s34 → gV X G K 7 Qp s34 [some (.ref 63), some (.int wh), some (.int v23), some (.int v24), some (.int v8), some (.int v25), none] [] 35 := by
            intro k28
            induction k28 using Nat.strongRecOn with
            | ind k28 ih27 =>
              intro v23 v24 v25 s34 hI29
              have p35 := hS30 k28 v23 v24 v25 s34 hI29
              refine V_blk C (pc' := 39) (σ' := s34) (L' := [some (.ref 63), some (.int wh), some (.int v23), some (.int v24), some (.int v8), some (.int v25), none]) (st' := [.int 8, .int v25]) (g_c dX8_lead_35 (g_c dX8_lead_37 g_n)) rfl rfl ?_
              refine V_icmp_ge2 C (tgt := 96) dX8_lead_39 (by decide) (fun h36 => ?_) (fun h36 => ?_)
              · skip
                have p37 := p35.2 h36
                refine V_blk C (pc' := 99) (σ' := s34) (L' := [some (.ref 63), some (.int wh), some (.int v23), some (.int v24), some (.int (v8 + 1)), some (.int v25), none]) (st' := []) (g_c dX8_lead_96 g_n) rfl rfl ?_
                refine V_goto C (tgt := 23) dX8_lead_99 (by decide) ?_
                refine V_less (L' := [some (.ref 63), some (.int wh), some (.int v23), some (.int v24), some (.int (v8 + 1)), none, none]) (by simp [g_subL]) ?_
                obtain ⟨k38, hkk38, hIk38⟩ := p37
                exact ih10 k38 hkk38 v23 v24 (v8 + 1) s34 hIk38
              · skip
                have p39 := p35.1 h36
                refine V_blk C (pc' := 44) (σ' := s34) (L' := [some (.ref 63), some (.int wh), some (.int v23), some (.int v24), some (.int v8), some (.int v25), none]) (st' := [.ref 63, .ref 63]) (g_c dX8_lead_42 (g_c dX8_lead_43 g_n)) rfl rfl ?_
                refine V_gV C cv_X8_321 p39 ⟨_, _, _, _, rfl, rfl⟩ (by rfl) (by decide) (As := []) (rest := [.ref 63]) rfl rfl (Nat.le_of_ble_eq_true rfl) dX8_lead_44 (fun rv s40 hq => ?_)
                obtain ⟨r42, rfl, p41⟩ := hq
                refine V_blk C (pc' := 54) (σ' := s40) (L' := [some (.ref 63), some (.int wh), some (.int v23), some (.int v24), some (.int v8), some (.int v25), none]) (st' := [.int (r42 &&& (((1 : Int32) <<< (v8 &&& 31)) ^^^ (-1))), .ref 63]) (g_c dX8_lead_47 (g_c dX8_lead_48 (g_c dX8_lead_50 (g_c dX8_lead_51 (g_c dX8_lead_52 (g_c dX8_lead_53 g_n)))))) rfl rfl ?_
                refine V_gV C cv_X8_324 p41 ⟨_, _, _, _, rfl, rfl⟩ (by rfl) (by decide) (As := [.int (r42 &&& (((1 : Int32) <<< (v8 &&& 31)) ^^^ (-1)))]) (rest := []) rfl rfl (Nat.le_of_ble_eq_true rfl) dX8_lead_54 (fun rv s43 hq => ?_)
                obtain ⟨rfl, p44⟩ := hq
                refine V_blk C (pc' := 63) (σ' := s43) (L' := [some (.ref 63), some (.int wh), some (.int v23), some (.int v24), some (.int v8), some (.int v25), none]) (st' := [.int 1, .int v25, .int v8, .ref 63]) (g_c dX8_lead_57 (g_c dX8_lead_58 (g_c dX8_lead_60 (g_c dX8_lead_62 g_n)))) rfl rfl ?_
                refine V_gV C cv_X8_291 p44 ⟨_, _, _, _, rfl, rfl⟩ (by rfl) (by decide) (As := [.int v8, .int v25, .int 1]) (rest := []) rfl rfl (Nat.le_of_ble_eq_true rfl) dX8_lead_63 (fun rv s45 hq => ?_)
                obtain ⟨rfl, p46⟩ := hq
                refine V_blk C (pc' := 67) (σ' := s45) (L' := [some (.ref 63), some (.int wh), some (.int v23), some (.int v24), some (.int v8), some (.int v25), none]) (st' := [.ref 63]) (g_c dX8_lead_66 g_n) rfl rfl ?_
                refine V_gV C cv_X8_327 p46 ⟨_, _, _, _, rfl, rfl⟩ (by rfl) (by decide) (As := []) (rest := []) rfl rfl (Nat.le_of_ble_eq_true rfl) dX8_lead_67 (fun rv s47 hq => ?_)
                obtain ⟨r49, rfl, p48⟩ := hq
                refine V_blk C (pc' := 75) (σ' := s47) (L' := [some (.ref 63), some (.int wh), some (.int v23), some (.int v24), some (.int v8), some (.int v25), some (.int r49)]) (st' := [.int v23, .int r49]) (g_c dX8_lead_70 (g_c dX8_lead_72 (g_c dX8_lead_74 g_n))) rfl rfl ?_
                refine V_icmp_ge2 C (tgt := 90) dX8_lead_75 (by decide) (fun h50 => ?_) (fun h50 => ?_)
                · skip
                  have p51 := p48.2 h50
                  refine V_blk C (pc' := 93) (σ' := s47) (L' := [some (.ref 63), some (.int wh), some (.int v23), some (.int v24), some (.int v8), some (.int (v25 + 1)), some (.int r49)]) (st' := []) (g_c dX8_lead_90 g_n) rfl rfl ?_
                  refine V_goto C (tgt := 35) dX8_lead_93 (by decide) ?_
                  refine V_less (L' := [some (.ref 63), some (.int wh), some (.int v23), some (.int v24), some (.int v8), some (.int (v25 + 1)), none]) (by simp [g_subL]) ?_
                  obtain ⟨k52, hkk52, hIk52⟩ := p51
                  exact ih27 k52 hkk52 v23 v24 (v25 + 1) s47 hIk52
                · skip
                  have p53 := p48.1 h50
                  refine V_blk C (pc' := 93) (σ' := s47) (L' := [some (.ref 63), some (.int wh), some (.int r49), some (.int ((10 * v8) + v25)), some (.int v8), some (.int (v25 + 1)), some (.int r49)]) (st' := []) (g_c dX8_lead_78 (g_c dX8_lead_80 (g_c dX8_lead_81 (g_c dX8_lead_83 (g_c dX8_lead_85 (g_c dX8_lead_86 (g_c dX8_lead_88 (g_c dX8_lead_89 (g_c dX8_lead_90 g_n))))))))) rfl rfl ?_
                  refine V_goto C (tgt := 35) dX8_lead_93 (by decide) ?_
                  refine V_less (L' := [some (.ref 63), some (.int wh), some (.int r49), some (.int ((10 * v8) + v25)), some (.int v8), some (.int (v25 + 1)), none]) (by simp [g_subL]) ?_
                  obtain ⟨k54, hkk54, hIk54⟩ := p53
                  exact ih27 k54 hkk54 r49 ((10 * v8) + v25) (v25 + 1) s47 hIk54
          exact lp32 k31 v6 v7 0 s17 hI33
    exact lp15 k14 r5 (-1) 0 s3 hI16
  · skip
    have p55 := P.2 h1
    refine V_blk C (pc' := 12) (σ' := σ) (L' := [some (.ref 63), some (.int wh), none, none, none, none, none]) (st' := [.int (-2)]) (g_c dX8_lead_10 g_n) rfl rfl ?_
    refine V_iret C dX8_lead_12 ?_
    exact p55
set_option maxRecDepth 100000 in
def P_X8_gone (h : Nat)  (σ : gS) (Qp : Option Value → gS → Prop) : Prop :=
  (g_call yX8_costNow cX8_costNow 1 (some .int) kM h [.ref 63] (g_up σ 63 8 0) (fun rv s1 => ∃ r3 : Int32, rv = some (.int r3) ∧ (Qp (some (.int (if ((s1 63 42) : Int32) = (-1) then 24 else (s1 63 42)))) (g_up s1 63 8 (σ 63 8)))))
set_option maxHeartbeats 4000000 in
set_option maxRecDepth 100000 in
theorem w_X8_gone {h : Nat} (hh : 6 ≤ h)  {σ : gS} {Qp : Option Value → gS → Prop} (P : P_X8_gone h  σ Qp) : g_Met yX8_gone cX8_gone 2 (some .int) h kM [.ref 63] σ Qp := by
  unfold P_X8_gone at P
  refine g_Met.of (own := 8) (L := [some (.ref 63), none]) (by decide) rfl rfl (fun ad => Nat.le_of_ble_eq_true rfl) (fun ad => rfl) (fun X G K C => ?_)
  refine V_blk C (pc' := 11) (σ' := (g_up σ 63 8 0)) (L' := [some (.ref 63), some (.int (σ 63 8))]) (st' := [.ref 63]) (g_c dX8_gone_0 (g_c dX8_gone_1 (g_c dX8_gone_4 (g_c dX8_gone_5 (g_c dX8_gone_6 (g_c dX8_gone_7 (g_c dX8_gone_10 g_n))))))) rfl rfl ?_
  refine V_gV C cv_X8_330 P ⟨_, _, _, _, rfl, rfl⟩ (by rfl) (by decide) (As := []) (rest := []) rfl rfl (Nat.le_of_ble_eq_true rfl) dX8_gone_11 (fun rv s1 hq => ?_)
  obtain ⟨r3, rfl, p2⟩ := hq
  refine V_blk C (pc' := 25) (σ' := (g_up s1 63 8 (σ 63 8))) (L' := [some (.ref 63), some (.int (σ 63 8))]) (st' := [.int (-1), .int (s1 63 42)]) (g_c dX8_gone_14 (g_c dX8_gone_15 (g_c dX8_gone_16 (g_c dX8_gone_17 (g_c dX8_gone_20 (g_c dX8_gone_21 (g_c dX8_gone_24 g_n))))))) rfl rfl ?_
  refine V_join (P := ((s1 63 42) : Int32) = (-1)) (a := 24) (b := (s1 63 42)) (pcJ := 37) (rest := []) (fun x_ hx_ => ?_) (fun kT kF => ?_)
  · skip
    subst hx_
    refine V_iret C dX8_gone_37 ?_
    exact p2
  · refine V_icmp_ne C (tgt := 33) dX8_gone_25 (by decide) (fun h4 => ?_) (fun h4 => ?_)
    · skip
      refine V_blk C (pc' := 37) (σ' := (g_up s1 63 8 (σ 63 8))) (L' := [some (.ref 63), some (.int (σ 63 8))]) (st' := [.int (s1 63 42)]) (g_c dX8_gone_33 (g_c dX8_gone_34 g_n)) rfl rfl ?_
      exact kF h4
    · skip
      refine V_blk C (pc' := 30) (σ' := (g_up s1 63 8 (σ 63 8))) (L' := [some (.ref 63), some (.int (σ 63 8))]) (st' := [.int 24]) (g_c dX8_gone_28 g_n) rfl rfl ?_
      refine V_goto C (tgt := 37) dX8_gone_30 (by decide) ?_
      exact kT h4
set_option maxRecDepth 100000 in
def P_X8_tile (h : Nat) (d : Int32) (σ : gS) (Qp : Option Value → gS → Prop) : Prop :=
  ((g_in d 0 ((σ 63 15) - 1) → (g_call yX8_costNow cX8_costNow 1 (some .int) kM h [.ref 63] σ (fun rv s3 => ∃ r5 : Int32, rv = some (.int r5) ∧ (g_call yX8_allDrips cX8_allDrips 1 (some .int) kM h [.ref 63] s3 (fun rv s6 => ∃ r8 : Int32, rv = some (.int r8) ∧ (g_call yX8_poursOf cX8_poursOf 3 none kM h [.ref 63, .int (r8 &&& (((1 : Int32) <<< (d &&& 31)) ^^^ (-1)))] s6 (fun rv s9 => rv = none ∧ (g_call yX8_cost cX8_cost 1 (some .int) kM h [.ref 63] s9 (fun rv s11 => ∃ r13 : Int32, rv = some (.int r13) ∧ (Qp (some (.int (r5 - r13))) s11)))))))))) ∧ (¬ g_in d 0 ((σ 63 15) - 1) → (Qp (some (.int (-100000))) σ)))
set_option maxHeartbeats 4000000 in
set_option maxRecDepth 100000 in
theorem w_X8_tile {h : Nat} (hh : 6 ≤ h) {d : Int32} {σ : gS} {Qp : Option Value → gS → Prop} (P : P_X8_tile h d σ Qp) : g_Met yX8_tile cX8_tile 3 (some .int) h kM [.ref 63, .int d] σ Qp := by
  unfold P_X8_tile at P
  refine g_Met.of (own := 8) (L := [some (.ref 63), some (.int d), none]) (by decide) rfl rfl (fun ad => Nat.le_of_ble_eq_true rfl) (fun ad => rfl) (fun X G K C => ?_)
  refine V_blk C (pc' := 2) (σ' := σ) (L' := [some (.ref 63), some (.int d), none]) (st' := [.int d, .ref 63]) (g_c dX8_tile_0 (g_c dX8_tile_1 g_n)) rfl rfl ?_
  refine V_callVI C cv_X8_127 (c_X8_isDrip σ d) ⟨_, _, _, _, rfl, rfl⟩ (by rfl) (by omega) (by decide) (fun _ h => h) (As := [.int d]) (rest := []) rfl rfl (Nat.le_of_ble_eq_true rfl) dX8_tile_2 ?_
  refine V_if_ne_b C (tgt := 12) dX8_tile_5 (by decide) (fun h1 => ?_) (fun h1 => ?_)
  · skip
    have p2 := P.1 h1
    refine V_blk C (pc' := 13) (σ' := σ) (L' := [some (.ref 63), some (.int d), none]) (st' := [.ref 63]) (g_c dX8_tile_12 g_n) rfl rfl ?_
    refine V_gV C cv_X8_330 p2 ⟨_, _, _, _, rfl, rfl⟩ (by rfl) (by decide) (As := []) (rest := []) rfl rfl (Nat.le_of_ble_eq_true rfl) dX8_tile_13 (fun rv s3 hq => ?_)
    obtain ⟨r5, rfl, p4⟩ := hq
    refine V_blk C (pc' := 19) (σ' := s3) (L' := [some (.ref 63), some (.int d), some (.int r5)]) (st' := [.ref 63, .ref 63]) (g_c dX8_tile_16 (g_c dX8_tile_17 (g_c dX8_tile_18 g_n))) rfl rfl ?_
    refine V_gV C cv_X8_321 p4 ⟨_, _, _, _, rfl, rfl⟩ (by rfl) (by decide) (As := []) (rest := [.ref 63]) rfl rfl (Nat.le_of_ble_eq_true rfl) dX8_tile_19 (fun rv s6 hq => ?_)
    obtain ⟨r8, rfl, p7⟩ := hq
    refine V_blk C (pc' := 28) (σ' := s6) (L' := [some (.ref 63), some (.int d), some (.int r5)]) (st' := [.int (r8 &&& (((1 : Int32) <<< (d &&& 31)) ^^^ (-1))), .ref 63]) (g_c dX8_tile_22 (g_c dX8_tile_23 (g_c dX8_tile_24 (g_c dX8_tile_25 (g_c dX8_tile_26 (g_c dX8_tile_27 g_n)))))) rfl rfl ?_
    refine V_gV C cv_X8_324 p7 ⟨_, _, _, _, rfl, rfl⟩ (by rfl) (by decide) (As := [.int (r8 &&& (((1 : Int32) <<< (d &&& 31)) ^^^ (-1)))]) (rest := []) rfl rfl (Nat.le_of_ble_eq_true rfl) dX8_tile_28 (fun rv s9 hq => ?_)
    obtain ⟨rfl, p10⟩ := hq
    refine V_blk C (pc' := 33) (σ' := s9) (L' := [some (.ref 63), some (.int d), some (.int r5)]) (st' := [.ref 63, .int r5]) (g_c dX8_tile_31 (g_c dX8_tile_32 g_n)) rfl rfl ?_
    refine V_gV C cv_X8_327 p10 ⟨_, _, _, _, rfl, rfl⟩ (by rfl) (by decide) (As := []) (rest := [.int r5]) rfl rfl (Nat.le_of_ble_eq_true rfl) dX8_tile_33 (fun rv s11 hq => ?_)
    obtain ⟨r13, rfl, p12⟩ := hq
    refine V_blk C (pc' := 37) (σ' := s11) (L' := [some (.ref 63), some (.int d), some (.int r5)]) (st' := [.int (r5 - r13)]) (g_c dX8_tile_36 g_n) rfl rfl ?_
    refine V_iret C dX8_tile_37 ?_
    exact p12
  · skip
    have p14 := P.2 h1
    refine V_blk C (pc' := 11) (σ' := σ) (L' := [some (.ref 63), some (.int d), none]) (st' := [.int (-100000)]) (g_c dX8_tile_8 g_n) rfl rfl ?_
    refine V_iret C dX8_tile_11 ?_
    exact p14
set_option maxRecDepth 100000 in
def P_X8_more (h : Nat) (d : Int32) (n : Int32) (σ : gS) (Qp : Option Value → gS → Prop) : Prop :=
  ((g_in d 0 ((σ 63 15) - 1) → ((g_in n 1 9 → (g_call yX8_costNow cX8_costNow 1 (some .int) kM h [.ref 63] σ (fun rv s6 => ∃ r8 : Int32, rv = some (.int r8) ∧ (g_call yX8_pour cX8_pour 6 none kM h [.ref 63, .int d, .int (-1), .int n] s6 (fun rv s9 => rv = none ∧ (g_call yX8_cost cX8_cost 1 (some .int) kM h [.ref 63] s9 (fun rv s11 => ∃ r13 : Int32, rv = some (.int r13) ∧ (Qp (some (.int (r13 - r8))) s11)))))))) ∧ (¬ g_in n 1 9 → (Qp (some (.int (-100000))) σ)))) ∧ (¬ g_in d 0 ((σ 63 15) - 1) → (Qp (some (.int (-100000))) σ)))
set_option maxHeartbeats 4000000 in
set_option maxRecDepth 100000 in
theorem w_X8_more {h : Nat} (hh : 6 ≤ h) {d : Int32} {n : Int32} {σ : gS} {Qp : Option Value → gS → Prop} (P : P_X8_more h d n σ Qp) : g_Met yX8_more cX8_more 4 (some .int) h kM [.ref 63, .int d, .int n] σ Qp := by
  unfold P_X8_more at P
  refine g_Met.of (own := 8) (L := [some (.ref 63), some (.int d), some (.int n), none]) (by decide) rfl rfl (fun ad => Nat.le_of_ble_eq_true rfl) (fun ad => rfl) (fun X G K C => ?_)
  refine V_blk C (pc' := 2) (σ' := σ) (L' := [some (.ref 63), some (.int d), some (.int n), none]) (st' := [.int d, .ref 63]) (g_c dX8_more_0 (g_c dX8_more_1 g_n)) rfl rfl ?_
  refine V_callVI C cv_X8_127 (c_X8_isDrip σ d) ⟨_, _, _, _, rfl, rfl⟩ (by rfl) (by omega) (by decide) (fun _ h => h) (As := [.int d]) (rest := []) rfl rfl (Nat.le_of_ble_eq_true rfl) dX8_more_2 ?_
  refine V_if_eq_b C (tgt := 20) dX8_more_5 (by decide) (fun h1 => ?_) (fun h1 => ?_)
  · skip
    have p2 := P.2 h1
    refine V_blk C (pc' := 23) (σ' := σ) (L' := [some (.ref 63), some (.int d), some (.int n), none]) (st' := [.int (-100000)]) (g_c dX8_more_20 g_n) rfl rfl ?_
    refine V_iret C dX8_more_23 ?_
    exact p2
  · skip
    have p3 := P.1 h1
    refine V_blk C (pc' := 14) (σ' := σ) (L' := [some (.ref 63), some (.int d), some (.int n), none]) (st' := [.long 9, .long 1, .long (Int32.toInt64 n)]) (g_c dX8_more_8 (g_c dX8_more_9 (g_c dX8_more_10 (g_c dX8_more_11 g_n)))) rfl rfl ?_
    refine V_callSI C cs_X8_110 (c_X8_in32 σ n 1 9 (by decide) (by decide)) (by omega) (by decide) (fun _ h => h) (As := [.long (Int32.toInt64 n), .long 1, .long 9]) (rest := []) rfl rfl (Nat.le_of_ble_eq_true rfl) dX8_more_14 ?_
    refine V_if_ne_b C (tgt := 24) dX8_more_17 (by decide) (fun h4 => ?_) (fun h4 => ?_)
    · skip
      have p5 := p3.1 h4
      refine V_blk C (pc' := 25) (σ' := σ) (L' := [some (.ref 63), some (.int d), some (.int n), none]) (st' := [.ref 63]) (g_c dX8_more_24 g_n) rfl rfl ?_
      refine V_gV C cv_X8_330 p5 ⟨_, _, _, _, rfl, rfl⟩ (by rfl) (by decide) (As := []) (rest := []) rfl rfl (Nat.le_of_ble_eq_true rfl) dX8_more_25 (fun rv s6 hq => ?_)
      obtain ⟨r8, rfl, p7⟩ := hq
      refine V_blk C (pc' := 33) (σ' := s6) (L' := [some (.ref 63), some (.int d), some (.int n), some (.int r8)]) (st' := [.int n, .int (-1), .int d, .ref 63]) (g_c dX8_more_28 (g_c dX8_more_29 (g_c dX8_more_30 (g_c dX8_more_31 (g_c dX8_more_32 g_n))))) rfl rfl ?_
      refine V_gV C cv_X8_291 p7 ⟨_, _, _, _, rfl, rfl⟩ (by rfl) (by decide) (As := [.int d, .int (-1), .int n]) (rest := []) rfl rfl (Nat.le_of_ble_eq_true rfl) dX8_more_33 (fun rv s9 hq => ?_)
      obtain ⟨rfl, p10⟩ := hq
      refine V_blk C (pc' := 37) (σ' := s9) (L' := [some (.ref 63), some (.int d), some (.int n), some (.int r8)]) (st' := [.ref 63]) (g_c dX8_more_36 g_n) rfl rfl ?_
      refine V_gV C cv_X8_327 p10 ⟨_, _, _, _, rfl, rfl⟩ (by rfl) (by decide) (As := []) (rest := []) rfl rfl (Nat.le_of_ble_eq_true rfl) dX8_more_37 (fun rv s11 hq => ?_)
      obtain ⟨r13, rfl, p12⟩ := hq
      refine V_blk C (pc' := 42) (σ' := s11) (L' := [some (.ref 63), some (.int d), some (.int n), some (.int r8)]) (st' := [.int (r13 - r8)]) (g_c dX8_more_40 (g_c dX8_more_41 g_n)) rfl rfl ?_
      refine V_iret C dX8_more_42 ?_
      exact p12
    · skip
      have p14 := p3.2 h4
      refine V_blk C (pc' := 23) (σ' := σ) (L' := [some (.ref 63), some (.int d), some (.int n), none]) (st' := [.int (-100000)]) (g_c dX8_more_20 g_n) rfl rfl ?_
      refine V_iret C dX8_more_23 ?_
      exact p14
set_option maxRecDepth 100000 in
def P_X8_sorted (h : Nat) (wh : Int32) (σ : gS) (Qp : Option Value → gS → Prop) : Prop :=
  ((g_in wh 0 1 → (g_call yX8_costNow cX8_costNow 1 (some .int) kM h [.ref 63] σ (fun rv s3 => ∃ r5 : Int32, rv = some (.int r5) ∧ (((wh : Int32) = 0 → (g_call yX8_cost cX8_cost 1 (some .int) kM h [.ref 63] (g_up s3 63 10 (1 - (s3 63 10))) (fun rv s29 => ∃ r31 : Int32, rv = some (.int r31) ∧ (Qp (some (.int (r31 - r5))) (g_up s29 63 10 (1 - (s29 63 10))))))) ∧ (¬ (wh : Int32) = 0 → (g_call yX8_cost cX8_cost 1 (some .int) kM h [.ref 63] (g_up s3 63 9 5) (fun rv s8 => ∃ r10 : Int32, rv = some (.int r10) ∧ (∃ I11 : Nat → gS → Prop, (∃ k16 : Nat, I11 k16 (g_up s8 63 9 1)) ∧ ∀ (k13 : Nat)  (s19 : gS), I11 k13 s19 → (g_call yX8_cost cX8_cost 1 (some .int) kM h [.ref 63] s19 (fun rv s21 => ∃ r23 : Int32, rv = some (.int r23) ∧ (((r10 : Int32) < r23 → (∃ k27 : Nat, k27 < k13 ∧ I11 k27 (g_up s21 63 9 ((s21 63 9) + 1)))) ∧ (¬ (r10 : Int32) < r23 → (Qp (some (.int (s21 63 9))) (g_up s21 63 9 (s3 63 9))))))))))))))) ∧ (¬ g_in wh 0 1 → (Qp (some (.int (-100000))) σ)))
set_option maxHeartbeats 4000000 in
set_option maxRecDepth 100000 in
theorem w_X8_sorted {h : Nat} (hh : 6 ≤ h) {wh : Int32} {σ : gS} {Qp : Option Value → gS → Prop} (P : P_X8_sorted h wh σ Qp) : g_Met yX8_sorted cX8_sorted 6 (some .int) h kM [.ref 63, .int wh] σ Qp := by
  unfold P_X8_sorted at P
  refine g_Met.of (own := 8) (L := [some (.ref 63), some (.int wh), none, none, none, none]) (by decide) rfl rfl (fun ad => Nat.le_of_ble_eq_true rfl) (fun ad => rfl) (fun X G K C => ?_)
  refine V_blk C (pc' := 4) (σ' := σ) (L' := [some (.ref 63), some (.int wh), none, none, none, none]) (st' := [.long 1, .long 0, .long (Int32.toInt64 wh)]) (g_c dX8_sorted_0 (g_c dX8_sorted_1 (g_c dX8_sorted_2 (g_c dX8_sorted_3 g_n)))) rfl rfl ?_
  refine V_callSI C cs_X8_110 (c_X8_in32 σ wh 0 1 (by decide) (by decide)) (by omega) (by decide) (fun _ h => h) (As := [.long (Int32.toInt64 wh), .long 0, .long 1]) (rest := []) rfl rfl (Nat.le_of_ble_eq_true rfl) dX8_sorted_4 ?_
  refine V_if_ne_b C (tgt := 14) dX8_sorted_7 (by decide) (fun h1 => ?_) (fun h1 => ?_)
  · skip
    have p2 := P.1 h1
    refine V_blk C (pc' := 15) (σ' := σ) (L' := [some (.ref 63), some (.int wh), none, none, none, none]) (st' := [.ref 63]) (g_c dX8_sorted_14 g_n) rfl rfl ?_
    refine V_gV C cv_X8_330 p2 ⟨_, _, _, _, rfl, rfl⟩ (by rfl) (by decide) (As := []) (rest := []) rfl rfl (Nat.le_of_ble_eq_true rfl) dX8_sorted_15 (fun rv s3 hq => ?_)
    obtain ⟨r5, rfl, p4⟩ := hq
    refine V_blk C (pc' := 20) (σ' := s3) (L' := [some (.ref 63), some (.int wh), some (.int r5), none, none, none]) (st' := [.int wh]) (g_c dX8_sorted_18 (g_c dX8_sorted_19 g_n)) rfl rfl ?_
    refine V_if_ne C (tgt := 52) dX8_sorted_20 (by decide) (fun h6 => ?_) (fun h6 => ?_)
    · skip
      have p7 := p4.2 h6
      refine V_blk C (pc' := 63) (σ' := (g_up s3 63 9 5)) (L' := [some (.ref 63), some (.int wh), some (.int r5), some (.int (s3 63 9)), none, none]) (st' := [.ref 63]) (g_c dX8_sorted_52 (g_c dX8_sorted_53 (g_c dX8_sorted_56 (g_c dX8_sorted_57 (g_c dX8_sorted_58 (g_c dX8_sorted_59 (g_c dX8_sorted_62 g_n))))))) rfl rfl ?_
      refine V_gV C cv_X8_327 p7 ⟨_, _, _, _, rfl, rfl⟩ (by rfl) (by decide) (As := []) (rest := []) rfl rfl (Nat.le_of_ble_eq_true rfl) dX8_sorted_63 (fun rv s8 hq => ?_)
      obtain ⟨r10, rfl, p9⟩ := hq
      refine V_blk C (pc' := 73) (σ' := (g_up s8 63 9 1)) (L' := [some (.ref 63), some (.int wh), some (.int r5), some (.int (s3 63 9)), some (.int r10), none]) (st' := []) (g_c dX8_sorted_66 (g_c dX8_sorted_68 (g_c dX8_sorted_69 (g_c dX8_sorted_70 g_n)))) rfl rfl ?_
      refine V_less (L' := [some (.ref 63), none, none, some (.int (s3 63 9)), some (.int r10), none]) (by simp [g_subL]) ?_
      obtain ⟨I11, ⟨k16, hI18⟩, hS15⟩ := p9
      have lp17 : ∀ (k13 : Nat)  (s19 : gS), I11 k13 s19 → gV X G K 6 Qp s19 [some (.ref 63), none, none, some (.int (s3 63 9)), some (.int r10), none] [] 73 := by
        intro k13
        induction k13 using Nat.strongRecOn with
        | ind k13 ih12 =>
          intro s19 hI14
          have p20 := hS15 k13 s19 hI14
          refine V_blk C (pc' := 74) (σ' := s19) (L' := [some (.ref 63), none, none, some (.int (s3 63 9)), some (.int r10), none]) (st' := [.ref 63]) (g_c dX8_sorted_73 g_n) rfl rfl ?_
          refine V_gV C cv_X8_327 p20 ⟨_, _, _, _, rfl, rfl⟩ (by rfl) (by decide) (As := []) (rest := []) rfl rfl (Nat.le_of_ble_eq_true rfl) dX8_sorted_74 (fun rv s21 hq => ?_)
          obtain ⟨r23, rfl, p22⟩ := hq
          refine V_blk C (pc' := 79) (σ' := s21) (L' := [some (.ref 63), none, none, some (.int (s3 63 9)), some (.int r10), none]) (st' := [.int r10, .int r23]) (g_c dX8_sorted_77 g_n) rfl rfl ?_
          refine V_icmp_le2 C (tgt := 95) dX8_sorted_79 (by decide) (fun h24 => ?_) (fun h24 => ?_)
          · skip
            have p25 := p22.2 h24
            refine V_blk C (pc' := 108) (σ' := (g_up s21 63 9 (s3 63 9))) (L' := [some (.ref 63), none, none, some (.int (s3 63 9)), some (.int r10), some (.int (s21 63 9))]) (st' := [.int (s21 63 9)]) (g_c dX8_sorted_95 (g_c dX8_sorted_96 (g_c dX8_sorted_99 (g_c dX8_sorted_101 (g_c dX8_sorted_102 (g_c dX8_sorted_103 (g_c dX8_sorted_106 g_n))))))) rfl rfl ?_
            refine V_iret C dX8_sorted_108 ?_
            exact p25
          · skip
            have p26 := p22.1 h24
            refine V_blk C (pc' := 92) (σ' := (g_up s21 63 9 ((s21 63 9) + 1))) (L' := [some (.ref 63), none, none, some (.int (s3 63 9)), some (.int r10), none]) (st' := []) (g_c dX8_sorted_82 (g_c dX8_sorted_83 (g_c dX8_sorted_84 (g_c dX8_sorted_87 (g_c dX8_sorted_88 (g_c dX8_sorted_89 g_n)))))) rfl rfl ?_
            refine V_goto C (tgt := 73) dX8_sorted_92 (by decide) ?_
            obtain ⟨k27, hkk27, hIk27⟩ := p26
            exact ih12 k27 hkk27 (g_up s21 63 9 ((s21 63 9) + 1)) hIk27
      exact lp17 k16 (g_up s8 63 9 1) hI18
    · skip
      have p28 := p4.1 h6
      refine V_blk C (pc' := 34) (σ' := (g_up s3 63 10 (1 - (s3 63 10)))) (L' := [some (.ref 63), some (.int wh), some (.int r5), none, none, none]) (st' := [.ref 63]) (g_c dX8_sorted_23 (g_c dX8_sorted_24 (g_c dX8_sorted_25 (g_c dX8_sorted_26 (g_c dX8_sorted_29 (g_c dX8_sorted_30 (g_c dX8_sorted_33 g_n))))))) rfl rfl ?_
      refine V_gV C cv_X8_327 p28 ⟨_, _, _, _, rfl, rfl⟩ (by rfl) (by decide) (As := []) (rest := []) rfl rfl (Nat.le_of_ble_eq_true rfl) dX8_sorted_34 (fun rv s29 hq => ?_)
      obtain ⟨r31, rfl, p30⟩ := hq
      refine V_blk C (pc' := 51) (σ' := (g_up s29 63 10 (1 - (s29 63 10)))) (L' := [some (.ref 63), some (.int wh), some (.int r5), some (.int r31), none, none]) (st' := [.int (r31 - r5)]) (g_c dX8_sorted_37 (g_c dX8_sorted_38 (g_c dX8_sorted_39 (g_c dX8_sorted_40 (g_c dX8_sorted_41 (g_c dX8_sorted_44 (g_c dX8_sorted_45 (g_c dX8_sorted_48 (g_c dX8_sorted_49 (g_c dX8_sorted_50 g_n)))))))))) rfl rfl ?_
      refine V_iret C dX8_sorted_51 ?_
      exact p30
  · skip
    have p32 := P.2 h1
    refine V_blk C (pc' := 13) (σ' := σ) (L' := [some (.ref 63), some (.int wh), none, none, none, none]) (st' := [.int (-100000)]) (g_c dX8_sorted_10 g_n) rfl rfl ?_
    refine V_iret C dX8_sorted_13 ?_
    exact p32
set_option maxRecDepth 100000 in
def P_X8_seenBad (h : Nat) (sh : Int32) (hr : Int32) (σ : gS) (Qp : Option Value → gS → Prop) : Prop :=
  ((g_in sh 0 3 → ((g_in hr 0 23 → (∃ j8 : Nat, sh = nI j8 ∧ j8 < 4 ∧ ((((σ 86 j8) : Int32) = 0 → (Qp (some (.int (-11))) σ)) ∧ (¬ ((σ 86 j8) : Int32) = 0 → (Qp (some (.int (if ((σ 88 j8) : Int32) = (σ 63 19) then 0 else (-2)))) σ))))) ∧ (¬ g_in hr 0 23 → (Qp (some (.int (-2))) σ)))) ∧ (¬ g_in sh 0 3 → (Qp (some (.int (-2))) σ)))
set_option maxHeartbeats 4000000 in
set_option maxRecDepth 100000 in
theorem w_X8_seenBad {h : Nat} (hh : 6 ≤ h) {sh : Int32} {hr : Int32} {σ : gS} {Qp : Option Value → gS → Prop} (P : P_X8_seenBad h sh hr σ Qp) : g_Met yX8_seenBad cX8_seenBad 3 (some .int) h kM [.ref 63, .int sh, .int hr] σ Qp := by
  unfold P_X8_seenBad at P
  refine g_Met.of (own := 8) (L := [some (.ref 63), some (.int sh), some (.int hr)]) (by decide) rfl rfl (fun ad => Nat.le_of_ble_eq_true rfl) (fun ad => rfl) (fun X G K C => ?_)
  refine V_blk C (pc' := 1) (σ' := σ) (L' := [some (.ref 63), some (.int sh), some (.int hr)]) (st' := [.int sh]) (g_c dX8_seenBad_0 g_n) rfl rfl ?_
  refine V_callSI C cs_X8_354 (c_X8_isSheet σ sh) (by omega) (by decide) (fun _ h => h) (As := [.int sh]) (rest := []) rfl rfl (Nat.le_of_ble_eq_true rfl) dX8_seenBad_1 ?_
  refine V_if_eq_b C (tgt := 14) dX8_seenBad_4 (by decide) (fun h1 => ?_) (fun h1 => ?_)
  · skip
    have p2 := P.2 h1
    refine V_blk C (pc' := 16) (σ' := σ) (L' := [some (.ref 63), some (.int sh), some (.int hr)]) (st' := [.int (-2)]) (g_c dX8_seenBad_14 g_n) rfl rfl ?_
    refine V_iret C dX8_seenBad_16 ?_
    exact p2
  · skip
    have p3 := P.1 h1
    refine V_blk C (pc' := 8) (σ' := σ) (L' := [some (.ref 63), some (.int sh), some (.int hr)]) (st' := [.int hr]) (g_c dX8_seenBad_7 g_n) rfl rfl ?_
    refine V_callSI C cs_X8_123 (c_X8_isHour σ hr) (by omega) (by decide) (fun _ h => h) (As := [.int hr]) (rest := []) rfl rfl (Nat.le_of_ble_eq_true rfl) dX8_seenBad_8 ?_
    refine V_if_ne_b C (tgt := 17) dX8_seenBad_11 (by decide) (fun h4 => ?_) (fun h4 => ?_)
    · skip
      have p5 := p3.1 h4
      refine V_blk C (pc' := 22) (σ' := σ) (L' := [some (.ref 63), some (.int sh), some (.int hr)]) (st' := [.int sh, .ref 86]) (g_c dX8_seenBad_17 (g_c dX8_seenBad_18 (g_c dX8_seenBad_21 g_n))) rfl rfl ?_
      obtain ⟨j8, e9, l7, p6⟩ := p5
      refine V_zaldJ C (j := j8) (k := 86) (n := 4) (by rfl) (by rfl) e9 ⟨(by omega), (by omega)⟩ dX8_seenBad_22 ?_
      refine V_if_ne C (tgt := 29) dX8_seenBad_23 (by decide) (fun h10 => ?_) (fun h10 => ?_)
      · skip
        have p11 := p6.2 h10
        refine V_blk C (pc' := 34) (σ' := σ) (L' := [some (.ref 63), some (.int sh), some (.int hr)]) (st' := [.int sh, .ref 88]) (g_c dX8_seenBad_29 (g_c dX8_seenBad_30 (g_c dX8_seenBad_33 g_n))) rfl rfl ?_
        refine V_ialdJ C (j := j8) (k := 88) (n := 4) (by rfl) (by rfl) e9 ⟨(by omega), (by omega)⟩ dX8_seenBad_34 ?_
        refine V_blk C (pc' := 39) (σ' := σ) (L' := [some (.ref 63), some (.int sh), some (.int hr)]) (st' := [.int (σ 63 19), .int (σ 88 j8)]) (g_c dX8_seenBad_35 (g_c dX8_seenBad_36 g_n)) rfl rfl ?_
        refine V_join (P := ((σ 88 j8) : Int32) = (σ 63 19)) (a := 0) (b := (-2)) (pcJ := 48) (rest := []) (fun x_ hx_ => ?_) (fun kT kF => ?_)
        · skip
          subst hx_
          refine V_iret C dX8_seenBad_48 ?_
          exact p11
        · refine V_icmp_ne C (tgt := 46) dX8_seenBad_39 (by decide) (fun h12 => ?_) (fun h12 => ?_)
          · skip
            refine V_blk C (pc' := 48) (σ' := σ) (L' := [some (.ref 63), some (.int sh), some (.int hr)]) (st' := [.int (-2)]) (g_c dX8_seenBad_46 g_n) rfl rfl ?_
            exact kF h12
          · skip
            refine V_blk C (pc' := 43) (σ' := σ) (L' := [some (.ref 63), some (.int sh), some (.int hr)]) (st' := [.int 0]) (g_c dX8_seenBad_42 g_n) rfl rfl ?_
            refine V_goto C (tgt := 48) dX8_seenBad_43 (by decide) ?_
            exact kT h12
      · skip
        have p13 := p6.1 h10
        refine V_blk C (pc' := 28) (σ' := σ) (L' := [some (.ref 63), some (.int sh), some (.int hr)]) (st' := [.int (-11)]) (g_c dX8_seenBad_26 g_n) rfl rfl ?_
        refine V_iret C dX8_seenBad_28 ?_
        exact p13
    · skip
      have p14 := p3.2 h4
      refine V_blk C (pc' := 16) (σ' := σ) (L' := [some (.ref 63), some (.int sh), some (.int hr)]) (st' := [.int (-2)]) (g_c dX8_seenBad_14 g_n) rfl rfl ?_
      refine V_iret C dX8_seenBad_16 ?_
      exact p14
set_option maxRecDepth 100000 in
def P_X8_isSo (h : Nat) (sh : Int32) (hr : Int32) (set_ : Int32) (σ : gS) (Qp : Option Value → gS → Prop) : Prop :=
  (g_call yX8_poursOf cX8_poursOf 3 none kM h [.ref 63, .int set_] σ (fun rv s1 => rv = none ∧ (g_call yX8_goes cX8_goes 9 none kM h [.ref 63, .int (hr + 1)] s1 (fun rv s3 => rv = none ∧ (∃ I6 : Nat → Int32 → Prop, (∃ k11 : Nat, I6 k11 0) ∧ ∀ (k8 : Nat) (v5 : Int32), I6 k8 v5 → (((v5 : Int32) < (s3 63 19) → (∃ j21 : Nat, v5 = nI j21 ∧ j21 < 5 ∧ (∃ j25 : Nat, ((40 * sh) + v5) = nI j25 ∧ j25 < 160 ∧ ((((s3 76 j21) : Int32) = (s3 89 j25) → (∃ k29 : Nat, k29 < k8 ∧ I6 k29 (v5 + 1))) ∧ (¬ ((s3 76 j21) : Int32) = (s3 89 j25) → (Qp (some (.int 0)) s3)))))) ∧ (¬ (v5 : Int32) < (s3 63 19) → (Qp (some (.int 1)) s3))))))))
set_option maxHeartbeats 4000000 in
set_option maxRecDepth 100000 in
theorem w_X8_isSo {h : Nat} (hh : 6 ≤ h) {sh : Int32} {hr : Int32} {set_ : Int32} {σ : gS} {Qp : Option Value → gS → Prop} (P : P_X8_isSo h sh hr set_ σ Qp) : g_Met yX8_isSo cX8_isSo 5 (some .boolean) h kM [.ref 63, .int sh, .int hr, .int set_] σ Qp := by
  unfold P_X8_isSo at P
  refine g_Met.of (own := 8) (L := [some (.ref 63), some (.int sh), some (.int hr), some (.int set_), none]) (by decide) rfl rfl (fun ad => Nat.le_of_ble_eq_true rfl) (fun ad => rfl) (fun X G K C => ?_)
  refine V_blk C (pc' := 2) (σ' := σ) (L' := [some (.ref 63), some (.int sh), some (.int hr), some (.int set_), none]) (st' := [.int set_, .ref 63]) (g_c dX8_isSo_0 (g_c dX8_isSo_1 g_n)) rfl rfl ?_
  refine V_gV C cv_X8_324 P ⟨_, _, _, _, rfl, rfl⟩ (by rfl) (by decide) (As := [.int set_]) (rest := []) rfl rfl (Nat.le_of_ble_eq_true rfl) dX8_isSo_2 (fun rv s1 hq => ?_)
  obtain ⟨rfl, p2⟩ := hq
  refine V_blk C (pc' := 9) (σ' := s1) (L' := [some (.ref 63), some (.int sh), some (.int hr), some (.int set_), none]) (st' := [.int (hr + 1), .ref 63]) (g_c dX8_isSo_5 (g_c dX8_isSo_6 (g_c dX8_isSo_7 (g_c dX8_isSo_8 g_n)))) rfl rfl ?_
  refine V_gV C cv_X8_317 p2 ⟨_, _, _, _, rfl, rfl⟩ (by rfl) (by decide) (As := [.int (hr + 1)]) (rest := []) rfl rfl (Nat.le_of_ble_eq_true rfl) dX8_isSo_9 (fun rv s3 hq => ?_)
  obtain ⟨rfl, p4⟩ := hq
  refine V_blk C (pc' := 15) (σ' := s3) (L' := [some (.ref 63), some (.int sh), some (.int hr), some (.int set_), some (.int 0)]) (st' := []) (g_c dX8_isSo_12 (g_c dX8_isSo_13 g_n)) rfl rfl ?_
  refine V_less (L' := [some (.ref 63), some (.int sh), none, none, some (.int 0)]) (by simp [g_subL]) ?_
  obtain ⟨I6, ⟨k11, hI13⟩, hS10⟩ := p4
  have lp12 : ∀ (k8 : Nat) (v5 : Int32), I6 k8 v5 → gV X G K 5 Qp s3 [some (.ref 63), some (.int sh), none, none, some (.int v5)] [] 15 := by
    intro k8
    induction k8 using Nat.strongRecOn with
    | ind k8 ih7 =>
      intro v5 hI9
      have p15 := hS10 k8 v5 hI9
      refine V_blk C (pc' := 21) (σ' := s3) (L' := [some (.ref 63), some (.int sh), none, none, some (.int v5)]) (st' := [.int (s3 63 19), .int v5]) (g_c dX8_isSo_15 (g_c dX8_isSo_17 (g_c dX8_isSo_18 g_n))) rfl rfl ?_
      refine V_icmp_ge2 C (tgt := 54) dX8_isSo_21 (by decide) (fun h16 => ?_) (fun h16 => ?_)
      · skip
        have p17 := p15.2 h16
        refine V_blk C (pc' := 55) (σ' := s3) (L' := [some (.ref 63), some (.int sh), none, none, some (.int v5)]) (st' := [.int 1]) (g_c dX8_isSo_54 g_n) rfl rfl ?_
        refine V_zret C (by decide) dX8_isSo_55 ?_
        exact p17
      · skip
        have p18 := p15.1 h16
        refine V_blk C (pc' := 30) (σ' := s3) (L' := [some (.ref 63), some (.int sh), none, none, some (.int v5)]) (st' := [.int v5, .ref 76]) (g_c dX8_isSo_24 (g_c dX8_isSo_25 (g_c dX8_isSo_28 g_n))) rfl rfl ?_
        obtain ⟨j21, e22, l20, p19⟩ := p18
        refine V_ialdJ C (j := j21) (k := 76) (n := 5) (by rfl) (by rfl) e22 ⟨(by omega), (by omega)⟩ dX8_isSo_30 ?_
        refine V_blk C (pc' := 42) (σ' := s3) (L' := [some (.ref 63), some (.int sh), none, none, some (.int v5)]) (st' := [.int ((40 * sh) + v5), .ref 89, .int (s3 76 j21)]) (g_c dX8_isSo_31 (g_c dX8_isSo_32 (g_c dX8_isSo_35 (g_c dX8_isSo_37 (g_c dX8_isSo_38 (g_c dX8_isSo_39 (g_c dX8_isSo_41 g_n))))))) rfl rfl ?_
        obtain ⟨j25, e26, l24, p23⟩ := p19
        refine V_ialdJ C (j := j25) (k := 89) (n := 160) (by rfl) (by rfl) e26 ⟨(by omega), (by omega)⟩ dX8_isSo_42 ?_
        refine V_icmp_eq C (tgt := 48) dX8_isSo_43 (by decide) (fun h27 => ?_) (fun h27 => ?_)
        · skip
          have p28 := p23.1 h27
          refine V_blk C (pc' := 51) (σ' := s3) (L' := [some (.ref 63), some (.int sh), none, none, some (.int (v5 + 1))]) (st' := []) (g_c dX8_isSo_48 g_n) rfl rfl ?_
          refine V_goto C (tgt := 15) dX8_isSo_51 (by decide) ?_
          obtain ⟨k29, hkk29, hIk29⟩ := p28
          exact ih7 k29 hkk29 (v5 + 1) hIk29
        · skip
          have p30 := p23.2 h27
          refine V_blk C (pc' := 47) (σ' := s3) (L' := [some (.ref 63), some (.int sh), none, none, some (.int v5)]) (st' := [.int 0]) (g_c dX8_isSo_46 g_n) rfl rfl ?_
          refine V_zret C (by decide) dX8_isSo_47 ?_
          exact p30
  exact lp12 k11 0 hI13
set_option maxRecDepth 100000 in
def P_X8_seen (h : Nat) (sh : Int32) (hr : Int32) (wh : Int32) (σ : gS) (Qp : Option Value → gS → Prop) : Prop :=
  ((g_in sh 0 3 → ((g_in hr 0 23 → ((g_in wh 0 1 → (g_call yX8_seenBad cX8_seenBad 3 (some .int) kM h [.ref 63, .int sh, .int hr] σ (fun rv s9 => ∃ r11 : Int32, rv = some (.int r11) ∧ (((r11 : Int32) = 0 → (∃ I17 : Nat → Int32 → Int32 → Int32 → gS → Prop, (∃ k22 : Nat, I17 k22 0 (-1) 0 s9) ∧ ∀ (k19 : Nat) (v14 : Int32) (v15 : Int32) (v16 : Int32) (s25 : gS), I17 k19 v14 v15 v16 s25 → (g_call yX8_allDrips cX8_allDrips 1 (some .int) kM h [.ref 63] s25 (fun rv s27 => ∃ r29 : Int32, rv = some (.int r29) ∧ (((r29 : Int32) < v16 → (Qp (some (.int (if (wh : Int32) = 0 then v14 else v15))) s27)) ∧ (¬ (r29 : Int32) < v16 → (g_call yX8_isSo cX8_isSo 5 (some .boolean) kM h [.ref 63, .int sh, .int hr, .int v16] s27 (fun rv s34 => ∃ r36 : Int32, rv = some (.int r36) ∧ (((r36 : Int32) = 0 → (∃ k39 : Nat, k39 < k19 ∧ I17 k39 v14 v15 (v16 + 1) s34)) ∧ (¬ (r36 : Int32) = 0 → (∃ k42 : Nat, k42 < k19 ∧ I17 k42 (v14 + 1) (if (v15 : Int32) = (-1) then v16 else v15) (v16 + 1) s34))))))))))) ∧ (¬ (r11 : Int32) = 0 → (Qp (some (.int r11)) s9)))))) ∧ (¬ g_in wh 0 1 → (Qp (some (.int (-2))) σ)))) ∧ (¬ g_in hr 0 23 → (Qp (some (.int (-2))) σ)))) ∧ (¬ g_in sh 0 3 → (Qp (some (.int (-2))) σ)))
set_option maxHeartbeats 4000000 in
set_option maxRecDepth 100000 in
theorem w_X8_seen {h : Nat} (hh : 6 ≤ h) {sh : Int32} {hr : Int32} {wh : Int32} {σ : gS} {Qp : Option Value → gS → Prop} (P : P_X8_seen h sh hr wh σ Qp) : g_Met yX8_seen cX8_seen 8 (some .int) h kM [.ref 63, .int sh, .int hr, .int wh] σ Qp := by
  unfold P_X8_seen at P
  refine g_Met.of (own := 8) (L := [some (.ref 63), some (.int sh), some (.int hr), some (.int wh), none, none, none, none]) (by decide) rfl rfl (fun ad => Nat.le_of_ble_eq_true rfl) (fun ad => rfl) (fun X G K C => ?_)
  refine V_blk C (pc' := 1) (σ' := σ) (L' := [some (.ref 63), some (.int sh), some (.int hr), some (.int wh), none, none, none, none]) (st' := [.int sh]) (g_c dX8_seen_0 g_n) rfl rfl ?_
  refine V_callSI C cs_X8_354 (c_X8_isSheet σ sh) (by omega) (by decide) (fun _ h => h) (As := [.int sh]) (rest := []) rfl rfl (Nat.le_of_ble_eq_true rfl) dX8_seen_1 ?_
  refine V_if_eq_b C (tgt := 24) dX8_seen_4 (by decide) (fun h1 => ?_) (fun h1 => ?_)
  · skip
    have p2 := P.2 h1
    refine V_blk C (pc' := 26) (σ' := σ) (L' := [some (.ref 63), some (.int sh), some (.int hr), some (.int wh), none, none, none, none]) (st' := [.int (-2)]) (g_c dX8_seen_24 g_n) rfl rfl ?_
    refine V_iret C dX8_seen_26 ?_
    exact p2
  · skip
    have p3 := P.1 h1
    refine V_blk C (pc' := 8) (σ' := σ) (L' := [some (.ref 63), some (.int sh), some (.int hr), some (.int wh), none, none, none, none]) (st' := [.int hr]) (g_c dX8_seen_7 g_n) rfl rfl ?_
    refine V_callSI C cs_X8_123 (c_X8_isHour σ hr) (by omega) (by decide) (fun _ h => h) (As := [.int hr]) (rest := []) rfl rfl (Nat.le_of_ble_eq_true rfl) dX8_seen_8 ?_
    refine V_if_eq_b C (tgt := 24) dX8_seen_11 (by decide) (fun h4 => ?_) (fun h4 => ?_)
    · skip
      have p5 := p3.2 h4
      refine V_blk C (pc' := 26) (σ' := σ) (L' := [some (.ref 63), some (.int sh), some (.int hr), some (.int wh), none, none, none, none]) (st' := [.int (-2)]) (g_c dX8_seen_24 g_n) rfl rfl ?_
      refine V_iret C dX8_seen_26 ?_
      exact p5
    · skip
      have p6 := p3.1 h4
      refine V_blk C (pc' := 18) (σ' := σ) (L' := [some (.ref 63), some (.int sh), some (.int hr), some (.int wh), none, none, none, none]) (st' := [.long 1, .long 0, .long (Int32.toInt64 wh)]) (g_c dX8_seen_14 (g_c dX8_seen_15 (g_c dX8_seen_16 (g_c dX8_seen_17 g_n)))) rfl rfl ?_
      refine V_callSI C cs_X8_110 (c_X8_in32 σ wh 0 1 (by decide) (by decide)) (by omega) (by decide) (fun _ h => h) (As := [.long (Int32.toInt64 wh), .long 0, .long 1]) (rest := []) rfl rfl (Nat.le_of_ble_eq_true rfl) dX8_seen_18 ?_
      refine V_if_ne_b C (tgt := 27) dX8_seen_21 (by decide) (fun h7 => ?_) (fun h7 => ?_)
      · skip
        have p8 := p6.1 h7
        refine V_blk C (pc' := 30) (σ' := σ) (L' := [some (.ref 63), some (.int sh), some (.int hr), some (.int wh), none, none, none, none]) (st' := [.int hr, .int sh, .ref 63]) (g_c dX8_seen_27 (g_c dX8_seen_28 (g_c dX8_seen_29 g_n))) rfl rfl ?_
        refine V_gV C cv_X8_357 p8 ⟨_, _, _, _, rfl, rfl⟩ (by rfl) (by decide) (As := [.int sh, .int hr]) (rest := []) rfl rfl (Nat.le_of_ble_eq_true rfl) dX8_seen_30 (fun rv s9 hq => ?_)
        obtain ⟨r11, rfl, p10⟩ := hq
        refine V_blk C (pc' := 37) (σ' := s9) (L' := [some (.ref 63), some (.int sh), some (.int hr), some (.int wh), some (.int r11), none, none, none]) (st' := [.int r11]) (g_c dX8_seen_33 (g_c dX8_seen_35 g_n)) rfl rfl ?_
        refine V_if_eq C (tgt := 43) dX8_seen_37 (by decide) (fun h12 => ?_) (fun h12 => ?_)
        · skip
          have p13 := p10.1 h12
          refine V_blk C (pc' := 52) (σ' := s9) (L' := [some (.ref 63), some (.int sh), some (.int hr), some (.int wh), some (.int r11), some (.int 0), some (.int (-1)), some (.int 0)]) (st' := []) (g_c dX8_seen_43 (g_c dX8_seen_44 (g_c dX8_seen_46 (g_c dX8_seen_47 (g_c dX8_seen_49 (g_c dX8_seen_50 g_n)))))) rfl rfl ?_
          refine V_less (L' := [some (.ref 63), some (.int sh), some (.int hr), some (.int wh), none, some (.int 0), some (.int (-1)), some (.int 0)]) (by simp [g_subL]) ?_
          obtain ⟨I17, ⟨k22, hI24⟩, hS21⟩ := p13
          have lp23 : ∀ (k19 : Nat) (v14 : Int32) (v15 : Int32) (v16 : Int32) (s25 : gS), I17 k19 v14 v15 v16 s25 → gV X G K 8 Qp s25 [some (.ref 63), some (.int sh), some (.int hr), some (.int wh), none, some (.int v14), some (.int v15), some (.int v16)] [] 52 := by
            intro k19
            induction k19 using Nat.strongRecOn with
            | ind k19 ih18 =>
              intro v14 v15 v16 s25 hI20
              have p26 := hS21 k19 v14 v15 v16 s25 hI20
              refine V_blk C (pc' := 55) (σ' := s25) (L' := [some (.ref 63), some (.int sh), some (.int hr), some (.int wh), none, some (.int v14), some (.int v15), some (.int v16)]) (st' := [.ref 63, .int v16]) (g_c dX8_seen_52 (g_c dX8_seen_54 g_n)) rfl rfl ?_
              refine V_gV C cv_X8_321 p26 ⟨_, _, _, _, rfl, rfl⟩ (by rfl) (by decide) (As := []) (rest := [.int v16]) rfl rfl (Nat.le_of_ble_eq_true rfl) dX8_seen_55 (fun rv s27 hq => ?_)
              obtain ⟨r29, rfl, p28⟩ := hq
              refine V_icmp_gt C (tgt := 96) dX8_seen_58 (by decide) (fun h30 => ?_) (fun h30 => ?_)
              · skip
                have p31 := p28.1 h30
                refine V_blk C (pc' := 97) (σ' := s27) (L' := [some (.ref 63), some (.int sh), some (.int hr), some (.int wh), none, some (.int v14), some (.int v15), some (.int v16)]) (st' := [.int wh]) (g_c dX8_seen_96 g_n) rfl rfl ?_
                refine V_join (P := (wh : Int32) = 0) (a := v14) (b := v15) (pcJ := 107) (rest := []) (fun x_ hx_ => ?_) (fun kT kF => ?_)
                · skip
                  subst hx_
                  refine V_iret C dX8_seen_107 ?_
                  exact p31
                · refine V_if_ne C (tgt := 105) dX8_seen_97 (by decide) (fun h32 => ?_) (fun h32 => ?_)
                  · skip
                    refine V_blk C (pc' := 107) (σ' := s27) (L' := [some (.ref 63), some (.int sh), some (.int hr), some (.int wh), none, some (.int v14), some (.int v15), some (.int v16)]) (st' := [.int v15]) (g_c dX8_seen_105 g_n) rfl rfl ?_
                    exact kF h32
                  · skip
                    refine V_blk C (pc' := 102) (σ' := s27) (L' := [some (.ref 63), some (.int sh), some (.int hr), some (.int wh), none, some (.int v14), some (.int v15), some (.int v16)]) (st' := [.int v14]) (g_c dX8_seen_100 g_n) rfl rfl ?_
                    refine V_goto C (tgt := 107) dX8_seen_102 (by decide) ?_
                    exact kT h32
              · skip
                have p33 := p28.2 h30
                refine V_blk C (pc' := 66) (σ' := s27) (L' := [some (.ref 63), some (.int sh), some (.int hr), some (.int wh), none, some (.int v14), some (.int v15), some (.int v16)]) (st' := [.int v16, .int hr, .int sh, .ref 63]) (g_c dX8_seen_61 (g_c dX8_seen_62 (g_c dX8_seen_63 (g_c dX8_seen_64 g_n)))) rfl rfl ?_
                refine V_gV C cv_X8_360 p33 ⟨_, _, _, _, rfl, rfl⟩ (by rfl) (by decide) (As := [.int sh, .int hr, .int v16]) (rest := []) rfl rfl (Nat.le_of_ble_eq_true rfl) dX8_seen_66 (fun rv s34 hq => ?_)
                obtain ⟨r36, rfl, p35⟩ := hq
                refine V_if_eq C (tgt := 90) dX8_seen_69 (by decide) (fun h37 => ?_) (fun h37 => ?_)
                · skip
                  have p38 := p35.1 h37
                  refine V_blk C (pc' := 93) (σ' := s34) (L' := [some (.ref 63), some (.int sh), some (.int hr), some (.int wh), none, some (.int v14), some (.int v15), some (.int (v16 + 1))]) (st' := []) (g_c dX8_seen_90 g_n) rfl rfl ?_
                  refine V_goto C (tgt := 52) dX8_seen_93 (by decide) ?_
                  obtain ⟨k39, hkk39, hIk39⟩ := p38
                  exact ih18 k39 hkk39 v14 v15 (v16 + 1) s34 hIk39
                · skip
                  have p40 := p35.2 h37
                  refine V_blk C (pc' := 78) (σ' := s34) (L' := [some (.ref 63), some (.int sh), some (.int hr), some (.int wh), none, some (.int (v14 + 1)), some (.int v15), some (.int v16)]) (st' := [.int (-1), .int v15]) (g_c dX8_seen_72 (g_c dX8_seen_75 (g_c dX8_seen_77 g_n))) rfl rfl ?_
                  refine V_join (P := (v15 : Int32) = (-1)) (a := v16) (b := v15) (pcJ := 88) (rest := []) (fun x_ hx_ => ?_) (fun kT kF => ?_)
                  · skip
                    subst hx_
                    refine V_blk C (pc' := 93) (σ' := s34) (L' := [some (.ref 63), some (.int sh), some (.int hr), some (.int wh), none, some (.int (v14 + 1)), some (.int (if (v15 : Int32) = (-1) then v16 else v15)), some (.int (v16 + 1))]) (st' := []) (g_c dX8_seen_88 (g_c dX8_seen_90 g_n)) rfl rfl ?_
                    refine V_goto C (tgt := 52) dX8_seen_93 (by decide) ?_
                    obtain ⟨k42, hkk42, hIk42⟩ := p40
                    exact ih18 k42 hkk42 (v14 + 1) (if (v15 : Int32) = (-1) then v16 else v15) (v16 + 1) s34 hIk42
                  · refine V_icmp_ne C (tgt := 86) dX8_seen_78 (by decide) (fun h41 => ?_) (fun h41 => ?_)
                    · skip
                      refine V_blk C (pc' := 88) (σ' := s34) (L' := [some (.ref 63), some (.int sh), some (.int hr), some (.int wh), none, some (.int (v14 + 1)), some (.int v15), some (.int v16)]) (st' := [.int v15]) (g_c dX8_seen_86 g_n) rfl rfl ?_
                      exact kF h41
                    · skip
                      refine V_blk C (pc' := 83) (σ' := s34) (L' := [some (.ref 63), some (.int sh), some (.int hr), some (.int wh), none, some (.int (v14 + 1)), some (.int v15), some (.int v16)]) (st' := [.int v16]) (g_c dX8_seen_81 g_n) rfl rfl ?_
                      refine V_goto C (tgt := 88) dX8_seen_83 (by decide) ?_
                      exact kT h41
          exact lp23 k22 0 (-1) 0 s9 hI24
        · skip
          have p43 := p10.2 h12
          refine V_blk C (pc' := 42) (σ' := s9) (L' := [some (.ref 63), some (.int sh), some (.int hr), some (.int wh), some (.int r11), none, none, none]) (st' := [.int r11]) (g_c dX8_seen_40 g_n) rfl rfl ?_
          refine V_iret C dX8_seen_42 ?_
          exact p43
      · skip
        have p44 := p6.2 h7
        refine V_blk C (pc' := 26) (σ' := σ) (L' := [some (.ref 63), some (.int sh), some (.int hr), some (.int wh), none, none, none, none]) (st' := [.int (-2)]) (g_c dX8_seen_24 g_n) rfl rfl ?_
        refine V_iret C dX8_seen_26 ?_
        exact p44
set_option maxRecDepth 100000 in
def P_X8_strange (h : Nat) (sh : Int32) (hr : Int32) (σ : gS) (Qp : Option Value → gS → Prop) : Prop :=
  (g_call yX8_seenBad cX8_seenBad 3 (some .int) kM h [.ref 63, .int sh, .int hr] σ (fun rv s1 => ∃ r3 : Int32, rv = some (.int r3) ∧ (((r3 : Int32) = 0 → (∃ I7 : Nat → Int32 → gS → Prop, (∃ k12 : Nat, I7 k12 0 s1) ∧ ∀ (k9 : Nat) (v6 : Int32) (s15 : gS), I7 k9 v6 s15 → (((v6 : Int32) < (s15 63 15) → (g_call yX8_allDrips cX8_allDrips 1 (some .int) kM h [.ref 63] s15 (fun rv s20 => ∃ r22 : Int32, rv = some (.int r22) ∧ (g_call yX8_isSo cX8_isSo 5 (some .boolean) kM h [.ref 63, .int sh, .int hr, .int (r22 &&& (((1 : Int32) <<< (v6 &&& 31)) ^^^ (-1)))] s20 (fun rv s23 => ∃ r25 : Int32, rv = some (.int r25) ∧ (((r25 : Int32) = 0 → (∃ k28 : Nat, k28 < k9 ∧ I7 k28 (v6 + 1) s23)) ∧ (¬ (r25 : Int32) = 0 → (Qp (some (.int v6)) s23)))))))) ∧ (¬ (v6 : Int32) < (s15 63 15) → (Qp (some (.int (-1))) s15))))) ∧ (¬ (r3 : Int32) = 0 → (Qp (some (.int r3)) s1)))))
set_option maxHeartbeats 4000000 in
set_option maxRecDepth 100000 in
theorem w_X8_strange {h : Nat} (hh : 6 ≤ h) {sh : Int32} {hr : Int32} {σ : gS} {Qp : Option Value → gS → Prop} (P : P_X8_strange h sh hr σ Qp) : g_Met yX8_strange cX8_strange 5 (some .int) h kM [.ref 63, .int sh, .int hr] σ Qp := by
  unfold P_X8_strange at P
  refine g_Met.of (own := 8) (L := [some (.ref 63), some (.int sh), some (.int hr), none, none]) (by decide) rfl rfl (fun ad => Nat.le_of_ble_eq_true rfl) (fun ad => rfl) (fun X G K C => ?_)
  refine V_blk C (pc' := 3) (σ' := σ) (L' := [some (.ref 63), some (.int sh), some (.int hr), none, none]) (st' := [.int hr, .int sh, .ref 63]) (g_c dX8_strange_0 (g_c dX8_strange_1 (g_c dX8_strange_2 g_n))) rfl rfl ?_
  refine V_gV C cv_X8_357 P ⟨_, _, _, _, rfl, rfl⟩ (by rfl) (by decide) (As := [.int sh, .int hr]) (rest := []) rfl rfl (Nat.le_of_ble_eq_true rfl) dX8_strange_3 (fun rv s1 hq => ?_)
  obtain ⟨r3, rfl, p2⟩ := hq
  refine V_blk C (pc' := 8) (σ' := s1) (L' := [some (.ref 63), some (.int sh), some (.int hr), some (.int r3), none]) (st' := [.int r3]) (g_c dX8_strange_6 (g_c dX8_strange_7 g_n)) rfl rfl ?_
  refine V_if_eq C (tgt := 13) dX8_strange_8 (by decide) (fun h4 => ?_) (fun h4 => ?_)
  · skip
    have p5 := p2.1 h4
    refine V_blk C (pc' := 16) (σ' := s1) (L' := [some (.ref 63), some (.int sh), some (.int hr), some (.int r3), some (.int 0)]) (st' := []) (g_c dX8_strange_13 (g_c dX8_strange_14 g_n)) rfl rfl ?_
    refine V_less (L' := [some (.ref 63), some (.int sh), some (.int hr), none, some (.int 0)]) (by simp [g_subL]) ?_
    obtain ⟨I7, ⟨k12, hI14⟩, hS11⟩ := p5
    have lp13 : ∀ (k9 : Nat) (v6 : Int32) (s15 : gS), I7 k9 v6 s15 → gV X G K 5 Qp s15 [some (.ref 63), some (.int sh), some (.int hr), none, some (.int v6)] [] 16 := by
      intro k9
      induction k9 using Nat.strongRecOn with
      | ind k9 ih8 =>
        intro v6 s15 hI10
        have p16 := hS11 k9 v6 s15 hI10
        refine V_blk C (pc' := 22) (σ' := s15) (L' := [some (.ref 63), some (.int sh), some (.int hr), none, some (.int v6)]) (st' := [.int (s15 63 15), .int v6]) (g_c dX8_strange_16 (g_c dX8_strange_18 (g_c dX8_strange_19 g_n))) rfl rfl ?_
        refine V_icmp_ge2 C (tgt := 54) dX8_strange_22 (by decide) (fun h17 => ?_) (fun h17 => ?_)
        · skip
          have p18 := p16.2 h17
          refine V_blk C (pc' := 55) (σ' := s15) (L' := [some (.ref 63), some (.int sh), some (.int hr), none, some (.int v6)]) (st' := [.int (-1)]) (g_c dX8_strange_54 g_n) rfl rfl ?_
          refine V_iret C dX8_strange_55 ?_
          exact p18
        · skip
          have p19 := p16.1 h17
          refine V_blk C (pc' := 29) (σ' := s15) (L' := [some (.ref 63), some (.int sh), some (.int hr), none, some (.int v6)]) (st' := [.ref 63, .int hr, .int sh, .ref 63]) (g_c dX8_strange_25 (g_c dX8_strange_26 (g_c dX8_strange_27 (g_c dX8_strange_28 g_n)))) rfl rfl ?_
          refine V_gV C cv_X8_321 p19 ⟨_, _, _, _, rfl, rfl⟩ (by rfl) (by decide) (As := []) (rest := [.int hr, .int sh, .ref 63]) rfl rfl (Nat.le_of_ble_eq_true rfl) dX8_strange_29 (fun rv s20 hq => ?_)
          obtain ⟨r22, rfl, p21⟩ := hq
          refine V_blk C (pc' := 39) (σ' := s20) (L' := [some (.ref 63), some (.int sh), some (.int hr), none, some (.int v6)]) (st' := [.int (r22 &&& (((1 : Int32) <<< (v6 &&& 31)) ^^^ (-1))), .int hr, .int sh, .ref 63]) (g_c dX8_strange_32 (g_c dX8_strange_33 (g_c dX8_strange_35 (g_c dX8_strange_36 (g_c dX8_strange_37 (g_c dX8_strange_38 g_n)))))) rfl rfl ?_
          refine V_gV C cv_X8_360 p21 ⟨_, _, _, _, rfl, rfl⟩ (by rfl) (by decide) (As := [.int sh, .int hr, .int (r22 &&& (((1 : Int32) <<< (v6 &&& 31)) ^^^ (-1)))]) (rest := []) rfl rfl (Nat.le_of_ble_eq_true rfl) dX8_strange_39 (fun rv s23 hq => ?_)
          obtain ⟨r25, rfl, p24⟩ := hq
          refine V_if_eq C (tgt := 48) dX8_strange_42 (by decide) (fun h26 => ?_) (fun h26 => ?_)
          · skip
            have p27 := p24.1 h26
            refine V_blk C (pc' := 51) (σ' := s23) (L' := [some (.ref 63), some (.int sh), some (.int hr), none, some (.int (v6 + 1))]) (st' := []) (g_c dX8_strange_48 g_n) rfl rfl ?_
            refine V_goto C (tgt := 16) dX8_strange_51 (by decide) ?_
            obtain ⟨k28, hkk28, hIk28⟩ := p27
            exact ih8 k28 hkk28 (v6 + 1) s23 hIk28
          · skip
            have p29 := p24.2 h26
            refine V_blk C (pc' := 47) (σ' := s23) (L' := [some (.ref 63), some (.int sh), some (.int hr), none, some (.int v6)]) (st' := [.int v6]) (g_c dX8_strange_45 g_n) rfl rfl ?_
            refine V_iret C dX8_strange_47 ?_
            exact p29
    exact lp13 k12 0 s1 hI14
  · skip
    have p30 := p2.2 h4
    refine V_blk C (pc' := 12) (σ' := s1) (L' := [some (.ref 63), some (.int sh), some (.int hr), some (.int r3), none]) (st' := [.int r3]) (g_c dX8_strange_11 g_n) rfl rfl ?_
    refine V_iret C dX8_strange_12 ?_
    exact p30
set_option maxRecDepth 100000 in
def P_X8_draws (h : Nat) (seed : Int32) (σ : gS) (Qp : Option Value → gS → Prop) : Prop :=
  (∃ I2 : Nat → Int32 → gS → Prop, (∃ k7 : Nat, I2 k7 0 σ) ∧ ∀ (k4 : Nat) (v1 : Int32) (s10 : gS), I2 k4 v1 s10 → (((v1 : Int32) < 24 → (∃ j59 : Nat, v1 = nI j59 ∧ j59 < 24 ∧ (∃ k61 : Nat, k61 < k4 ∧ I2 k61 (v1 + 1) (g_up s10 82 j59 (s10 67 j59))))) ∧ (¬ (v1 : Int32) < 24 → (∃ I16 : Nat → Int32 → Int32 → gS → Prop, (∃ k21 : Nat, I16 k21 seed 0 s10) ∧ ∀ (k18 : Nat) (v14 : Int32) (v15 : Int32) (s24 : gS), I16 k18 v14 v15 s24 → (((v15 : Int32) < 24 → (∃ j53 : Nat, v15 = nI j53 ∧ j53 < 24 ∧ (∃ k55 : Nat, k55 < k18 ∧ I16 k55 ((v14 * 1103515245) + 12345) (v15 + 1) (g_up s24 67 j53 ((Int32.toUInt32 ((v14 * 1103515245) + 12345) >>> (Int32.toUInt32 9 &&& Int32.toUInt32 31)).toInt32 - (Int32.toUInt32 ((v14 * 1103515245) + 12345) >>> (Int32.toUInt32 9 &&& Int32.toUInt32 31)).toInt32 / 10 * 10))))) ∧ (¬ (v15 : Int32) < 24 → (g_call yX8_costNow cX8_costNow 1 (some .int) kM h [.ref 63] s24 (fun rv s28 => ∃ r30 : Int32, rv = some (.int r30) ∧ (∃ I32 : Nat → Int32 → gS → Prop, (∃ k37 : Nat, I32 k37 0 s28) ∧ ∀ (k34 : Nat) (v31 : Int32) (s40 : gS), I32 k34 v31 s40 → (((v31 : Int32) < 24 → (∃ j47 : Nat, v31 = nI j47 ∧ j47 < 24 ∧ (∃ k49 : Nat, k49 < k34 ∧ I32 k49 (v31 + 1) (g_up s40 67 j47 (s40 82 j47))))) ∧ (¬ (v31 : Int32) < 24 → (Qp (some (.int r30)) s40))))))))))))
set_option maxHeartbeats 4000000 in
set_option maxRecDepth 100000 in
theorem w_X8_draws {h : Nat} (hh : 6 ≤ h) {seed : Int32} {σ : gS} {Qp : Option Value → gS → Prop} (P : P_X8_draws h seed σ Qp) : g_Met yX8_draws cX8_draws 5 (some .int) h kM [.ref 63, .int seed] σ Qp := by
  unfold P_X8_draws at P
  refine g_Met.of (own := 8) (L := [some (.ref 63), some (.int seed), none, none, none]) (by decide) rfl rfl (fun ad => Nat.le_of_ble_eq_true rfl) (fun ad => rfl) (fun X G K C => ?_)
  refine V_blk C (pc' := 2) (σ' := σ) (L' := [some (.ref 63), some (.int seed), some (.int 0), none, none]) (st' := []) (g_c dX8_draws_0 (g_c dX8_draws_1 g_n)) rfl rfl ?_
  obtain ⟨I2, ⟨k7, hI9⟩, hS6⟩ := P
  have lp8 : ∀ (k4 : Nat) (v1 : Int32) (s10 : gS), I2 k4 v1 s10 → gV X G K 5 Qp s10 [some (.ref 63), some (.int seed), some (.int v1), none, none] [] 2 := by
    intro k4
    induction k4 using Nat.strongRecOn with
    | ind k4 ih3 =>
      intro v1 s10 hI5
      have p11 := hS6 k4 v1 s10 hI5
      refine V_blk C (pc' := 5) (σ' := s10) (L' := [some (.ref 63), some (.int seed), some (.int v1), none, none]) (st' := [.int 24, .int v1]) (g_c dX8_draws_2 (g_c dX8_draws_3 g_n)) rfl rfl ?_
      refine V_icmp_ge2 C (tgt := 26) dX8_draws_5 (by decide) (fun h12 => ?_) (fun h12 => ?_)
      · skip
        have p13 := p11.2 h12
        refine V_blk C (pc' := 30) (σ' := s10) (L' := [some (.ref 63), some (.int seed), some (.int seed), some (.int 0), none]) (st' := []) (g_c dX8_draws_26 (g_c dX8_draws_27 (g_c dX8_draws_28 (g_c dX8_draws_29 g_n)))) rfl rfl ?_
        refine V_less (L' := [some (.ref 63), none, some (.int seed), some (.int 0), none]) (by simp [g_subL]) ?_
        obtain ⟨I16, ⟨k21, hI23⟩, hS20⟩ := p13
        have lp22 : ∀ (k18 : Nat) (v14 : Int32) (v15 : Int32) (s24 : gS), I16 k18 v14 v15 s24 → gV X G K 5 Qp s24 [some (.ref 63), none, some (.int v14), some (.int v15), none] [] 30 := by
          intro k18
          induction k18 using Nat.strongRecOn with
          | ind k18 ih17 =>
            intro v14 v15 s24 hI19
            have p25 := hS20 k18 v14 v15 s24 hI19
            refine V_blk C (pc' := 33) (σ' := s24) (L' := [some (.ref 63), none, some (.int v14), some (.int v15), none]) (st' := [.int 24, .int v15]) (g_c dX8_draws_30 (g_c dX8_draws_31 g_n)) rfl rfl ?_
            refine V_icmp_ge2 C (tgt := 65) dX8_draws_33 (by decide) (fun h26 => ?_) (fun h26 => ?_)
            · skip
              have p27 := p25.2 h26
              refine V_blk C (pc' := 66) (σ' := s24) (L' := [some (.ref 63), none, some (.int v14), some (.int v15), none]) (st' := [.ref 63]) (g_c dX8_draws_65 g_n) rfl rfl ?_
              refine V_gV C cv_X8_330 p27 ⟨_, _, _, _, rfl, rfl⟩ (by rfl) (by decide) (As := []) (rest := []) rfl rfl (Nat.le_of_ble_eq_true rfl) dX8_draws_66 (fun rv s28 hq => ?_)
              obtain ⟨r30, rfl, p29⟩ := hq
              refine V_blk C (pc' := 73) (σ' := s28) (L' := [some (.ref 63), none, some (.int v14), some (.int r30), some (.int 0)]) (st' := []) (g_c dX8_draws_69 (g_c dX8_draws_70 (g_c dX8_draws_71 g_n))) rfl rfl ?_
              refine V_less (L' := [some (.ref 63), none, none, some (.int r30), some (.int 0)]) (by simp [g_subL]) ?_
              obtain ⟨I32, ⟨k37, hI39⟩, hS36⟩ := p29
              have lp38 : ∀ (k34 : Nat) (v31 : Int32) (s40 : gS), I32 k34 v31 s40 → gV X G K 5 Qp s40 [some (.ref 63), none, none, some (.int r30), some (.int v31)] [] 73 := by
                intro k34
                induction k34 using Nat.strongRecOn with
                | ind k34 ih33 =>
                  intro v31 s40 hI35
                  have p41 := hS36 k34 v31 s40 hI35
                  refine V_blk C (pc' := 77) (σ' := s40) (L' := [some (.ref 63), none, none, some (.int r30), some (.int v31)]) (st' := [.int 24, .int v31]) (g_c dX8_draws_73 (g_c dX8_draws_75 g_n)) rfl rfl ?_
                  refine V_icmp_ge2 C (tgt := 100) dX8_draws_77 (by decide) (fun h42 => ?_) (fun h42 => ?_)
                  · skip
                    have p43 := p41.2 h42
                    refine V_blk C (pc' := 101) (σ' := s40) (L' := [some (.ref 63), none, none, some (.int r30), some (.int v31)]) (st' := [.int r30]) (g_c dX8_draws_100 g_n) rfl rfl ?_
                    refine V_iret C dX8_draws_101 ?_
                    exact p43
                  · skip
                    have p44 := p41.1 h42
                    refine V_blk C (pc' := 92) (σ' := s40) (L' := [some (.ref 63), none, none, some (.int r30), some (.int v31)]) (st' := [.int v31, .ref 82, .int v31, .ref 67]) (g_c dX8_draws_80 (g_c dX8_draws_81 (g_c dX8_draws_84 (g_c dX8_draws_86 (g_c dX8_draws_87 (g_c dX8_draws_90 g_n)))))) rfl rfl ?_
                    obtain ⟨j47, e48, l46, p45⟩ := p44
                    refine V_ialdJ C (j := j47) (k := 82) (n := 24) (by rfl) (by rfl) e48 ⟨(by omega), (by omega)⟩ dX8_draws_92 ?_
                    refine V_iastJ C (j := j47) (k := 67) (n := 24) (by rfl) (by rfl) e48 ⟨(by omega), (by omega)⟩ dX8_draws_93 ?_
                    refine V_blk C (pc' := 97) (σ' := (g_up s40 67 j47 (s40 82 j47))) (L' := [some (.ref 63), none, none, some (.int r30), some (.int (v31 + 1))]) (st' := []) (g_c dX8_draws_94 g_n) rfl rfl ?_
                    refine V_goto C (tgt := 73) dX8_draws_97 (by decide) ?_
                    obtain ⟨k49, hkk49, hIk49⟩ := p45
                    exact ih33 k49 hkk49 (v31 + 1) (g_up s40 67 j47 (s40 82 j47)) hIk49
              exact lp38 k37 0 s28 hI39
            · skip
              have p50 := p25.1 h26
              refine V_blk C (pc' := 57) (σ' := s24) (L' := [some (.ref 63), none, some (.int ((v14 * 1103515245) + 12345)), some (.int v15), none]) (st' := [.int 10, .int (Int32.toUInt32 ((v14 * 1103515245) + 12345) >>> (Int32.toUInt32 9 &&& Int32.toUInt32 31)).toInt32, .int v15, .ref 67]) (g_c dX8_draws_36 (g_c dX8_draws_37 (g_c dX8_draws_40 (g_c dX8_draws_41 (g_c dX8_draws_44 (g_c dX8_draws_45 (g_c dX8_draws_46 (g_c dX8_draws_47 (g_c dX8_draws_50 (g_c dX8_draws_51 (g_c dX8_draws_52 (g_c dX8_draws_54 (g_c dX8_draws_55 g_n))))))))))))) rfl rfl ?_
              refine V_irem C (by decide) dX8_draws_57 ?_
              obtain ⟨j53, e54, l52, p51⟩ := p50
              refine V_iastJ C (j := j53) (k := 67) (n := 24) (by rfl) (by rfl) e54 ⟨(by omega), (by omega)⟩ dX8_draws_58 ?_
              refine V_blk C (pc' := 62) (σ' := (g_up s24 67 j53 ((Int32.toUInt32 ((v14 * 1103515245) + 12345) >>> (Int32.toUInt32 9 &&& Int32.toUInt32 31)).toInt32 - (Int32.toUInt32 ((v14 * 1103515245) + 12345) >>> (Int32.toUInt32 9 &&& Int32.toUInt32 31)).toInt32 / 10 * 10))) (L' := [some (.ref 63), none, some (.int ((v14 * 1103515245) + 12345)), some (.int (v15 + 1)), none]) (st' := []) (g_c dX8_draws_59 g_n) rfl rfl ?_
              refine V_goto C (tgt := 30) dX8_draws_62 (by decide) ?_
              obtain ⟨k55, hkk55, hIk55⟩ := p51
              exact ih17 k55 hkk55 ((v14 * 1103515245) + 12345) (v15 + 1) (g_up s24 67 j53 ((Int32.toUInt32 ((v14 * 1103515245) + 12345) >>> (Int32.toUInt32 9 &&& Int32.toUInt32 31)).toInt32 - (Int32.toUInt32 ((v14 * 1103515245) + 12345) >>> (Int32.toUInt32 9 &&& Int32.toUInt32 31)).toInt32 / 10 * 10)) hIk55
        exact lp22 k21 seed 0 s10 hI23
      · skip
        have p56 := p11.1 h12
        refine V_blk C (pc' := 18) (σ' := s10) (L' := [some (.ref 63), some (.int seed), some (.int v1), none, none]) (st' := [.int v1, .ref 67, .int v1, .ref 82]) (g_c dX8_draws_8 (g_c dX8_draws_9 (g_c dX8_draws_12 (g_c dX8_draws_13 (g_c dX8_draws_14 (g_c dX8_draws_17 g_n)))))) rfl rfl ?_
        obtain ⟨j59, e60, l58, p57⟩ := p56
        refine V_ialdJ C (j := j59) (k := 67) (n := 24) (by rfl) (by rfl) e60 ⟨(by omega), (by omega)⟩ dX8_draws_18 ?_
        refine V_iastJ C (j := j59) (k := 82) (n := 24) (by rfl) (by rfl) e60 ⟨(by omega), (by omega)⟩ dX8_draws_19 ?_
        refine V_blk C (pc' := 23) (σ' := (g_up s10 82 j59 (s10 67 j59))) (L' := [some (.ref 63), some (.int seed), some (.int (v1 + 1)), none, none]) (st' := []) (g_c dX8_draws_20 g_n) rfl rfl ?_
        refine V_goto C (tgt := 2) dX8_draws_23 (by decide) ?_
        obtain ⟨k61, hkk61, hIk61⟩ := p57
        exact ih3 k61 hkk61 (v1 + 1) (g_up s10 82 j59 (s10 67 j59)) hIk61
  exact lp8 k7 0 σ hI9
set_option maxRecDepth 100000 in
def P_X8_drawn (h : Nat) (seed : Int32) (σ : gS) (Qp : Option Value → gS → Prop) : Prop :=
  (g_call yX8_draws cX8_draws 5 (some .int) kM h [.ref 63, .int seed] σ (fun rv s1 => ∃ r3 : Int32, rv = some (.int r3) ∧ (Qp (some (.int r3)) s1)))
set_option maxHeartbeats 4000000 in
set_option maxRecDepth 100000 in
theorem w_X8_drawn {h : Nat} (hh : 6 ≤ h) {seed : Int32} {σ : gS} {Qp : Option Value → gS → Prop} (P : P_X8_drawn h seed σ Qp) : g_Met yX8_drawn cX8_drawn 2 (some .int) h kM [.ref 63, .int seed] σ Qp := by
  unfold P_X8_drawn at P
  refine g_Met.of (own := 8) (L := [some (.ref 63), some (.int seed)]) (by decide) rfl rfl (fun ad => Nat.le_of_ble_eq_true rfl) (fun ad => rfl) (fun X G K C => ?_)
  refine V_blk C (pc' := 2) (σ' := σ) (L' := [some (.ref 63), some (.int seed)]) (st' := [.int seed, .ref 63]) (g_c dX8_drawn_0 (g_c dX8_drawn_1 g_n)) rfl rfl ?_
  refine V_gV C cv_X8_365 P ⟨_, _, _, _, rfl, rfl⟩ (by rfl) (by decide) (As := [.int seed]) (rest := []) rfl rfl (Nat.le_of_ble_eq_true rfl) dX8_drawn_2 (fun rv s1 hq => ?_)
  obtain ⟨r3, rfl, p2⟩ := hq
  refine V_iret C dX8_drawn_5 ?_
  exact p2
set_option maxRecDepth 100000 in
def P_X8_chance (h : Nat) (seed : Int32) (n : Int32) (pa : Int32) (σ : gS) (Qp : Option Value → gS → Prop) : Prop :=
  ((g_in n 1 20 → ((g_in pa 0 1 → (∃ I8 : Nat → Int64 → Int32 → gS → Prop, (∃ k13 : Nat, I8 k13 0 0 σ) ∧ ∀ (k10 : Nat) (v6 : Int64) (v7 : Int32) (s16 : gS), I8 k10 v6 v7 s16 → (((v7 : Int32) < n → (g_call yX8_draws cX8_draws 5 (some .int) kM h [.ref 63, .int (seed + v7)] s16 (fun rv s46 => ∃ r48 : Int32, rv = some (.int r48) ∧ ((((s46 63 41) : Int32) = 0 → (∃ k53 : Nat, k53 < k10 ∧ I8 k53 (v6 + 1) (v7 + 1) s46)) ∧ (¬ ((s46 63 41) : Int32) = 0 → (∃ k51 : Nat, k51 < k10 ∧ I8 k51 (v6 + 0) (v7 + 1) s46)))))) ∧ (¬ (v7 : Int32) < n → (∃ I22 : Nat → Int64 → Int64 → Prop, (∃ k27 : Nat, I22 k27 v6 (Int32.toInt64 n)) ∧ ∀ (k24 : Nat) (v20 : Int64) (v21 : Int64), I22 k24 v20 v21 → (((v21 : Int64) = 0 → (((pa : Int32) = 0 → ((¬ v20 = 0) ∧ (Qp (some (.long (v6 / v20))) s16))) ∧ (¬ (pa : Int32) = 0 → ((¬ v20 = 0) ∧ (Qp (some (.long ((Int32.toInt64 n) / v20))) s16))))) ∧ (¬ (v21 : Int64) = 0 → ((¬ v21 = 0) ∧ (∃ k44 : Nat, k44 < k24 ∧ I22 k44 v21 (v20 - v20 / v21 * v21)))))))))) ∧ (¬ g_in pa 0 1 → (Qp (some (.long (-4611686018427387904))) σ)))) ∧ (¬ g_in n 1 20 → (Qp (some (.long (-4611686018427387904))) σ)))
set_option maxHeartbeats 4000000 in
set_option maxRecDepth 100000 in
theorem w_X8_chance {h : Nat} (hh : 6 ≤ h) {seed : Int32} {n : Int32} {pa : Int32} {σ : gS} {Qp : Option Value → gS → Prop} (P : P_X8_chance h seed n pa σ Qp) : g_Met yX8_chance cX8_chance 12 (some .long) h kM [.ref 63, .int seed, .int n, .int pa] σ Qp := by
  unfold P_X8_chance at P
  refine g_Met.of (own := 8) (L := [some (.ref 63), some (.int seed), some (.int n), some (.int pa), none, none, none, none, none, none, none, none]) (by decide) rfl rfl (fun ad => Nat.le_of_ble_eq_true rfl) (fun ad => rfl) (fun X G K C => ?_)
  refine V_blk C (pc' := 6) (σ' := σ) (L' := [some (.ref 63), some (.int seed), some (.int n), some (.int pa), none, none, none, none, none, none, none, none]) (st' := [.long 20, .long 1, .long (Int32.toInt64 n)]) (g_c dX8_chance_0 (g_c dX8_chance_1 (g_c dX8_chance_2 (g_c dX8_chance_3 g_n)))) rfl rfl ?_
  refine V_callSI C cs_X8_110 (c_X8_in32 σ n 1 20 (by decide) (by decide)) (by omega) (by decide) (fun _ h => h) (As := [.long (Int32.toInt64 n), .long 1, .long 20]) (rest := []) rfl rfl (Nat.le_of_ble_eq_true rfl) dX8_chance_6 ?_
  refine V_if_eq_b C (tgt := 22) dX8_chance_9 (by decide) (fun h1 => ?_) (fun h1 => ?_)
  · skip
    have p2 := P.2 h1
    refine V_blk C (pc' := 25) (σ' := σ) (L' := [some (.ref 63), some (.int seed), some (.int n), some (.int pa), none, none, none, none, none, none, none, none]) (st' := [.long (-4611686018427387904)]) (g_c dX8_chance_22 g_n) rfl rfl ?_
    refine V_lret C dX8_chance_25 ?_
    exact p2
  · skip
    have p3 := P.1 h1
    refine V_blk C (pc' := 16) (σ' := σ) (L' := [some (.ref 63), some (.int seed), some (.int n), some (.int pa), none, none, none, none, none, none, none, none]) (st' := [.long 1, .long 0, .long (Int32.toInt64 pa)]) (g_c dX8_chance_12 (g_c dX8_chance_13 (g_c dX8_chance_14 (g_c dX8_chance_15 g_n)))) rfl rfl ?_
    refine V_callSI C cs_X8_110 (c_X8_in32 σ pa 0 1 (by decide) (by decide)) (by omega) (by decide) (fun _ h => h) (As := [.long (Int32.toInt64 pa), .long 0, .long 1]) (rest := []) rfl rfl (Nat.le_of_ble_eq_true rfl) dX8_chance_16 ?_
    refine V_if_ne_b C (tgt := 26) dX8_chance_19 (by decide) (fun h4 => ?_) (fun h4 => ?_)
    · skip
      have p5 := p3.1 h4
      refine V_blk C (pc' := 32) (σ' := σ) (L' := [some (.ref 63), some (.int seed), some (.int n), some (.int pa), some (.long 0), none, some (.int 0), none, none, none, none, none]) (st' := []) (g_c dX8_chance_26 (g_c dX8_chance_27 (g_c dX8_chance_29 (g_c dX8_chance_30 g_n)))) rfl rfl ?_
      obtain ⟨I8, ⟨k13, hI15⟩, hS12⟩ := p5
      have lp14 : ∀ (k10 : Nat) (v6 : Int64) (v7 : Int32) (s16 : gS), I8 k10 v6 v7 s16 → gV X G K 12 Qp s16 [some (.ref 63), some (.int seed), some (.int n), some (.int pa), some (.long v6), none, some (.int v7), none, none, none, none, none] [] 32 := by
        intro k10
        induction k10 using Nat.strongRecOn with
        | ind k10 ih9 =>
          intro v6 v7 s16 hI11
          have p17 := hS12 k10 v6 v7 s16 hI11
          refine V_blk C (pc' := 35) (σ' := s16) (L' := [some (.ref 63), some (.int seed), some (.int n), some (.int pa), some (.long v6), none, some (.int v7), none, none, none, none, none]) (st' := [.int n, .int v7]) (g_c dX8_chance_32 (g_c dX8_chance_34 g_n)) rfl rfl ?_
          refine V_icmp_ge2 C (tgt := 70) dX8_chance_35 (by decide) (fun h18 => ?_) (fun h18 => ?_)
          · skip
            have p19 := p17.2 h18
            refine V_blk C (pc' := 78) (σ' := s16) (L' := [some (.ref 63), some (.int seed), some (.int n), some (.int pa), some (.long v6), none, some (.long v6), none, some (.long (Int32.toInt64 n)), none, none, none]) (st' := []) (g_c dX8_chance_70 (g_c dX8_chance_72 (g_c dX8_chance_74 (g_c dX8_chance_75 (g_c dX8_chance_76 g_n))))) rfl rfl ?_
            refine V_less (L' := [none, none, some (.int n), some (.int pa), some (.long v6), none, some (.long v6), none, some (.long (Int32.toInt64 n)), none, none, none]) (by simp [g_subL]) ?_
            obtain ⟨I22, ⟨k27, hI29⟩, hS26⟩ := p19
            have lp28 : ∀ (k24 : Nat) (v20 : Int64) (v21 : Int64), I22 k24 v20 v21 → gV X G K 12 Qp s16 [none, none, some (.int n), some (.int pa), some (.long v6), none, some (.long v20), none, some (.long v21), none, none, none] [] 78 := by
              intro k24
              induction k24 using Nat.strongRecOn with
              | ind k24 ih23 =>
                intro v20 v21 hI25
                have p31 := hS26 k24 v20 v21 hI25
                refine V_blk C (pc' := 81) (σ' := s16) (L' := [none, none, some (.int n), some (.int pa), some (.long v6), none, some (.long v20), none, some (.long v21), none, none, none]) (st' := [.long 0, .long v21]) (g_c dX8_chance_78 (g_c dX8_chance_80 g_n)) rfl rfl ?_
                refine V_lcmp_eq C (tgt := 103) dX8_chance_81 dX8_chance_82 (by decide) (fun h32 => ?_) (fun h32 => ?_)
                · skip
                  have p33 := p31.1 h32
                  refine V_blk C (pc' := 104) (σ' := s16) (L' := [none, none, some (.int n), some (.int pa), some (.long v6), none, some (.long v20), none, some (.long v21), none, none, none]) (st' := [.int pa]) (g_c dX8_chance_103 g_n) rfl rfl ?_
                  refine V_if_ne C (tgt := 115) dX8_chance_104 (by decide) (fun h34 => ?_) (fun h34 => ?_)
                  · skip
                    have p35 := p33.2 h34
                    refine V_blk C (pc' := 119) (σ' := s16) (L' := [none, none, some (.int n), some (.int pa), some (.long v6), none, some (.long v20), none, some (.long v21), none, none, none]) (st' := [.long v20, .long (Int32.toInt64 n)]) (g_c dX8_chance_115 (g_c dX8_chance_116 (g_c dX8_chance_117 g_n))) rfl rfl ?_
                    have q36 := p35.1
                    have p37 := p35.2
                    refine V_ldiv C q36 dX8_chance_119 ?_
                    refine V_lret C dX8_chance_120 ?_
                    exact p37
                  · skip
                    have p38 := p33.1 h34
                    refine V_blk C (pc' := 111) (σ' := s16) (L' := [none, none, some (.int n), some (.int pa), some (.long v6), none, some (.long v20), none, some (.long v21), none, none, none]) (st' := [.long v20, .long v6]) (g_c dX8_chance_107 (g_c dX8_chance_109 g_n)) rfl rfl ?_
                    have q39 := p38.1
                    have p40 := p38.2
                    refine V_ldiv C q39 dX8_chance_111 ?_
                    refine V_goto C (tgt := 120) dX8_chance_112 (by decide) ?_
                    refine V_lret C dX8_chance_120 ?_
                    exact p40
                · skip
                  have p41 := p31.2 h32
                  refine V_blk C (pc' := 89) (σ' := s16) (L' := [none, none, some (.int n), some (.int pa), some (.long v6), none, some (.long v20), none, some (.long v21), none, none, none]) (st' := [.long v21, .long v20]) (g_c dX8_chance_85 (g_c dX8_chance_87 g_n)) rfl rfl ?_
                  have q42 := p41.1
                  have p43 := p41.2
                  refine V_lrem C q42 dX8_chance_89 ?_
                  refine V_blk C (pc' := 100) (σ' := s16) (L' := [none, none, some (.int n), some (.int pa), some (.long v6), none, some (.long v21), none, some (.long (v20 - v20 / v21 * v21)), none, some (.long (v20 - v20 / v21 * v21)), none]) (st' := []) (g_c dX8_chance_90 (g_c dX8_chance_92 (g_c dX8_chance_94 (g_c dX8_chance_96 (g_c dX8_chance_98 g_n))))) rfl rfl ?_
                  refine V_goto C (tgt := 78) dX8_chance_100 (by decide) ?_
                  refine V_less (L' := [none, none, some (.int n), some (.int pa), some (.long v6), none, some (.long v21), none, some (.long (v20 - v20 / v21 * v21)), none, none, none]) (by simp [g_subL]) ?_
                  obtain ⟨k44, hkk44, hIk44⟩ := p43
                  exact ih23 k44 hkk44 v21 (v20 - v20 / v21 * v21) hIk44
            exact lp28 k27 v6 (Int32.toInt64 n) hI29
          · skip
            have p45 := p17.1 h18
            refine V_blk C (pc' := 43) (σ' := s16) (L' := [some (.ref 63), some (.int seed), some (.int n), some (.int pa), some (.long v6), none, some (.int v7), none, none, none, none, none]) (st' := [.int (seed + v7), .ref 63]) (g_c dX8_chance_38 (g_c dX8_chance_39 (g_c dX8_chance_40 (g_c dX8_chance_42 g_n)))) rfl rfl ?_
            refine V_gV C cv_X8_365 p45 ⟨_, _, _, _, rfl, rfl⟩ (by rfl) (by decide) (As := [.int (seed + v7)]) (rest := []) rfl rfl (Nat.le_of_ble_eq_true rfl) dX8_chance_43 (fun rv s46 hq => ?_)
            obtain ⟨r48, rfl, p47⟩ := hq
            refine V_blk C (pc' := 53) (σ' := s46) (L' := [some (.ref 63), some (.int seed), some (.int n), some (.int pa), some (.long v6), none, some (.int v7), none, none, none, none, none]) (st' := [.int (s46 63 41), .long v6]) (g_c dX8_chance_46 (g_c dX8_chance_47 (g_c dX8_chance_49 (g_c dX8_chance_50 g_n)))) rfl rfl ?_
            refine V_if_ne C (tgt := 60) dX8_chance_53 (by decide) (fun h49 => ?_) (fun h49 => ?_)
            · skip
              have p50 := p47.2 h49
              refine V_blk C (pc' := 67) (σ' := s46) (L' := [some (.ref 63), some (.int seed), some (.int n), some (.int pa), some (.long (v6 + 0)), none, some (.int (v7 + 1)), none, none, none, none, none]) (st' := []) (g_c dX8_chance_60 (g_c dX8_chance_61 (g_c dX8_chance_62 (g_c dX8_chance_64 g_n)))) rfl rfl ?_
              refine V_goto C (tgt := 32) dX8_chance_67 (by decide) ?_
              obtain ⟨k51, hkk51, hIk51⟩ := p50
              exact ih9 k51 hkk51 (v6 + 0) (v7 + 1) s46 hIk51
            · skip
              have p52 := p47.1 h49
              refine V_blk C (pc' := 57) (σ' := s46) (L' := [some (.ref 63), some (.int seed), some (.int n), some (.int pa), some (.long v6), none, some (.int v7), none, none, none, none, none]) (st' := [.long 1, .long v6]) (g_c dX8_chance_56 g_n) rfl rfl ?_
              refine V_goto C (tgt := 61) dX8_chance_57 (by decide) ?_
              refine V_blk C (pc' := 67) (σ' := s46) (L' := [some (.ref 63), some (.int seed), some (.int n), some (.int pa), some (.long (v6 + 1)), none, some (.int (v7 + 1)), none, none, none, none, none]) (st' := []) (g_c dX8_chance_61 (g_c dX8_chance_62 (g_c dX8_chance_64 g_n))) rfl rfl ?_
              refine V_goto C (tgt := 32) dX8_chance_67 (by decide) ?_
              obtain ⟨k53, hkk53, hIk53⟩ := p52
              exact ih9 k53 hkk53 (v6 + 1) (v7 + 1) s46 hIk53
      exact lp14 k13 0 0 σ hI15
    · skip
      have p54 := p3.2 h4
      refine V_blk C (pc' := 25) (σ' := σ) (L' := [some (.ref 63), some (.int seed), some (.int n), some (.int pa), none, none, none, none, none, none, none, none]) (st' := [.long (-4611686018427387904)]) (g_c dX8_chance_22 g_n) rfl rfl ?_
      refine V_lret C dX8_chance_25 ?_
      exact p54
set_option maxRecDepth 100000 in
def P_X8_rains (h : Nat) (sh : Int32) (so : Int32) (at_ : Int32) (n : Int32) (σ : gS) (Qp : Option Value → gS → Prop) : Prop :=
  ((g_in sh 0 3 → ((g_in so 0 2 → ((g_in n 0 20 → (∃ j11 : Nat, sh = nI j11 ∧ j11 < 4 ∧ (∃ J13 : Prop, ((((σ 86 j11) : Int32) = 0 → (J13)) ∧ (¬ ((σ 86 j11) : Int32) = 0 → ((((σ 87 j11) : Int32) = so → (J13)) ∧ (¬ ((σ 87 j11) : Int32) = so → (Qp (some (.int (-13))) σ))))) ∧ (J13 → ((((σ 86 j11) : Int32) = 0 → (Qp (some (.int (-11))) σ)) ∧ (¬ ((σ 86 j11) : Int32) = 0 → (∃ I23 : Nat → Int32 → Int32 → gS → Prop, (∃ k28 : Nat, I23 k28 0 0 σ) ∧ ∀ (k25 : Nat) (v21 : Int32) (v22 : Int32) (s31 : gS), I23 k25 v21 v22 s31 → (((v22 : Int32) < n → (((at_ : Int32) < 0 → (Qp (some (.int (-12))) s31)) ∧ (¬ (at_ : Int32) < 0 → ((((((s31 88 j11) - (2 * v22)) - 2) : Int32) < at_ → (Qp (some (.int (-12))) s31)) ∧ (¬ ((((s31 88 j11) - (2 * v22)) - 2) : Int32) < at_ → (∃ j43 : Nat, (((40 * sh) + at_) + (2 * v22)) = nI j43 ∧ j43 < 160 ∧ (∃ j47 : Nat, ((((40 * sh) + at_) + (2 * v22)) + 1) = nI j47 ∧ j47 < 160 ∧ (g_call yX8_set cX8_set 5 (some .int) kM h [.ref 63, .int 0, .int (s31 89 j43), .int (s31 89 j47)] s31 (fun rv s49 => ∃ r51 : Int32, rv = some (.int r51) ∧ (∃ k53 : Nat, k53 < k25 ∧ I23 k53 (v21 + (if (r51 : Int32) < 0 then 0 else 1)) (v22 + 1) s49)))))))))) ∧ (¬ (v22 : Int32) < n → (Qp (some (.int v21)) s31)))))))))) ∧ (¬ g_in n 0 20 → (Qp (some (.int (-2))) σ)))) ∧ (¬ g_in so 0 2 → (Qp (some (.int (-2))) σ)))) ∧ (¬ g_in sh 0 3 → (Qp (some (.int (-2))) σ)))
set_option maxHeartbeats 4000000 in
set_option maxRecDepth 100000 in
theorem w_X8_rains {h : Nat} (hh : 6 ≤ h) {sh : Int32} {so : Int32} {at_ : Int32} {n : Int32} {σ : gS} {Qp : Option Value → gS → Prop} (P : P_X8_rains h sh so at_ n σ Qp) : g_Met yX8_rains cX8_rains 8 (some .int) h kM [.ref 63, .int sh, .int so, .int at_, .int n] σ Qp := by
  unfold P_X8_rains at P
  refine g_Met.of (own := 8) (L := [some (.ref 63), some (.int sh), some (.int so), some (.int at_), some (.int n), none, none, none]) (by decide) rfl rfl (fun ad => Nat.le_of_ble_eq_true rfl) (fun ad => rfl) (fun X G K C => ?_)
  refine V_blk C (pc' := 1) (σ' := σ) (L' := [some (.ref 63), some (.int sh), some (.int so), some (.int at_), some (.int n), none, none, none]) (st' := [.int sh]) (g_c dX8_rains_0 g_n) rfl rfl ?_
  refine V_callSI C cs_X8_354 (c_X8_isSheet σ sh) (by omega) (by decide) (fun _ h => h) (As := [.int sh]) (rest := []) rfl rfl (Nat.le_of_ble_eq_true rfl) dX8_rains_1 ?_
  refine V_if_eq_b C (tgt := 32) dX8_rains_4 (by decide) (fun h1 => ?_) (fun h1 => ?_)
  · skip
    have p2 := P.2 h1
    refine V_blk C (pc' := 34) (σ' := σ) (L' := [some (.ref 63), some (.int sh), some (.int so), some (.int at_), some (.int n), none, none, none]) (st' := [.int (-2)]) (g_c dX8_rains_32 g_n) rfl rfl ?_
    refine V_iret C dX8_rains_34 ?_
    exact p2
  · skip
    have p3 := P.1 h1
    refine V_blk C (pc' := 13) (σ' := σ) (L' := [some (.ref 63), some (.int sh), some (.int so), some (.int at_), some (.int n), none, none, none]) (st' := [.long 2, .long 0, .long (Int32.toInt64 so)]) (g_c dX8_rains_7 (g_c dX8_rains_8 (g_c dX8_rains_9 (g_c dX8_rains_10 g_n)))) rfl rfl ?_
    refine V_callSI C cs_X8_110 (c_X8_in32 σ so 0 2 (by decide) (by decide)) (by omega) (by decide) (fun _ h => h) (As := [.long (Int32.toInt64 so), .long 0, .long 2]) (rest := []) rfl rfl (Nat.le_of_ble_eq_true rfl) dX8_rains_13 ?_
    refine V_if_eq_b C (tgt := 32) dX8_rains_16 (by decide) (fun h4 => ?_) (fun h4 => ?_)
    · skip
      have p5 := p3.2 h4
      refine V_blk C (pc' := 34) (σ' := σ) (L' := [some (.ref 63), some (.int sh), some (.int so), some (.int at_), some (.int n), none, none, none]) (st' := [.int (-2)]) (g_c dX8_rains_32 g_n) rfl rfl ?_
      refine V_iret C dX8_rains_34 ?_
      exact p5
    · skip
      have p6 := p3.1 h4
      refine V_blk C (pc' := 26) (σ' := σ) (L' := [some (.ref 63), some (.int sh), some (.int so), some (.int at_), some (.int n), none, none, none]) (st' := [.long 20, .long 0, .long (Int32.toInt64 n)]) (g_c dX8_rains_19 (g_c dX8_rains_21 (g_c dX8_rains_22 (g_c dX8_rains_23 g_n)))) rfl rfl ?_
      refine V_callSI C cs_X8_110 (c_X8_in32 σ n 0 20 (by decide) (by decide)) (by omega) (by decide) (fun _ h => h) (As := [.long (Int32.toInt64 n), .long 0, .long 20]) (rest := []) rfl rfl (Nat.le_of_ble_eq_true rfl) dX8_rains_26 ?_
      refine V_if_ne_b C (tgt := 35) dX8_rains_29 (by decide) (fun h7 => ?_) (fun h7 => ?_)
      · skip
        have p8 := p6.1 h7
        refine V_blk C (pc' := 40) (σ' := σ) (L' := [some (.ref 63), some (.int sh), some (.int so), some (.int at_), some (.int n), none, none, none]) (st' := [.int sh, .ref 86]) (g_c dX8_rains_35 (g_c dX8_rains_36 (g_c dX8_rains_39 g_n))) rfl rfl ?_
        obtain ⟨j11, e12, l10, p9⟩ := p8
        refine V_zaldJ C (j := j11) (k := 86) (n := 4) (by rfl) (by rfl) e12 ⟨(by omega), (by omega)⟩ dX8_rains_40 ?_
        obtain ⟨J13, p15, p16⟩ := p9
        have jn14 : ∀ (_ : J13 ), gV X G K 8 Qp σ [some (.ref 63), some (.int sh), none, some (.int at_), some (.int n), none, none, none] [] 57 := by
          intro  hJ17
          have p18 := p16  hJ17
          refine V_blk C (pc' := 62) (σ' := σ) (L' := [some (.ref 63), some (.int sh), none, some (.int at_), some (.int n), none, none, none]) (st' := [.int sh, .ref 86]) (g_c dX8_rains_57 (g_c dX8_rains_58 (g_c dX8_rains_61 g_n))) rfl rfl ?_
          refine V_zaldJ C (j := j11) (k := 86) (n := 4) (by rfl) (by rfl) e12 ⟨(by omega), (by omega)⟩ dX8_rains_62 ?_
          refine V_if_ne C (tgt := 69) dX8_rains_63 (by decide) (fun h19 => ?_) (fun h19 => ?_)
          · skip
            have p20 := p18.2 h19
            refine V_blk C (pc' := 75) (σ' := σ) (L' := [some (.ref 63), some (.int sh), none, some (.int at_), some (.int n), some (.int 0), some (.int 0), none]) (st' := []) (g_c dX8_rains_69 (g_c dX8_rains_70 (g_c dX8_rains_72 (g_c dX8_rains_73 g_n)))) rfl rfl ?_
            obtain ⟨I23, ⟨k28, hI30⟩, hS27⟩ := p20
            have lp29 : ∀ (k25 : Nat) (v21 : Int32) (v22 : Int32) (s31 : gS), I23 k25 v21 v22 s31 → gV X G K 8 Qp s31 [some (.ref 63), some (.int sh), none, some (.int at_), some (.int n), some (.int v21), some (.int v22), none] [] 75 := by
              intro k25
              induction k25 using Nat.strongRecOn with
              | ind k25 ih24 =>
                intro v21 v22 s31 hI26
                have p32 := hS27 k25 v21 v22 s31 hI26
                refine V_blk C (pc' := 79) (σ' := s31) (L' := [some (.ref 63), some (.int sh), none, some (.int at_), some (.int n), some (.int v21), some (.int v22), none]) (st' := [.int n, .int v22]) (g_c dX8_rains_75 (g_c dX8_rains_77 g_n)) rfl rfl ?_
                refine V_icmp_ge2 C (tgt := 159) dX8_rains_79 (by decide) (fun h33 => ?_) (fun h33 => ?_)
                · skip
                  have p34 := p32.2 h33
                  refine V_blk C (pc' := 161) (σ' := s31) (L' := [some (.ref 63), some (.int sh), none, some (.int at_), some (.int n), some (.int v21), some (.int v22), none]) (st' := [.int v21]) (g_c dX8_rains_159 g_n) rfl rfl ?_
                  refine V_iret C dX8_rains_161 ?_
                  exact p34
                · skip
                  have p35 := p32.1 h33
                  refine V_blk C (pc' := 83) (σ' := s31) (L' := [some (.ref 63), some (.int sh), none, some (.int at_), some (.int n), some (.int v21), some (.int v22), none]) (st' := [.int at_]) (g_c dX8_rains_82 g_n) rfl rfl ?_
                  refine V_if_lt C (tgt := 103) dX8_rains_83 (by decide) (fun h36 => ?_) (fun h36 => ?_)
                  · skip
                    have p37 := p35.1 h36
                    refine V_blk C (pc' := 105) (σ' := s31) (L' := [some (.ref 63), some (.int sh), none, some (.int at_), some (.int n), some (.int v21), some (.int v22), none]) (st' := [.int (-12)]) (g_c dX8_rains_103 g_n) rfl rfl ?_
                    refine V_iret C dX8_rains_105 ?_
                    exact p37
                  · skip
                    have p38 := p35.2 h36
                    refine V_blk C (pc' := 92) (σ' := s31) (L' := [some (.ref 63), some (.int sh), none, some (.int at_), some (.int n), some (.int v21), some (.int v22), none]) (st' := [.int sh, .ref 88, .int at_]) (g_c dX8_rains_86 (g_c dX8_rains_87 (g_c dX8_rains_88 (g_c dX8_rains_91 g_n)))) rfl rfl ?_
                    refine V_ialdJ C (j := j11) (k := 88) (n := 4) (by rfl) (by rfl) e12 ⟨(by omega), (by omega)⟩ dX8_rains_92 ?_
                    refine V_blk C (pc' := 100) (σ' := s31) (L' := [some (.ref 63), some (.int sh), none, some (.int at_), some (.int n), some (.int v21), some (.int v22), none]) (st' := [.int (((s31 88 j11) - (2 * v22)) - 2), .int at_]) (g_c dX8_rains_93 (g_c dX8_rains_94 (g_c dX8_rains_96 (g_c dX8_rains_97 (g_c dX8_rains_98 (g_c dX8_rains_99 g_n)))))) rfl rfl ?_
                    refine V_icmp_le2 C (tgt := 106) dX8_rains_100 (by decide) (fun h39 => ?_) (fun h39 => ?_)
                    · skip
                      have p40 := p38.2 h39
                      refine V_blk C (pc' := 129) (σ' := s31) (L' := [some (.ref 63), some (.int sh), none, some (.int at_), some (.int n), some (.int v21), some (.int v22), some (.int (((40 * sh) + at_) + (2 * v22)))]) (st' := [.int (((40 * sh) + at_) + (2 * v22)), .ref 89, .int 0, .ref 63, .int v21]) (g_c dX8_rains_106 (g_c dX8_rains_108 (g_c dX8_rains_109 (g_c dX8_rains_110 (g_c dX8_rains_111 (g_c dX8_rains_112 (g_c dX8_rains_113 (g_c dX8_rains_115 (g_c dX8_rains_116 (g_c dX8_rains_117 (g_c dX8_rains_119 (g_c dX8_rains_121 (g_c dX8_rains_122 (g_c dX8_rains_123 (g_c dX8_rains_124 (g_c dX8_rains_127 g_n)))))))))))))))) rfl rfl ?_
                      obtain ⟨j43, e44, l42, p41⟩ := p40
                      refine V_ialdJ C (j := j43) (k := 89) (n := 160) (by rfl) (by rfl) e44 ⟨(by omega), (by omega)⟩ dX8_rains_129 ?_
                      refine V_blk C (pc' := 138) (σ' := s31) (L' := [some (.ref 63), some (.int sh), none, some (.int at_), some (.int n), some (.int v21), some (.int v22), some (.int (((40 * sh) + at_) + (2 * v22)))]) (st' := [.int ((((40 * sh) + at_) + (2 * v22)) + 1), .ref 89, .int (s31 89 j43), .int 0, .ref 63, .int v21]) (g_c dX8_rains_130 (g_c dX8_rains_131 (g_c dX8_rains_134 (g_c dX8_rains_136 (g_c dX8_rains_137 g_n))))) rfl rfl ?_
                      obtain ⟨j47, e48, l46, p45⟩ := p41
                      refine V_ialdJ C (j := j47) (k := 89) (n := 160) (by rfl) (by rfl) e48 ⟨(by omega), (by omega)⟩ dX8_rains_138 ?_
                      refine V_gV C cv_X8_393 p45 ⟨_, _, _, _, rfl, rfl⟩ (by rfl) (by decide) (As := [.int 0, .int (s31 89 j43), .int (s31 89 j47)]) (rest := [.int v21]) rfl rfl (Nat.le_of_ble_eq_true rfl) dX8_rains_139 (fun rv s49 hq => ?_)
                      obtain ⟨r51, rfl, p50⟩ := hq
                      refine V_join (P := (r51 : Int32) < 0) (a := 0) (b := 1) (pcJ := 150) (rest := [.int v21]) (fun x_ hx_ => ?_) (fun kT kF => ?_)
                      · skip
                        subst hx_
                        refine V_blk C (pc' := 156) (σ' := s49) (L' := [some (.ref 63), some (.int sh), none, some (.int at_), some (.int n), some (.int (v21 + (if (r51 : Int32) < 0 then 0 else 1))), some (.int (v22 + 1)), some (.int (((40 * sh) + at_) + (2 * v22)))]) (st' := []) (g_c dX8_rains_150 (g_c dX8_rains_151 (g_c dX8_rains_153 g_n))) rfl rfl ?_
                        refine V_goto C (tgt := 75) dX8_rains_156 (by decide) ?_
                        refine V_less (L' := [some (.ref 63), some (.int sh), none, some (.int at_), some (.int n), some (.int (v21 + (if (r51 : Int32) < 0 then 0 else 1))), some (.int (v22 + 1)), none]) (by simp [g_subL]) ?_
                        obtain ⟨k53, hkk53, hIk53⟩ := p50
                        exact ih24 k53 hkk53 (v21 + (if (r51 : Int32) < 0 then 0 else 1)) (v22 + 1) s49 hIk53
                      · refine V_if_lt C (tgt := 149) dX8_rains_142 (by decide) (fun h52 => ?_) (fun h52 => ?_)
                        · skip
                          refine V_blk C (pc' := 150) (σ' := s49) (L' := [some (.ref 63), some (.int sh), none, some (.int at_), some (.int n), some (.int v21), some (.int v22), some (.int (((40 * sh) + at_) + (2 * v22)))]) (st' := [.int 0, .int v21]) (g_c dX8_rains_149 g_n) rfl rfl ?_
                          exact kT h52
                        · skip
                          refine V_blk C (pc' := 146) (σ' := s49) (L' := [some (.ref 63), some (.int sh), none, some (.int at_), some (.int n), some (.int v21), some (.int v22), some (.int (((40 * sh) + at_) + (2 * v22)))]) (st' := [.int 1, .int v21]) (g_c dX8_rains_145 g_n) rfl rfl ?_
                          refine V_goto C (tgt := 150) dX8_rains_146 (by decide) ?_
                          exact kF h52
                    · skip
                      have p54 := p38.1 h39
                      refine V_blk C (pc' := 105) (σ' := s31) (L' := [some (.ref 63), some (.int sh), none, some (.int at_), some (.int n), some (.int v21), some (.int v22), none]) (st' := [.int (-12)]) (g_c dX8_rains_103 g_n) rfl rfl ?_
                      refine V_iret C dX8_rains_105 ?_
                      exact p54
            exact lp29 k28 0 0 σ hI30
          · skip
            have p55 := p18.1 h19
            refine V_blk C (pc' := 68) (σ' := σ) (L' := [some (.ref 63), some (.int sh), none, some (.int at_), some (.int n), none, none, none]) (st' := [.int (-11)]) (g_c dX8_rains_66 g_n) rfl rfl ?_
            refine V_iret C dX8_rains_68 ?_
            exact p55
        refine V_if_eq C (tgt := 57) dX8_rains_41 (by decide) (fun h56 => ?_) (fun h56 => ?_)
        · skip
          have p57 := p15.1 h56
          refine V_less (L' := [some (.ref 63), some (.int sh), none, some (.int at_), some (.int n), none, none, none]) (by simp [g_subL]) ?_
          exact jn14 p57
        · skip
          have p58 := p15.2 h56
          refine V_blk C (pc' := 49) (σ' := σ) (L' := [some (.ref 63), some (.int sh), some (.int so), some (.int at_), some (.int n), none, none, none]) (st' := [.int sh, .ref 87]) (g_c dX8_rains_44 (g_c dX8_rains_45 (g_c dX8_rains_48 g_n))) rfl rfl ?_
          refine V_ialdJ C (j := j11) (k := 87) (n := 4) (by rfl) (by rfl) e12 ⟨(by omega), (by omega)⟩ dX8_rains_49 ?_
          refine V_blk C (pc' := 51) (σ' := σ) (L' := [some (.ref 63), some (.int sh), some (.int so), some (.int at_), some (.int n), none, none, none]) (st' := [.int so, .int (σ 87 j11)]) (g_c dX8_rains_50 g_n) rfl rfl ?_
          refine V_icmp_eq C (tgt := 57) dX8_rains_51 (by decide) (fun h59 => ?_) (fun h59 => ?_)
          · skip
            have p60 := p58.1 h59
            refine V_less (L' := [some (.ref 63), some (.int sh), none, some (.int at_), some (.int n), none, none, none]) (by simp [g_subL]) ?_
            exact jn14 p60
          · skip
            have p61 := p58.2 h59
            refine V_blk C (pc' := 56) (σ' := σ) (L' := [some (.ref 63), some (.int sh), some (.int so), some (.int at_), some (.int n), none, none, none]) (st' := [.int (-13)]) (g_c dX8_rains_54 g_n) rfl rfl ?_
            refine V_iret C dX8_rains_56 ?_
            exact p61
      · skip
        have p62 := p6.2 h7
        refine V_blk C (pc' := 34) (σ' := σ) (L' := [some (.ref 63), some (.int sh), some (.int so), some (.int at_), some (.int n), none, none, none]) (st' := [.int (-2)]) (g_c dX8_rains_32 g_n) rfl rfl ?_
        refine V_iret C dX8_rains_34 ?_
        exact p62
set_option maxRecDepth 100000 in
def P_X8_spell (h : Nat) (at_ : Int32) (a : Int32) (b : Int32) (c : Int32) (d : Int32) (e : Int32) (f : Int32) (g : Int32) (hh_ : Int32) (σ : gS) (Qp : Option Value → gS → Prop) : Prop :=
  (∃ j3 : Nat, at_ = nI j3 ∧ j3 < 960 ∧ (∃ j7 : Nat, (at_ + 1) = nI j7 ∧ j7 < 960 ∧ (∃ j11 : Nat, (at_ + 2) = nI j11 ∧ j11 < 960 ∧ (∃ j15 : Nat, (at_ + 3) = nI j15 ∧ j15 < 960 ∧ (∃ j19 : Nat, (at_ + 4) = nI j19 ∧ j19 < 960 ∧ (∃ j23 : Nat, (at_ + 5) = nI j23 ∧ j23 < 960 ∧ (∃ j27 : Nat, (at_ + 6) = nI j27 ∧ j27 < 960 ∧ (∃ j31 : Nat, (at_ + 7) = nI j31 ∧ j31 < 960 ∧ (Qp none (g_up (g_up (g_up (g_up (g_up (g_up (g_up (g_up σ 64 j3 a) 64 j7 b) 64 j11 c) 64 j15 d) 64 j19 e) 64 j23 f) 64 j27 g) 64 j31 hh_))))))))))
set_option maxHeartbeats 4000000 in
set_option maxRecDepth 100000 in
theorem w_X8_spell {h : Nat} (hh : 6 ≤ h) {at_ : Int32} {a : Int32} {b : Int32} {c : Int32} {d : Int32} {e : Int32} {f : Int32} {g : Int32} {hh_ : Int32} {σ : gS} {Qp : Option Value → gS → Prop} (P : P_X8_spell h at_ a b c d e f g hh_ σ Qp) : g_Met yX8_spell cX8_spell 10 none h kM [.ref 63, .int at_, .int a, .int b, .int c, .int d, .int e, .int f, .int g, .int hh_] σ Qp := by
  unfold P_X8_spell at P
  refine g_Met.of (own := 8) (L := [some (.ref 63), some (.int at_), some (.int a), some (.int b), some (.int c), some (.int d), some (.int e), some (.int f), some (.int g), some (.int hh_)]) (by decide) rfl rfl (fun ad => Nat.le_of_ble_eq_true rfl) (fun ad => rfl) (fun X G K C => ?_)
  refine V_blk C (pc' := 6) (σ' := σ) (L' := [some (.ref 63), some (.int at_), some (.int a), some (.int b), some (.int c), some (.int d), some (.int e), some (.int f), some (.int g), some (.int hh_)]) (st' := [.int a, .int at_, .ref 64]) (g_c dX8_spell_0 (g_c dX8_spell_1 (g_c dX8_spell_4 (g_c dX8_spell_5 g_n)))) rfl rfl ?_
  obtain ⟨j3, e4, l2, p1⟩ := P
  refine V_iastJ C (j := j3) (k := 64) (n := 960) (by rfl) (by rfl) e4 ⟨(by omega), (by omega)⟩ dX8_spell_6 ?_
  refine V_blk C (pc' := 15) (σ' := (g_up σ 64 j3 a)) (L' := [some (.ref 63), some (.int at_), some (.int a), some (.int b), some (.int c), some (.int d), some (.int e), some (.int f), some (.int g), some (.int hh_)]) (st' := [.int b, .int (at_ + 1), .ref 64]) (g_c dX8_spell_7 (g_c dX8_spell_8 (g_c dX8_spell_11 (g_c dX8_spell_12 (g_c dX8_spell_13 (g_c dX8_spell_14 g_n)))))) rfl rfl ?_
  obtain ⟨j7, e8, l6, p5⟩ := p1
  refine V_iastJ C (j := j7) (k := 64) (n := 960) (by rfl) (by rfl) e8 ⟨(by omega), (by omega)⟩ dX8_spell_15 ?_
  refine V_blk C (pc' := 25) (σ' := (g_up (g_up σ 64 j3 a) 64 j7 b)) (L' := [some (.ref 63), some (.int at_), some (.int a), some (.int b), some (.int c), some (.int d), some (.int e), some (.int f), some (.int g), some (.int hh_)]) (st' := [.int c, .int (at_ + 2), .ref 64]) (g_c dX8_spell_16 (g_c dX8_spell_17 (g_c dX8_spell_20 (g_c dX8_spell_21 (g_c dX8_spell_22 (g_c dX8_spell_23 g_n)))))) rfl rfl ?_
  obtain ⟨j11, e12, l10, p9⟩ := p5
  refine V_iastJ C (j := j11) (k := 64) (n := 960) (by rfl) (by rfl) e12 ⟨(by omega), (by omega)⟩ dX8_spell_25 ?_
  refine V_blk C (pc' := 35) (σ' := (g_up (g_up (g_up σ 64 j3 a) 64 j7 b) 64 j11 c)) (L' := [some (.ref 63), some (.int at_), some (.int a), some (.int b), some (.int c), some (.int d), some (.int e), some (.int f), some (.int g), some (.int hh_)]) (st' := [.int d, .int (at_ + 3), .ref 64]) (g_c dX8_spell_26 (g_c dX8_spell_27 (g_c dX8_spell_30 (g_c dX8_spell_31 (g_c dX8_spell_32 (g_c dX8_spell_33 g_n)))))) rfl rfl ?_
  obtain ⟨j15, e16, l14, p13⟩ := p9
  refine V_iastJ C (j := j15) (k := 64) (n := 960) (by rfl) (by rfl) e16 ⟨(by omega), (by omega)⟩ dX8_spell_35 ?_
  refine V_blk C (pc' := 45) (σ' := (g_up (g_up (g_up (g_up σ 64 j3 a) 64 j7 b) 64 j11 c) 64 j15 d)) (L' := [some (.ref 63), some (.int at_), some (.int a), some (.int b), some (.int c), some (.int d), some (.int e), some (.int f), some (.int g), some (.int hh_)]) (st' := [.int e, .int (at_ + 4), .ref 64]) (g_c dX8_spell_36 (g_c dX8_spell_37 (g_c dX8_spell_40 (g_c dX8_spell_41 (g_c dX8_spell_42 (g_c dX8_spell_43 g_n)))))) rfl rfl ?_
  obtain ⟨j19, e20, l18, p17⟩ := p13
  refine V_iastJ C (j := j19) (k := 64) (n := 960) (by rfl) (by rfl) e20 ⟨(by omega), (by omega)⟩ dX8_spell_45 ?_
  refine V_blk C (pc' := 55) (σ' := (g_up (g_up (g_up (g_up (g_up σ 64 j3 a) 64 j7 b) 64 j11 c) 64 j15 d) 64 j19 e)) (L' := [some (.ref 63), some (.int at_), some (.int a), some (.int b), some (.int c), some (.int d), some (.int e), some (.int f), some (.int g), some (.int hh_)]) (st' := [.int f, .int (at_ + 5), .ref 64]) (g_c dX8_spell_46 (g_c dX8_spell_47 (g_c dX8_spell_50 (g_c dX8_spell_51 (g_c dX8_spell_52 (g_c dX8_spell_53 g_n)))))) rfl rfl ?_
  obtain ⟨j23, e24, l22, p21⟩ := p17
  refine V_iastJ C (j := j23) (k := 64) (n := 960) (by rfl) (by rfl) e24 ⟨(by omega), (by omega)⟩ dX8_spell_55 ?_
  refine V_blk C (pc' := 66) (σ' := (g_up (g_up (g_up (g_up (g_up (g_up σ 64 j3 a) 64 j7 b) 64 j11 c) 64 j15 d) 64 j19 e) 64 j23 f)) (L' := [some (.ref 63), some (.int at_), some (.int a), some (.int b), some (.int c), some (.int d), some (.int e), some (.int f), some (.int g), some (.int hh_)]) (st' := [.int g, .int (at_ + 6), .ref 64]) (g_c dX8_spell_56 (g_c dX8_spell_57 (g_c dX8_spell_60 (g_c dX8_spell_61 (g_c dX8_spell_63 (g_c dX8_spell_64 g_n)))))) rfl rfl ?_
  obtain ⟨j27, e28, l26, p25⟩ := p21
  refine V_iastJ C (j := j27) (k := 64) (n := 960) (by rfl) (by rfl) e28 ⟨(by omega), (by omega)⟩ dX8_spell_66 ?_
  refine V_blk C (pc' := 77) (σ' := (g_up (g_up (g_up (g_up (g_up (g_up (g_up σ 64 j3 a) 64 j7 b) 64 j11 c) 64 j15 d) 64 j19 e) 64 j23 f) 64 j27 g)) (L' := [some (.ref 63), some (.int at_), some (.int a), some (.int b), some (.int c), some (.int d), some (.int e), some (.int f), some (.int g), some (.int hh_)]) (st' := [.int hh_, .int (at_ + 7), .ref 64]) (g_c dX8_spell_67 (g_c dX8_spell_68 (g_c dX8_spell_71 (g_c dX8_spell_72 (g_c dX8_spell_74 (g_c dX8_spell_75 g_n)))))) rfl rfl ?_
  obtain ⟨j31, e32, l30, p29⟩ := p25
  refine V_iastJ C (j := j31) (k := 64) (n := 960) (by rfl) (by rfl) e32 ⟨(by omega), (by omega)⟩ dX8_spell_77 ?_
  refine V_vret C dX8_spell_78 ?_
  exact p29
