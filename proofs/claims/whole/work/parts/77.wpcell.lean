/-! cell of the reference, taken of both -/
set_option maxRecDepth 100000 in
def P_X8_cell (h : Nat) (sh pi v : Int32) (σ : gS) (Qp : Option Value → gS → Prop) : Prop :=
  ((g_in sh 0 3 → (∃ j5 : Nat, sh = nI j5 ∧ j5 < 4 ∧ ((((σ 86 j5) : Int32) = 0 → (Qp (some (.int (-11))) σ)) ∧ (¬ ((σ 86 j5) : Int32) = 0 → ((g_in pi 0 ((σ 88 j5) - 1) → ((((σ 87 j5) : Int32) = 0 → (∃ j21 : Nat, ((40 * sh) + pi) = nI j21 ∧ j21 < 160 ∧ (Qp (some (.int 1)) (g_up σ 89 j21 (Int8.toInt32 (Int32.toInt8 v)))))) ∧ (¬ ((σ 87 j5) : Int32) = 0 → (∃ j16 : Nat, ((40 * sh) + pi) = nI j16 ∧ j16 < 160 ∧ (Qp (some (.int 1)) (g_up σ 89 j16 (if ((σ 87 j5) : Int32) = 1 then (Int16.toInt32 (Int32.toInt16 v)) else v))))))) ∧ (¬ g_in pi 0 ((σ 88 j5) - 1) → (Qp (some (.int (-12))) σ))))))) ∧ (¬ g_in sh 0 3 → (Qp (some (.int (-2))) σ)))
set_option maxHeartbeats 4000000 in
set_option maxRecDepth 100000 in
theorem w_X8_cell {h : Nat} (hh : 6 ≤ h) {sh pi v : Int32} {σ : gS} {Qp : Option Value → gS → Prop} (P : P_X8_cell h sh pi v σ Qp) : g_Met yX8_cell cX8_cell 4 (some .int) h kM [.ref 63, .int sh, .int pi, .int v] σ Qp := by
  unfold P_X8_cell at P
  refine g_Met.of (own := 8) (L := [some (.ref 63), some (.int sh), some (.int pi), some (.int v)]) (by decide) rfl rfl (fun ad => Nat.le_of_ble_eq_true rfl) (fun ad => rfl) (fun X G K C => ?_)
  refine V_blk C (pc' := 1) (σ' := σ) (L' := [some (.ref 63), some (.int sh), some (.int pi), some (.int v)]) (st' := [.int sh]) (g_c dX8_cell_0 g_n) rfl rfl ?_
  refine V_callSI C cs_X8_354 (c_X8_isSheet σ sh) (by omega) (by decide) (fun _ h => h) (As := [.int sh]) (rest := []) rfl rfl (Nat.le_of_ble_eq_true rfl) dX8_cell_1 ?_
  refine V_if_ne_b C (tgt := 10) dX8_cell_4 (by decide) (fun h1 => ?_) (fun h1 => ?_)
  · skip
    have p2 := P.1 h1
    refine V_blk C (pc' := 15) (σ' := σ) (L' := [some (.ref 63), some (.int sh), some (.int pi), some (.int v)]) (st' := [.int sh, .ref 86]) (g_c dX8_cell_10 (g_c dX8_cell_11 (g_c dX8_cell_14 g_n))) rfl rfl ?_
    obtain ⟨j5, e6, l4, p3⟩ := p2
    refine V_zaldJ C (j := j5) (k := 86) (n := 4) (by rfl) (by rfl) e6 ⟨(by omega), (by omega)⟩ dX8_cell_15 ?_
    refine V_if_ne C (tgt := 22) dX8_cell_16 (by decide) (fun h7 => ?_) (fun h7 => ?_)
    · skip
      have p8 := p3.2 h7
      refine V_blk C (pc' := 30) (σ' := σ) (L' := [some (.ref 63), some (.int sh), some (.int pi), some (.int v)]) (st' := [.int sh, .ref 88, .long 0, .long (Int32.toInt64 pi)]) (g_c dX8_cell_22 (g_c dX8_cell_23 (g_c dX8_cell_24 (g_c dX8_cell_25 (g_c dX8_cell_26 (g_c dX8_cell_29 g_n)))))) rfl rfl ?_
      refine V_ialdJ C (j := j5) (k := 88) (n := 4) (by rfl) (by rfl) e6 ⟨(by omega), (by omega)⟩ dX8_cell_30 ?_
      refine V_blk C (pc' := 34) (σ' := σ) (L' := [some (.ref 63), some (.int sh), some (.int pi), some (.int v)]) (st' := [.long (Int32.toInt64 ((σ 88 j5) - 1)), .long 0, .long (Int32.toInt64 pi)]) (g_c dX8_cell_31 (g_c dX8_cell_32 (g_c dX8_cell_33 g_n))) rfl rfl ?_
      refine V_callSI C cs_X8_110 (c_X8_in32 σ pi 0 ((σ 88 j5) - 1) (by decide) rfl) (by omega) (by decide) (fun _ h => h) (As := [.long (Int32.toInt64 pi), .long 0, .long (Int32.toInt64 ((σ 88 j5) - 1))]) (rest := []) rfl rfl (Nat.le_of_ble_eq_true rfl) dX8_cell_34 ?_
      refine V_if_ne_b C (tgt := 43) dX8_cell_37 (by decide) (fun h9 => ?_) (fun h9 => ?_)
      · skip
        have p10 := p8.1 h9
        refine V_blk C (pc' := 58) (σ' := σ) (L' := [some (.ref 63), some (.int sh), some (.int pi), some (.int v)]) (st' := [.int sh, .ref 87, .int ((40 * sh) + pi), .ref 89]) (g_c dX8_cell_43 (g_c dX8_cell_44 (g_c dX8_cell_47 (g_c dX8_cell_49 (g_c dX8_cell_50 (g_c dX8_cell_51 (g_c dX8_cell_52 (g_c dX8_cell_53 (g_c dX8_cell_54 (g_c dX8_cell_57 g_n)))))))))) rfl rfl ?_
        refine V_ialdJ C (j := j5) (k := 87) (n := 4) (by rfl) (by rfl) e6 ⟨(by omega), (by omega)⟩ dX8_cell_58 ?_
        refine V_if_ne C (tgt := 67) dX8_cell_59 (by decide) (fun h11 => ?_) (fun h11 => ?_)
        · skip
          have p12 := p10.2 h11
          refine V_blk C (pc' := 72) (σ' := σ) (L' := [some (.ref 63), some (.int sh), some (.int pi), some (.int v)]) (st' := [.int sh, .ref 87, .int ((40 * sh) + pi), .ref 89]) (g_c dX8_cell_67 (g_c dX8_cell_68 (g_c dX8_cell_71 g_n))) rfl rfl ?_
          refine V_ialdJ C (j := j5) (k := 87) (n := 4) (by rfl) (by rfl) e6 ⟨(by omega), (by omega)⟩ dX8_cell_72 ?_
          refine V_blk C (pc' := 74) (σ' := σ) (L' := [some (.ref 63), some (.int sh), some (.int pi), some (.int v)]) (st' := [.int 1, .int (σ 87 j5), .int ((40 * sh) + pi), .ref 89]) (g_c dX8_cell_73 g_n) rfl rfl ?_
          refine V_join (P := ((σ 87 j5) : Int32) = 1) (a := (Int16.toInt32 (Int32.toInt16 v))) (b := v) (pcJ := 83) (rest := [.int ((40 * sh) + pi), .ref 89]) (fun x_ hx_ => ?_) (fun kT kF => ?_)
          · skip
            subst hx_
            obtain ⟨j16, e17, l15, p14⟩ := p12
            refine V_iastJ C (j := j16) (k := 89) (n := 160) (by rfl) (by rfl) e17 ⟨(by omega), (by omega)⟩ dX8_cell_83 ?_
            refine V_blk C (pc' := 85) (σ' := (g_up σ 89 j16 (if ((σ 87 j5) : Int32) = 1 then (Int16.toInt32 (Int32.toInt16 v)) else v))) (L' := [some (.ref 63), some (.int sh), some (.int pi), some (.int v)]) (st' := [.int 1]) (g_c dX8_cell_84 g_n) rfl rfl ?_
            refine V_iret C dX8_cell_85 ?_
            exact p14
          · refine V_icmp_ne C (tgt := 82) dX8_cell_74 (by decide) (fun h13 => ?_) (fun h13 => ?_)
            · skip
              refine V_blk C (pc' := 83) (σ' := σ) (L' := [some (.ref 63), some (.int sh), some (.int pi), some (.int v)]) (st' := [.int v, .int ((40 * sh) + pi), .ref 89]) (g_c dX8_cell_82 g_n) rfl rfl ?_
              exact kF h13
            · skip
              refine V_blk C (pc' := 79) (σ' := σ) (L' := [some (.ref 63), some (.int sh), some (.int pi), some (.int v)]) (st' := [.int (Int16.toInt32 (Int32.toInt16 v)), .int ((40 * sh) + pi), .ref 89]) (g_c dX8_cell_77 (g_c dX8_cell_78 g_n)) rfl rfl ?_
              refine V_goto C (tgt := 83) dX8_cell_79 (by decide) ?_
              exact kT h13
        · skip
          have p18 := p10.1 h11
          refine V_blk C (pc' := 64) (σ' := σ) (L' := [some (.ref 63), some (.int sh), some (.int pi), some (.int v)]) (st' := [.int (Int8.toInt32 (Int32.toInt8 v)), .int ((40 * sh) + pi), .ref 89]) (g_c dX8_cell_62 (g_c dX8_cell_63 g_n)) rfl rfl ?_
          refine V_goto C (tgt := 83) dX8_cell_64 (by decide) ?_
          obtain ⟨j21, e22, l20, p19⟩ := p18
          refine V_iastJ C (j := j21) (k := 89) (n := 160) (by rfl) (by rfl) e22 ⟨(by omega), (by omega)⟩ dX8_cell_83 ?_
          refine V_blk C (pc' := 85) (σ' := (g_up σ 89 j21 (Int8.toInt32 (Int32.toInt8 v)))) (L' := [some (.ref 63), some (.int sh), some (.int pi), some (.int v)]) (st' := [.int 1]) (g_c dX8_cell_84 g_n) rfl rfl ?_
          refine V_iret C dX8_cell_85 ?_
          exact p19
      · skip
        have p23 := p8.2 h9
        refine V_blk C (pc' := 42) (σ' := σ) (L' := [some (.ref 63), some (.int sh), some (.int pi), some (.int v)]) (st' := [.int (-12)]) (g_c dX8_cell_40 g_n) rfl rfl ?_
        refine V_iret C dX8_cell_42 ?_
        exact p23
    · skip
      have p24 := p3.1 h7
      refine V_blk C (pc' := 21) (σ' := σ) (L' := [some (.ref 63), some (.int sh), some (.int pi), some (.int v)]) (st' := [.int (-11)]) (g_c dX8_cell_19 g_n) rfl rfl ?_
      refine V_iret C dX8_cell_21 ?_
      exact p24
  · skip
    have p25 := P.2 h1
    refine V_blk C (pc' := 9) (σ' := σ) (L' := [some (.ref 63), some (.int sh), some (.int pi), some (.int v)]) (st' := [.int (-2)]) (g_c dX8_cell_7 g_n) rfl rfl ?_
    refine V_iret C dX8_cell_9 ?_
    exact p25
set_option maxRecDepth 100000 in
def P_X7_taken (h : Nat) (d k : Int32) (σ : gS) (Qp : Option Value → gS → Prop) : Prop :=
  ((g_in k 0 5 → ((g_in d 0 ((σ 1 8) - 1) → (∃ j7 : Nat, d = nI j7 ∧ j7 < 6 ∧ (g_call yX7_isUnder cX7_isUnder 4 (some .boolean) kX h [.int (σ 3 j7), .int k] σ (fun rv s9 => ∃ r11 : Int32, rv = some (.int r11) ∧ (Qp (some (.int (if (r11 : Int32) = 0 then (-13) else (s9 4 j7)))) s9))))) ∧ (¬ g_in d 0 ((σ 1 8) - 1) → (Qp (some (.int (-11))) σ)))) ∧ (¬ g_in k 0 5 → (Qp (some (.int (-2))) σ)))
set_option maxHeartbeats 4000000 in
set_option maxRecDepth 100000 in
theorem w_X7_taken {h : Nat} (hh : 6 ≤ h) {d k : Int32} {σ : gS} {Qp : Option Value → gS → Prop} (P : P_X7_taken h d k σ Qp) : g_Met yX7_taken cX7_taken 3 (some .int) h kX [.ref 0, .int d, .int k] σ Qp := by
  unfold P_X7_taken at P
  refine g_Met.of (own := 7) (L := [some (.ref 0), some (.int d), some (.int k)]) (by decide) rfl rfl (fun ad => Nat.le_of_ble_eq_true rfl) (fun ad => rfl) (fun X G K C => ?_)
  refine V_blk C (pc' := 1) (σ' := σ) (L' := [some (.ref 0), some (.int d), some (.int k)]) (st' := [.int k]) (g_c dX7_taken_0 g_n) rfl rfl ?_
  refine V_callSI C cs_X7_116 (c_X7_isKind σ k) (by omega) (by decide) (fun _ h => h) (As := [.int k]) (rest := []) rfl rfl (Nat.le_of_ble_eq_true rfl) dX7_taken_1 ?_
  refine V_if_ne_b C (tgt := 10) dX7_taken_4 (by decide) (fun h1 => ?_) (fun h1 => ?_)
  · skip
    have p2 := P.1 h1
    refine V_blk C (pc' := 12) (σ' := σ) (L' := [some (.ref 0), some (.int d), some (.int k)]) (st' := [.int d, .ref 0]) (g_c dX7_taken_10 (g_c dX7_taken_11 g_n)) rfl rfl ?_
    refine V_callVI C cv_X7_101 (c_X7_isDrip σ d) ⟨_, _, _, _, rfl, rfl⟩ (by rfl) (by omega) (by decide) (fun _ h => h) (As := [.int d]) (rest := []) rfl rfl (Nat.le_of_ble_eq_true rfl) dX7_taken_12 ?_
    refine V_if_ne_b C (tgt := 21) dX7_taken_15 (by decide) (fun h3 => ?_) (fun h3 => ?_)
    · skip
      have p4 := p2.1 h3
      refine V_blk C (pc' := 29) (σ' := σ) (L' := [some (.ref 0), some (.int d), some (.int k)]) (st' := [.int d, .ref 3]) (g_c dX7_taken_21 (g_c dX7_taken_22 (g_c dX7_taken_25 (g_c dX7_taken_28 g_n)))) rfl rfl ?_
      obtain ⟨j7, e8, l6, p5⟩ := p4
      refine V_ialdJ C (j := j7) (k := 3) (n := 6) (by rfl) (by rfl) e8 ⟨(by omega), (by omega)⟩ dX7_taken_29 ?_
      refine V_blk C (pc' := 31) (σ' := σ) (L' := [some (.ref 0), some (.int d), some (.int k)]) (st' := [.int k, .int (σ 3 j7)]) (g_c dX7_taken_30 g_n) rfl rfl ?_
      refine V_gS C cs_X7_287 p5 (by decide) (As := [.int (σ 3 j7), .int k]) (rest := []) rfl rfl (Nat.le_of_ble_eq_true rfl) dX7_taken_31 (fun rv s9 hq => ?_)
      obtain ⟨r11, rfl, p10⟩ := hq
      refine V_join (P := (r11 : Int32) = 0) (a := (-13)) (b := (s9 4 j7)) (pcJ := 51) (rest := []) (fun x_ hx_ => ?_) (fun kT kF => ?_)
      · skip
        subst hx_
        refine V_iret C dX7_taken_51 ?_
        exact p10
      · refine V_if_eq C (tgt := 49) dX7_taken_34 (by decide) (fun h12 => ?_) (fun h12 => ?_)
        · skip
          refine V_blk C (pc' := 51) (σ' := s9) (L' := [some (.ref 0), some (.int d), some (.int k)]) (st' := [.int (-13)]) (g_c dX7_taken_49 g_n) rfl rfl ?_
          exact kT h12
        · skip
          refine V_blk C (pc' := 45) (σ' := s9) (L' := [some (.ref 0), some (.int d), some (.int k)]) (st' := [.int d, .ref 4]) (g_c dX7_taken_37 (g_c dX7_taken_38 (g_c dX7_taken_41 (g_c dX7_taken_44 g_n)))) rfl rfl ?_
          refine V_ialdJ C (j := j7) (k := 4) (n := 6) (by rfl) (by rfl) e8 ⟨(by omega), (by omega)⟩ dX7_taken_45 ?_
          refine V_goto C (tgt := 51) dX7_taken_46 (by decide) ?_
          exact kF h12
    · skip
      have p13 := p2.2 h3
      refine V_blk C (pc' := 20) (σ' := σ) (L' := [some (.ref 0), some (.int d), some (.int k)]) (st' := [.int (-11)]) (g_c dX7_taken_18 g_n) rfl rfl ?_
      refine V_iret C dX7_taken_20 ?_
      exact p13
  · skip
    have p14 := P.2 h1
    refine V_blk C (pc' := 9) (σ' := σ) (L' := [some (.ref 0), some (.int d), some (.int k)]) (st' := [.int (-2)]) (g_c dX7_taken_7 g_n) rfl rfl ?_
    refine V_iret C dX7_taken_9 ?_
    exact p14
set_option maxRecDepth 100000 in
def P_X8_taken (h : Nat) (d k : Int32) (σ : gS) (Qp : Option Value → gS → Prop) : Prop :=
  ((g_in k 0 5 → ((g_in d 0 ((σ 63 15) - 1) → (∃ j7 : Nat, d = nI j7 ∧ j7 < 6 ∧ (∃ I10 : Nat → Int32 → gS → Prop, (∃ k15 : Nat, I10 k15 (σ 68 j7) σ) ∧ ∀ (k12 : Nat) (v9 : Int32) (s18 : gS), I10 k12 v9 s18 → (((v9 : Int32) = (-1) → (Qp (some (.int (if (v9 : Int32) = k then (s18 69 j7) else (-13)))) s18)) ∧ (¬ (v9 : Int32) = (-1) → (((v9 : Int32) = k → (Qp (some (.int (s18 69 j7))) s18)) ∧ (¬ (v9 : Int32) = k → (g_call yX8_over cX8_over 1 (some .int) kM h [.int v9] s18 (fun rv s28 => ∃ r30 : Int32, rv = some (.int r30) ∧ (∃ k31 : Nat, k31 < k12 ∧ I10 k31 r30 s28)))))))))) ∧ (¬ g_in d 0 ((σ 63 15) - 1) → (Qp (some (.int (-11))) σ)))) ∧ (¬ g_in k 0 5 → (Qp (some (.int (-2))) σ)))
set_option maxHeartbeats 4000000 in
set_option maxRecDepth 100000 in
theorem w_X8_taken {h : Nat} (hh : 6 ≤ h) {d k : Int32} {σ : gS} {Qp : Option Value → gS → Prop} (P : P_X8_taken h d k σ Qp) : g_Met yX8_taken cX8_taken 4 (some .int) h kM [.ref 63, .int d, .int k] σ Qp := by
  unfold P_X8_taken at P
  refine g_Met.of (own := 8) (L := [some (.ref 63), some (.int d), some (.int k), none]) (by decide) rfl rfl (fun ad => Nat.le_of_ble_eq_true rfl) (fun ad => rfl) (fun X G K C => ?_)
  refine V_blk C (pc' := 6) (σ' := σ) (L' := [some (.ref 63), some (.int d), some (.int k), none]) (st' := [.long 5, .long 0, .long (Int32.toInt64 k)]) (g_c dX8_taken_0 (g_c dX8_taken_1 (g_c dX8_taken_2 (g_c dX8_taken_3 g_n)))) rfl rfl ?_
  refine V_callSI C cs_X8_110 (c_X8_in32 σ k 0 5 (by decide) (by decide)) (by omega) (by decide) (fun _ h => h) (As := [.long (Int32.toInt64 k), .long 0, .long 5]) (rest := []) rfl rfl (Nat.le_of_ble_eq_true rfl) dX8_taken_6 ?_
  refine V_if_ne_b C (tgt := 15) dX8_taken_9 (by decide) (fun h1 => ?_) (fun h1 => ?_)
  · skip
    have p2 := P.1 h1
    refine V_blk C (pc' := 17) (σ' := σ) (L' := [some (.ref 63), some (.int d), some (.int k), none]) (st' := [.int d, .ref 63]) (g_c dX8_taken_15 (g_c dX8_taken_16 g_n)) rfl rfl ?_
    refine V_callVI C cv_X8_127 (c_X8_isDrip σ d) ⟨_, _, _, _, rfl, rfl⟩ (by rfl) (by omega) (by decide) (fun _ h => h) (As := [.int d]) (rest := []) rfl rfl (Nat.le_of_ble_eq_true rfl) dX8_taken_17 ?_
    refine V_if_ne_b C (tgt := 26) dX8_taken_20 (by decide) (fun h3 => ?_) (fun h3 => ?_)
    · skip
      have p4 := p2.1 h3
      refine V_blk C (pc' := 31) (σ' := σ) (L' := [some (.ref 63), some (.int d), some (.int k), none]) (st' := [.int d, .ref 68]) (g_c dX8_taken_26 (g_c dX8_taken_27 (g_c dX8_taken_30 g_n))) rfl rfl ?_
      obtain ⟨j7, e8, l6, p5⟩ := p4
      refine V_ialdJ C (j := j7) (k := 68) (n := 6) (by rfl) (by rfl) e8 ⟨(by omega), (by omega)⟩ dX8_taken_31 ?_
      refine V_blk C (pc' := 33) (σ' := σ) (L' := [some (.ref 63), some (.int d), some (.int k), some (.int (σ 68 j7))]) (st' := []) (g_c dX8_taken_32 g_n) rfl rfl ?_
      obtain ⟨I10, ⟨k15, hI17⟩, hS14⟩ := p5
      have lp16 : ∀ (k12 : Nat) (v9 : Int32) (s18 : gS), I10 k12 v9 s18 → gV X G K 4 Qp s18 [some (.ref 63), some (.int d), some (.int k), some (.int v9)] [] 33 := by
        intro k12
        induction k12 using Nat.strongRecOn with
        | ind k12 ih11 =>
          intro v9 s18 hI13
          have p19 := hS14 k12 v9 s18 hI13
          refine V_blk C (pc' := 35) (σ' := s18) (L' := [some (.ref 63), some (.int d), some (.int k), some (.int v9)]) (st' := [.int (-1), .int v9]) (g_c dX8_taken_33 (g_c dX8_taken_34 g_n)) rfl rfl ?_
          refine V_icmp_eq C (tgt := 51) dX8_taken_35 (by decide) (fun h20 => ?_) (fun h20 => ?_)
          · skip
            have p21 := p19.1 h20
            refine V_blk C (pc' := 53) (σ' := s18) (L' := [some (.ref 63), some (.int d), some (.int k), some (.int v9)]) (st' := [.int k, .int v9]) (g_c dX8_taken_51 (g_c dX8_taken_52 g_n)) rfl rfl ?_
            refine V_join (P := (v9 : Int32) = k) (a := (s18 69 j7)) (b := (-13)) (pcJ := 67) (rest := []) (fun x_ hx_ => ?_) (fun kT kF => ?_)
            · skip
              subst hx_
              refine V_iret C dX8_taken_67 ?_
              exact p21
            · refine V_icmp_ne C (tgt := 65) dX8_taken_53 (by decide) (fun h22 => ?_) (fun h22 => ?_)
              · skip
                refine V_blk C (pc' := 67) (σ' := s18) (L' := [some (.ref 63), some (.int d), some (.int k), some (.int v9)]) (st' := [.int (-13)]) (g_c dX8_taken_65 g_n) rfl rfl ?_
                exact kF h22
              · skip
                refine V_blk C (pc' := 61) (σ' := s18) (L' := [some (.ref 63), some (.int d), some (.int k), some (.int v9)]) (st' := [.int d, .ref 69]) (g_c dX8_taken_56 (g_c dX8_taken_57 (g_c dX8_taken_60 g_n))) rfl rfl ?_
                refine V_ialdJ C (j := j7) (k := 69) (n := 6) (by rfl) (by rfl) e8 ⟨(by omega), (by omega)⟩ dX8_taken_61 ?_
                refine V_goto C (tgt := 67) dX8_taken_62 (by decide) ?_
                exact kT h22
          · skip
            have p23 := p19.2 h20
            refine V_blk C (pc' := 40) (σ' := s18) (L' := [some (.ref 63), some (.int d), some (.int k), some (.int v9)]) (st' := [.int k, .int v9]) (g_c dX8_taken_38 (g_c dX8_taken_39 g_n)) rfl rfl ?_
            refine V_icmp_eq C (tgt := 51) dX8_taken_40 (by decide) (fun h24 => ?_) (fun h24 => ?_)
            · skip
              have p25 := p23.1 h24
              refine V_blk C (pc' := 53) (σ' := s18) (L' := [some (.ref 63), some (.int d), some (.int k), some (.int v9)]) (st' := [.int k, .int v9]) (g_c dX8_taken_51 (g_c dX8_taken_52 g_n)) rfl rfl ?_
              refine V_icmp_ne C (tgt := 65) dX8_taken_53 (by decide) (fun h26 => absurd h24 h26) (fun h26 => ?_)
              refine V_blk C (pc' := 61) (σ' := s18) (L' := [some (.ref 63), some (.int d), some (.int k), some (.int v9)]) (st' := [.int d, .ref 69]) (g_c dX8_taken_56 (g_c dX8_taken_57 (g_c dX8_taken_60 g_n))) rfl rfl ?_
              refine V_ialdJ C (j := j7) (k := 69) (n := 6) (by rfl) (by rfl) e8 ⟨(by omega), (by omega)⟩ dX8_taken_61 ?_
              refine V_goto C (tgt := 67) dX8_taken_62 (by decide) ?_
              refine V_iret C dX8_taken_67 ?_
              exact p25
            · skip
              have p27 := p23.2 h24
              refine V_blk C (pc' := 44) (σ' := s18) (L' := [some (.ref 63), some (.int d), some (.int k), some (.int v9)]) (st' := [.int v9]) (g_c dX8_taken_43 g_n) rfl rfl ?_
              refine V_gS C cs_X8_396 p27 (by decide) (As := [.int v9]) (rest := []) rfl rfl (Nat.le_of_ble_eq_true rfl) dX8_taken_44 (fun rv s28 hq => ?_)
              obtain ⟨r30, rfl, p29⟩ := hq
              refine V_blk C (pc' := 48) (σ' := s28) (L' := [some (.ref 63), some (.int d), some (.int k), some (.int r30)]) (st' := []) (g_c dX8_taken_47 g_n) rfl rfl ?_
              refine V_goto C (tgt := 33) dX8_taken_48 (by decide) ?_
              obtain ⟨k31, hkk31, hIk31⟩ := p29
              exact ih11 k31 hkk31 r30 s28 hIk31
      exact lp16 k15 (σ 68 j7) σ hI17
    · skip
      have p32 := p2.2 h3
      refine V_blk C (pc' := 25) (σ' := σ) (L' := [some (.ref 63), some (.int d), some (.int k), none]) (st' := [.int (-11)]) (g_c dX8_taken_23 g_n) rfl rfl ?_
      refine V_iret C dX8_taken_25 ?_
      exact p32
  · skip
    have p33 := P.2 h1
    refine V_blk C (pc' := 14) (σ' := σ) (L' := [some (.ref 63), some (.int d), some (.int k), none]) (st' := [.int (-2)]) (g_c dX8_taken_12 g_n) rfl rfl ?_
    refine V_iret C dX8_taken_14 ?_
    exact p33
