/-! put of the reference -/
set_option maxRecDepth 100000 in
def P_X8_put (h : Nat) (ve pl : Int32) (σ : gS) (Qp : Option Value → gS → Prop) : Prop :=
  ((g_in ve 0 ((σ 63 19) - 1) → (∃ J4 : Prop, (((pl : Int32) = (-1) → (J4)) ∧ (¬ (pl : Int32) = (-1) → ((g_in pl 0 7 → (J4)) ∧ (¬ g_in pl 0 7 → (Qp (some (.int (-2))) σ))))) ∧ (J4 → (∃ J12 : Int32 → gS → Prop, (((pl : Int32) = (-1) → (J12 (-1) σ)) ∧ (¬ (pl : Int32) = (-1) → (g_call yX8_vesselOn cX8_vesselOn 3 (some .int) kM h [.ref 63, .int pl] σ (fun rv s34 => ∃ r36 : Int32, rv = some (.int r36) ∧ (J12 r36 s34))))) ∧ ∀ (v10 : Int32) (s11 : gS), J12 v10 s11 → (((v10 : Int32) = (-1) → (∃ j22 : Nat, ve = nI j22 ∧ j22 < 5 ∧ (Qp (some (.int (s11 73 j22))) (g_up s11 73 j22 pl)))) ∧ (¬ (v10 : Int32) = (-1) → (((v10 : Int32) = ve → (∃ j29 : Nat, ve = nI j29 ∧ j29 < 5 ∧ (Qp (some (.int (s11 73 j29))) (g_up s11 73 j29 pl)))) ∧ (¬ (v10 : Int32) = ve → (Qp (some (.int (-3))) s11))))))))) ∧ (¬ g_in ve 0 ((σ 63 19) - 1) → (Qp (some (.int (-2))) σ)))
set_option maxHeartbeats 4000000 in
set_option maxRecDepth 100000 in
theorem w_X8_put {h : Nat} (hh : 6 ≤ h) {ve pl : Int32} {σ : gS} {Qp : Option Value → gS → Prop} (P : P_X8_put h ve pl σ Qp) : g_Met yX8_put cX8_put 5 (some .int) h kM [.ref 63, .int ve, .int pl] σ Qp := by
  unfold P_X8_put at P
  refine g_Met.of (own := 8) (L := [some (.ref 63), some (.int ve), some (.int pl), none, none]) (by decide) rfl rfl (fun ad => Nat.le_of_ble_eq_true rfl) (fun ad => rfl) (fun X G K C => ?_)
  refine V_blk C (pc' := 2) (σ' := σ) (L' := [some (.ref 63), some (.int ve), some (.int pl), none, none]) (st' := [.int ve, .ref 63]) (g_c dX8_put_0 (g_c dX8_put_1 g_n)) rfl rfl ?_
  refine V_callVI C cv_X8_147 (c_X8_isVessel σ ve) ⟨_, _, _, _, rfl, rfl⟩ (by rfl) (by omega) (by decide) (fun _ h => h) (As := [.int ve]) (rest := []) rfl rfl (Nat.le_of_ble_eq_true rfl) dX8_put_2 ?_
  refine V_if_eq_b C (tgt := 20) dX8_put_5 (by decide) (fun h1 => ?_) (fun h1 => ?_)
  · skip
    have p2 := P.2 h1
    refine V_blk C (pc' := 22) (σ' := σ) (L' := [some (.ref 63), some (.int ve), some (.int pl), none, none]) (st' := [.int (-2)]) (g_c dX8_put_20 g_n) rfl rfl ?_
    refine V_iret C dX8_put_22 ?_
    exact p2
  · skip
    have p3 := P.1 h1
    refine V_blk C (pc' := 10) (σ' := σ) (L' := [some (.ref 63), some (.int ve), some (.int pl), none, none]) (st' := [.int (-1), .int pl]) (g_c dX8_put_8 (g_c dX8_put_9 g_n)) rfl rfl ?_
    obtain ⟨J4, p6, p7⟩ := p3
    have jn5 : ∀ (_ : J4 ), gV X G K 5 Qp σ [some (.ref 63), some (.int ve), some (.int pl), none, none] [] 23 := by
      intro  hJ8
      have p9 := p7  hJ8
      refine V_blk C (pc' := 25) (σ' := σ) (L' := [some (.ref 63), some (.int ve), some (.int pl), none, none]) (st' := [.int (-1), .int pl]) (g_c dX8_put_23 (g_c dX8_put_24 g_n)) rfl rfl ?_
      obtain ⟨J12, p14, p15⟩ := p9
      have jn13 : ∀ (v10 : Int32) (s11 : gS) (_ : J12 v10 s11), gV X G K 5 Qp s11 [some (.ref 63), some (.int ve), some (.int pl), none, none] [.int v10] 37 := by
        intro v10 s11 hJ16
        have p17 := p15 v10 s11 hJ16
        refine V_blk C (pc' := 40) (σ' := s11) (L' := [some (.ref 63), some (.int ve), some (.int pl), some (.int v10), none]) (st' := [.int (-1), .int v10]) (g_c dX8_put_37 (g_c dX8_put_38 (g_c dX8_put_39 g_n))) rfl rfl ?_
        refine V_icmp_eq C (tgt := 51) dX8_put_40 (by decide) (fun h18 => ?_) (fun h18 => ?_)
        · skip
          have p19 := p17.1 h18
          refine V_blk C (pc' := 56) (σ' := s11) (L' := [some (.ref 63), some (.int ve), some (.int pl), some (.int v10), none]) (st' := [.int ve, .ref 73]) (g_c dX8_put_51 (g_c dX8_put_52 (g_c dX8_put_55 g_n))) rfl rfl ?_
          obtain ⟨j22, e23, l21, p20⟩ := p19
          refine V_ialdJ C (j := j22) (k := 73) (n := 5) (by rfl) (by rfl) e23 ⟨(by omega), (by omega)⟩ dX8_put_56 ?_
          refine V_blk C (pc' := 65) (σ' := s11) (L' := [some (.ref 63), some (.int ve), some (.int pl), some (.int v10), some (.int (s11 73 j22))]) (st' := [.int pl, .int ve, .ref 73]) (g_c dX8_put_57 (g_c dX8_put_59 (g_c dX8_put_60 (g_c dX8_put_63 (g_c dX8_put_64 g_n))))) rfl rfl ?_
          refine V_iastJ C (j := j22) (k := 73) (n := 5) (by rfl) (by rfl) e23 ⟨(by omega), (by omega)⟩ dX8_put_65 ?_
          refine V_blk C (pc' := 68) (σ' := (g_up s11 73 j22 pl)) (L' := [some (.ref 63), some (.int ve), some (.int pl), some (.int v10), some (.int (s11 73 j22))]) (st' := [.int (s11 73 j22)]) (g_c dX8_put_66 g_n) rfl rfl ?_
          refine V_iret C dX8_put_68 ?_
          exact p20
        · skip
          have p24 := p17.2 h18
          refine V_blk C (pc' := 45) (σ' := s11) (L' := [some (.ref 63), some (.int ve), some (.int pl), some (.int v10), none]) (st' := [.int ve, .int v10]) (g_c dX8_put_43 (g_c dX8_put_44 g_n)) rfl rfl ?_
          refine V_icmp_eq C (tgt := 51) dX8_put_45 (by decide) (fun h25 => ?_) (fun h25 => ?_)
          · skip
            have p26 := p24.1 h25
            refine V_blk C (pc' := 56) (σ' := s11) (L' := [some (.ref 63), some (.int ve), some (.int pl), some (.int v10), none]) (st' := [.int ve, .ref 73]) (g_c dX8_put_51 (g_c dX8_put_52 (g_c dX8_put_55 g_n))) rfl rfl ?_
            obtain ⟨j29, e30, l28, p27⟩ := p26
            refine V_ialdJ C (j := j29) (k := 73) (n := 5) (by rfl) (by rfl) e30 ⟨(by omega), (by omega)⟩ dX8_put_56 ?_
            refine V_blk C (pc' := 65) (σ' := s11) (L' := [some (.ref 63), some (.int ve), some (.int pl), some (.int v10), some (.int (s11 73 j29))]) (st' := [.int pl, .int ve, .ref 73]) (g_c dX8_put_57 (g_c dX8_put_59 (g_c dX8_put_60 (g_c dX8_put_63 (g_c dX8_put_64 g_n))))) rfl rfl ?_
            refine V_iastJ C (j := j29) (k := 73) (n := 5) (by rfl) (by rfl) e30 ⟨(by omega), (by omega)⟩ dX8_put_65 ?_
            refine V_blk C (pc' := 68) (σ' := (g_up s11 73 j29 pl)) (L' := [some (.ref 63), some (.int ve), some (.int pl), some (.int v10), some (.int (s11 73 j29))]) (st' := [.int (s11 73 j29)]) (g_c dX8_put_66 g_n) rfl rfl ?_
            refine V_iret C dX8_put_68 ?_
            exact p27
          · skip
            have p31 := p24.2 h25
            refine V_blk C (pc' := 50) (σ' := s11) (L' := [some (.ref 63), some (.int ve), some (.int pl), some (.int v10), none]) (st' := [.int (-3)]) (g_c dX8_put_48 g_n) rfl rfl ?_
            refine V_iret C dX8_put_50 ?_
            exact p31
      refine V_icmp_ne C (tgt := 32) dX8_put_25 (by decide) (fun h32 => ?_) (fun h32 => ?_)
      · skip
        have p33 := p14.2 h32
        refine V_blk C (pc' := 34) (σ' := σ) (L' := [some (.ref 63), some (.int ve), some (.int pl), none, none]) (st' := [.int pl, .ref 63]) (g_c dX8_put_32 (g_c dX8_put_33 g_n)) rfl rfl ?_
        refine V_gV C cv_X8_150 p33 ⟨_, _, _, _, rfl, rfl⟩ (by rfl) (by decide) (As := [.int pl]) (rest := []) rfl rfl (Nat.le_of_ble_eq_true rfl) dX8_put_34 (fun rv s34 hq => ?_)
        obtain ⟨r36, rfl, p35⟩ := hq
        exact jn13 r36 s34 p35
      · skip
        have p37 := p14.1 h32
        refine V_blk C (pc' := 29) (σ' := σ) (L' := [some (.ref 63), some (.int ve), some (.int pl), none, none]) (st' := [.int (-1)]) (g_c dX8_put_28 g_n) rfl rfl ?_
        refine V_goto C (tgt := 37) dX8_put_29 (by decide) ?_
        exact jn13 (-1) σ p37
    refine V_icmp_eq C (tgt := 23) dX8_put_10 (by decide) (fun h38 => ?_) (fun h38 => ?_)
    · skip
      have p39 := p6.1 h38
      exact jn5 p39
    · skip
      have p40 := p6.2 h38
      refine V_blk C (pc' := 14) (σ' := σ) (L' := [some (.ref 63), some (.int ve), some (.int pl), none, none]) (st' := [.int pl]) (g_c dX8_put_13 g_n) rfl rfl ?_
      refine V_callSI C cs_X8_144 (c_X8_isPlace σ pl) (by omega) (by decide) (fun _ h => h) (As := [.int pl]) (rest := []) rfl rfl (Nat.le_of_ble_eq_true rfl) dX8_put_14 ?_
      refine V_if_ne_b C (tgt := 23) dX8_put_17 (by decide) (fun h41 => ?_) (fun h41 => ?_)
      · skip
        have p42 := p40.1 h41
        exact jn5 p42
      · skip
        have p43 := p40.2 h41
        refine V_blk C (pc' := 22) (σ' := σ) (L' := [some (.ref 63), some (.int ve), some (.int pl), none, none]) (st' := [.int (-2)]) (g_c dX8_put_20 g_n) rfl rfl ?_
        refine V_iret C dX8_put_22 ?_
        exact p43
