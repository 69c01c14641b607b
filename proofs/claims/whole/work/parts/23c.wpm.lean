set_option maxRecDepth 100000 in
def P_X8_byteAt (h : Nat) (i : Int32) (σ : gS) (Qp : Option Value → gS → Prop) : Prop :=
  (((i : Int32) < (σ 63 27) → (∃ j6 : Nat, ((σ 63 26) + i) = nI j6 ∧ j6 < 960 ∧ (Qp (some (.int (σ 64 j6))) σ))) ∧ (¬ (i : Int32) < (σ 63 27) → (Qp (some (.int (-1))) σ)))
set_option maxHeartbeats 4000000 in
set_option maxRecDepth 100000 in
theorem w_X8_byteAt {h : Nat} (hh : 6 ≤ h) {i : Int32} {σ : gS} {Qp : Option Value → gS → Prop} (P : P_X8_byteAt h i σ Qp) : g_Met yX8_byteAt cX8_byteAt 2 (some .int) h kM [.ref 63, .int i] σ Qp := by
  unfold P_X8_byteAt at P
  refine g_Met.of (own := 8) (L := [some (.ref 63), some (.int i)]) (by decide) rfl rfl (fun ad => Nat.le_of_ble_eq_true rfl) (fun ad => rfl) (fun X G K C => ?_)
  refine V_blk C (pc' := 5) (σ' := σ) (L' := [some (.ref 63), some (.int i)]) (st' := [.int (σ 63 27), .int i]) (g_c dX8_byteAt_0 (g_c dX8_byteAt_1 (g_c dX8_byteAt_2 g_n))) rfl rfl ?_
  refine V_icmp_ge2 C (tgt := 22) dX8_byteAt_5 (by decide) (fun h1 => ?_) (fun h1 => ?_)
  · skip
    have p2 := P.2 h1
    refine V_blk C (pc' := 23) (σ' := σ) (L' := [some (.ref 63), some (.int i)]) (st' := [.int (-1)]) (g_c dX8_byteAt_22 g_n) rfl rfl ?_
    refine V_iret C dX8_byteAt_23 ?_
    exact p2
  · skip
    have p3 := P.1 h1
    refine V_blk C (pc' := 18) (σ' := σ) (L' := [some (.ref 63), some (.int i)]) (st' := [.int ((σ 63 26) + i), .ref 64]) (g_c dX8_byteAt_8 (g_c dX8_byteAt_9 (g_c dX8_byteAt_12 (g_c dX8_byteAt_13 (g_c dX8_byteAt_16 (g_c dX8_byteAt_17 g_n)))))) rfl rfl ?_
    obtain ⟨j6, e7, l5, p4⟩ := p3
    refine V_ialdJ C (j := j6) (k := 64) (n := 960) (by rfl) (by rfl) e7 ⟨(by omega), (by omega)⟩ dX8_byteAt_18 ?_
    refine V_goto C (tgt := 23) dX8_byteAt_19 (by decide) ?_
    refine V_iret C dX8_byteAt_23 ?_
    exact p4
set_option maxRecDepth 100000 in
def P_X8_next (h : Nat)  (σ : gS) (Qp : Option Value → gS → Prop) : Prop :=
  (∃ I1 : Nat → gS → Prop, (∃ k6 : Nat, I1 k6 σ) ∧ ∀ (k3 : Nat)  (s9 : gS), I1 k3 s9 → (g_call yX8_byteAt cX8_byteAt 2 (some .int) kM h [.ref 63, .int (s9 63 28)] s9 (fun rv s11 => ∃ r13 : Int32, rv = some (.int r13) ∧ (((r13 : Int32) = 32 → (∃ k16 : Nat, k16 < k3 ∧ I1 k16 (g_up s11 63 28 ((s11 63 28) + 1)))) ∧ (¬ (r13 : Int32) = 32 → (g_call yX8_byteAt cX8_byteAt 2 (some .int) kM h [.ref 63, .int (s11 63 28)] s11 (fun rv s18 => ∃ r20 : Int32, rv = some (.int r20) ∧ (((r20 : Int32) = 10 → (∃ k136 : Nat, k136 < k3 ∧ I1 k136 (g_up s18 63 28 ((s18 63 28) + 1)))) ∧ (¬ (r20 : Int32) = 10 → (g_call yX8_byteAt cX8_byteAt 2 (some .int) kM h [.ref 63, .int (s18 63 28)] (g_up s18 63 30 (s18 63 28)) (fun rv s23 => ∃ r25 : Int32, rv = some (.int r25) ∧ (((r25 : Int32) < 0 → (Qp none (g_up (g_up (g_up s23 63 29 4) 63 29 0) 63 30 (s23 63 27)))) ∧ (¬ (r25 : Int32) < 0 → ((g_in r25 97 122 → (∃ I117 : Nat → gS → Prop, (∃ k122 : Nat, I117 k122 (g_up (g_up s23 63 29 4) 63 29 1)) ∧ ∀ (k119 : Nat)  (s125 : gS), I117 k119 s125 → (g_call yX8_byteAt cX8_byteAt 2 (some .int) kM h [.ref 63, .int (s125 63 28)] s125 (fun rv s127 => ∃ r129 : Int32, rv = some (.int r129) ∧ ((g_in r129 97 122 → (∃ k133 : Nat, k133 < k119 ∧ I117 k133 (g_up s127 63 28 ((s127 63 28) + 1)))) ∧ (¬ g_in r129 97 122 → (Qp none s127))))))) ∧ (¬ g_in r25 97 122 → ((g_in r25 48 57 → (∃ x81 : Int32, 0 = Int32.toInt64 x81 ∧ (∃ I85 : Nat → Int32 → gS → Prop, (∃ k90 : Nat, I85 k90 0 (g_up (g_up (g_up s23 63 29 4) 63 29 2) 63 31 x81)) ∧ ∀ (k87 : Nat) (v84 : Int32) (s93 : gS), I85 k87 v84 s93 → (g_call yX8_byteAt cX8_byteAt 2 (some .int) kM h [.ref 63, .int (s93 63 28)] s93 (fun rv s95 => ∃ r97 : Int32, rv = some (.int r97) ∧ ((g_in r97 48 57 → (((v84 : Int32) < 4 → (g_call yX8_byteAt cX8_byteAt 2 (some .int) kM h [.ref 63, .int (s95 63 28)] s95 (fun rv s109 => ∃ r111 : Int32, rv = some (.int r111) ∧ (∃ x112 : Int32, (((10 * (Int32.toInt64 (s95 63 31))) + (Int32.toInt64 r111)) - 48) = Int32.toInt64 x112 ∧ (∃ k115 : Nat, k115 < k87 ∧ I85 k115 (v84 + 1) (g_up (g_up s109 63 31 x112) 63 28 ((s109 63 28) + 1))))))) ∧ (¬ (v84 : Int32) < 4 → (∃ x104 : Int32, (Int32.toInt64 (s95 63 31)) = Int32.toInt64 x104 ∧ (∃ k107 : Nat, k107 < k87 ∧ I85 k107 (v84 + 1) (g_up (g_up s95 63 31 x104) 63 28 ((s95 63 28) + 1))))))) ∧ (¬ g_in r97 48 57 → (Qp none (g_up s95 63 29 (if (4 : Int32) < v84 then 4 else 2)))))))))) ∧ (¬ g_in r25 48 57 → (((r25 : Int32) = 40 → (∃ x34 : Int32, (Int32.toInt64 r25) = Int32.toInt64 x34 ∧ (Qp none (g_up (g_up (g_up (g_up s23 63 29 4) 63 29 3) 63 31 x34) 63 28 ((s23 63 28) + 1))))) ∧ (¬ (r25 : Int32) = 40 → (((r25 : Int32) = 41 → (∃ x40 : Int32, (Int32.toInt64 r25) = Int32.toInt64 x40 ∧ (Qp none (g_up (g_up (g_up (g_up s23 63 29 4) 63 29 3) 63 31 x40) 63 28 ((s23 63 28) + 1))))) ∧ (¬ (r25 : Int32) = 41 → (((r25 : Int32) = 59 → (∃ x46 : Int32, (Int32.toInt64 r25) = Int32.toInt64 x46 ∧ (Qp none (g_up (g_up (g_up (g_up s23 63 29 4) 63 29 3) 63 31 x46) 63 28 ((s23 63 28) + 1))))) ∧ (¬ (r25 : Int32) = 59 → (((r25 : Int32) = 43 → (∃ x52 : Int32, (Int32.toInt64 r25) = Int32.toInt64 x52 ∧ (Qp none (g_up (g_up (g_up (g_up s23 63 29 4) 63 29 3) 63 31 x52) 63 28 ((s23 63 28) + 1))))) ∧ (¬ (r25 : Int32) = 43 → (((r25 : Int32) = 45 → (∃ x58 : Int32, (Int32.toInt64 r25) = Int32.toInt64 x58 ∧ (Qp none (g_up (g_up (g_up (g_up s23 63 29 4) 63 29 3) 63 31 x58) 63 28 ((s23 63 28) + 1))))) ∧ (¬ (r25 : Int32) = 45 → (((r25 : Int32) = 42 → (∃ x64 : Int32, (Int32.toInt64 r25) = Int32.toInt64 x64 ∧ (Qp none (g_up (g_up (g_up (g_up s23 63 29 4) 63 29 3) 63 31 x64) 63 28 ((s23 63 28) + 1))))) ∧ (¬ (r25 : Int32) = 42 → (((r25 : Int32) = 60 → (∃ x70 : Int32, (Int32.toInt64 r25) = Int32.toInt64 x70 ∧ (Qp none (g_up (g_up (g_up (g_up s23 63 29 4) 63 29 3) 63 31 x70) 63 28 ((s23 63 28) + 1))))) ∧ (¬ (r25 : Int32) = 60 → (((r25 : Int32) = 61 → (∃ x77 : Int32, (Int32.toInt64 r25) = Int32.toInt64 x77 ∧ (Qp none (g_up (g_up (g_up (g_up s23 63 29 4) 63 29 3) 63 31 x77) 63 28 ((s23 63 28) + 1))))) ∧ (¬ (r25 : Int32) = 61 → (Qp none (g_up s23 63 29 4)))))))))))))))))))))))))))))))))))
set_option maxHeartbeats 4000000 in
set_option maxRecDepth 100000 in
theorem w_X8_next {h : Nat} (hh : 6 ≤ h)  {σ : gS} {Qp : Option Value → gS → Prop} (P : P_X8_next h  σ Qp) : g_Met yX8_next cX8_next 3 none h kM [.ref 63] σ Qp := by
  unfold P_X8_next at P
  refine g_Met.of (own := 8) (L := [some (.ref 63), none, none]) (by decide) rfl rfl (fun ad => Nat.le_of_ble_eq_true rfl) (fun ad => rfl) (fun X G K C => ?_)
  obtain ⟨I1, ⟨k6, hI8⟩, hS5⟩ := P
  have lp7 : ∀ (k3 : Nat)  (s9 : gS), I1 k3 s9 → gV X G K 3 Qp s9 [some (.ref 63), none, none] [] 0 := by
    intro k3
    induction k3 using Nat.strongRecOn with
    | ind k3 ih2 =>
      intro s9 hI4
      have p10 := hS5 k3 s9 hI4
      refine V_blk C (pc' := 5) (σ' := s9) (L' := [some (.ref 63), none, none]) (st' := [.int (s9 63 28), .ref 63]) (g_c dX8_next_0 (g_c dX8_next_1 (g_c dX8_next_2 g_n))) rfl rfl ?_
      refine V_gV C cv_X8_168 p10 ⟨_, _, _, _, rfl, rfl⟩ (by rfl) (by decide) (As := [.int (s9 63 28)]) (rest := []) rfl rfl (Nat.le_of_ble_eq_true rfl) dX8_next_5 (fun rv s11 hq => ?_)
      obtain ⟨r13, rfl, p12⟩ := hq
      refine V_blk C (pc' := 10) (σ' := s11) (L' := [some (.ref 63), none, none]) (st' := [.int 32, .int r13]) (g_c dX8_next_8 g_n) rfl rfl ?_
      refine V_icmp_eq C (tgt := 26) dX8_next_10 (by decide) (fun h14 => ?_) (fun h14 => ?_)
      · skip
        have p15 := p12.1 h14
        refine V_blk C (pc' := 36) (σ' := (g_up s11 63 28 ((s11 63 28) + 1))) (L' := [some (.ref 63), none, none]) (st' := []) (g_c dX8_next_26 (g_c dX8_next_27 (g_c dX8_next_28 (g_c dX8_next_31 (g_c dX8_next_32 (g_c dX8_next_33 g_n)))))) rfl rfl ?_
        refine V_goto C (tgt := 0) dX8_next_36 (by decide) ?_
        obtain ⟨k16, hkk16, hIk16⟩ := p15
        exact ih2 k16 hkk16 (g_up s11 63 28 ((s11 63 28) + 1)) hIk16
      · skip
        have p17 := p12.2 h14
        refine V_blk C (pc' := 18) (σ' := s11) (L' := [some (.ref 63), none, none]) (st' := [.int (s11 63 28), .ref 63]) (g_c dX8_next_13 (g_c dX8_next_14 (g_c dX8_next_15 g_n))) rfl rfl ?_
        refine V_gV C cv_X8_168 p17 ⟨_, _, _, _, rfl, rfl⟩ (by rfl) (by decide) (As := [.int (s11 63 28)]) (rest := []) rfl rfl (Nat.le_of_ble_eq_true rfl) dX8_next_18 (fun rv s18 hq => ?_)
        obtain ⟨r20, rfl, p19⟩ := hq
        refine V_blk C (pc' := 23) (σ' := s18) (L' := [some (.ref 63), none, none]) (st' := [.int 10, .int r20]) (g_c dX8_next_21 g_n) rfl rfl ?_
        refine V_icmp_ne C (tgt := 39) dX8_next_23 (by decide) (fun h21 => ?_) (fun h21 => ?_)
        · skip
          have p22 := p19.2 h21
          refine V_blk C (pc' := 52) (σ' := (g_up s18 63 30 (s18 63 28))) (L' := [some (.ref 63), none, none]) (st' := [.int (s18 63 28), .ref 63]) (g_c dX8_next_39 (g_c dX8_next_40 (g_c dX8_next_41 (g_c dX8_next_44 (g_c dX8_next_47 (g_c dX8_next_48 (g_c dX8_next_49 g_n))))))) rfl rfl ?_
          refine V_gV C cv_X8_168 p22 ⟨_, _, _, _, rfl, rfl⟩ (by rfl) (by decide) (As := [.int (s18 63 28)]) (rest := []) rfl rfl (Nat.le_of_ble_eq_true rfl) dX8_next_52 (fun rv s23 hq => ?_)
          obtain ⟨r25, rfl, p24⟩ := hq
          refine V_blk C (pc' := 62) (σ' := (g_up s23 63 29 4)) (L' := [some (.ref 63), some (.int r25), none]) (st' := [.int r25]) (g_c dX8_next_55 (g_c dX8_next_56 (g_c dX8_next_57 (g_c dX8_next_58 (g_c dX8_next_61 g_n))))) rfl rfl ?_
          refine V_if_ge2 C (tgt := 81) dX8_next_62 (by decide) (fun h26 => ?_) (fun h26 => ?_)
          · skip
            have p27 := p24.2 h26
            refine V_blk C (pc' := 89) (σ' := (g_up s23 63 29 4)) (L' := [some (.ref 63), some (.int r25), none]) (st' := [.long 122, .long 97, .long (Int32.toInt64 r25)]) (g_c dX8_next_81 (g_c dX8_next_82 (g_c dX8_next_83 (g_c dX8_next_86 g_n)))) rfl rfl ?_
            refine V_callSI C cs_X8_110 (c_X8_in32 (g_up s23 63 29 4) r25 97 122 (by decide) (by decide)) (by omega) (by decide) (fun _ h => h) (As := [.long (Int32.toInt64 r25), .long 97, .long 122]) (rest := []) rfl rfl (Nat.le_of_ble_eq_true rfl) dX8_next_89 ?_
            refine V_if_eq_b C (tgt := 134) dX8_next_92 (by decide) (fun h28 => ?_) (fun h28 => ?_)
            · skip
              have p29 := p27.2 h28
              refine V_blk C (pc' := 142) (σ' := (g_up s23 63 29 4)) (L' := [some (.ref 63), some (.int r25), none]) (st' := [.long 57, .long 48, .long (Int32.toInt64 r25)]) (g_c dX8_next_134 (g_c dX8_next_135 (g_c dX8_next_136 (g_c dX8_next_139 g_n)))) rfl rfl ?_
              refine V_callSI C cs_X8_110 (c_X8_in32 (g_up s23 63 29 4) r25 48 57 (by decide) (by decide)) (by omega) (by decide) (fun _ h => h) (As := [.long (Int32.toInt64 r25), .long 48, .long 57]) (rest := []) rfl rfl (Nat.le_of_ble_eq_true rfl) dX8_next_142 ?_
              refine V_if_eq_b C (tgt := 252) dX8_next_145 (by decide) (fun h30 => ?_) (fun h30 => ?_)
              · skip
                have p31 := p29.2 h30
                refine V_blk C (pc' := 255) (σ' := (g_up s23 63 29 4)) (L' := [some (.ref 63), some (.int r25), none]) (st' := [.int 40, .int r25]) (g_c dX8_next_252 (g_c dX8_next_253 g_n)) rfl rfl ?_
                refine V_icmp_eq C (tgt := 300) dX8_next_255 (by decide) (fun h32 => ?_) (fun h32 => ?_)
                · skip
                  have p33 := p31.1 h32
                  refine V_blk C (pc' := 308) (σ' := (g_up (g_up s23 63 29 4) 63 29 3)) (L' := [some (.ref 63), some (.int r25), none]) (st' := [.long (Int32.toInt64 r25), .ref 63]) (g_c dX8_next_300 (g_c dX8_next_301 (g_c dX8_next_302 (g_c dX8_next_305 (g_c dX8_next_306 (g_c dX8_next_307 g_n)))))) rfl rfl ?_
                  obtain ⟨x34, e35, p36⟩ := p33
                  refine V_putJ C (k := 63) (x := x34) fl_X8_185 e35 rfl rfl (by rfl) rfl dX8_next_308 ?_
                  refine V_blk C (pc' := 321) (σ' := (g_up (g_up (g_up (g_up s23 63 29 4) 63 29 3) 63 31 x34) 63 28 ((s23 63 28) + 1))) (L' := [some (.ref 63), some (.int r25), none]) (st' := []) (g_c dX8_next_311 (g_c dX8_next_312 (g_c dX8_next_313 (g_c dX8_next_316 (g_c dX8_next_317 (g_c dX8_next_318 g_n)))))) rfl rfl ?_
                  refine V_vret C dX8_next_321 ?_
                  exact p36
                · skip
                  have p37 := p31.2 h32
                  refine V_blk C (pc' := 261) (σ' := (g_up s23 63 29 4)) (L' := [some (.ref 63), some (.int r25), none]) (st' := [.int 41, .int r25]) (g_c dX8_next_258 (g_c dX8_next_259 g_n)) rfl rfl ?_
                  refine V_icmp_eq C (tgt := 300) dX8_next_261 (by decide) (fun h38 => ?_) (fun h38 => ?_)
                  · skip
                    have p39 := p37.1 h38
                    refine V_blk C (pc' := 308) (σ' := (g_up (g_up s23 63 29 4) 63 29 3)) (L' := [some (.ref 63), some (.int r25), none]) (st' := [.long (Int32.toInt64 r25), .ref 63]) (g_c dX8_next_300 (g_c dX8_next_301 (g_c dX8_next_302 (g_c dX8_next_305 (g_c dX8_next_306 (g_c dX8_next_307 g_n)))))) rfl rfl ?_
                    obtain ⟨x40, e41, p42⟩ := p39
                    refine V_putJ C (k := 63) (x := x40) fl_X8_185 e41 rfl rfl (by rfl) rfl dX8_next_308 ?_
                    refine V_blk C (pc' := 321) (σ' := (g_up (g_up (g_up (g_up s23 63 29 4) 63 29 3) 63 31 x40) 63 28 ((s23 63 28) + 1))) (L' := [some (.ref 63), some (.int r25), none]) (st' := []) (g_c dX8_next_311 (g_c dX8_next_312 (g_c dX8_next_313 (g_c dX8_next_316 (g_c dX8_next_317 (g_c dX8_next_318 g_n)))))) rfl rfl ?_
                    refine V_vret C dX8_next_321 ?_
                    exact p42
                  · skip
                    have p43 := p37.2 h38
                    refine V_blk C (pc' := 267) (σ' := (g_up s23 63 29 4)) (L' := [some (.ref 63), some (.int r25), none]) (st' := [.int 59, .int r25]) (g_c dX8_next_264 (g_c dX8_next_265 g_n)) rfl rfl ?_
                    refine V_icmp_eq C (tgt := 300) dX8_next_267 (by decide) (fun h44 => ?_) (fun h44 => ?_)
                    · skip
                      have p45 := p43.1 h44
                      refine V_blk C (pc' := 308) (σ' := (g_up (g_up s23 63 29 4) 63 29 3)) (L' := [some (.ref 63), some (.int r25), none]) (st' := [.long (Int32.toInt64 r25), .ref 63]) (g_c dX8_next_300 (g_c dX8_next_301 (g_c dX8_next_302 (g_c dX8_next_305 (g_c dX8_next_306 (g_c dX8_next_307 g_n)))))) rfl rfl ?_
                      obtain ⟨x46, e47, p48⟩ := p45
                      refine V_putJ C (k := 63) (x := x46) fl_X8_185 e47 rfl rfl (by rfl) rfl dX8_next_308 ?_
                      refine V_blk C (pc' := 321) (σ' := (g_up (g_up (g_up (g_up s23 63 29 4) 63 29 3) 63 31 x46) 63 28 ((s23 63 28) + 1))) (L' := [some (.ref 63), some (.int r25), none]) (st' := []) (g_c dX8_next_311 (g_c dX8_next_312 (g_c dX8_next_313 (g_c dX8_next_316 (g_c dX8_next_317 (g_c dX8_next_318 g_n)))))) rfl rfl ?_
                      refine V_vret C dX8_next_321 ?_
                      exact p48
                    · skip
                      have p49 := p43.2 h44
                      refine V_blk C (pc' := 273) (σ' := (g_up s23 63 29 4)) (L' := [some (.ref 63), some (.int r25), none]) (st' := [.int 43, .int r25]) (g_c dX8_next_270 (g_c dX8_next_271 g_n)) rfl rfl ?_
                      refine V_icmp_eq C (tgt := 300) dX8_next_273 (by decide) (fun h50 => ?_) (fun h50 => ?_)
                      · skip
                        have p51 := p49.1 h50
                        refine V_blk C (pc' := 308) (σ' := (g_up (g_up s23 63 29 4) 63 29 3)) (L' := [some (.ref 63), some (.int r25), none]) (st' := [.long (Int32.toInt64 r25), .ref 63]) (g_c dX8_next_300 (g_c dX8_next_301 (g_c dX8_next_302 (g_c dX8_next_305 (g_c dX8_next_306 (g_c dX8_next_307 g_n)))))) rfl rfl ?_
                        obtain ⟨x52, e53, p54⟩ := p51
                        refine V_putJ C (k := 63) (x := x52) fl_X8_185 e53 rfl rfl (by rfl) rfl dX8_next_308 ?_
                        refine V_blk C (pc' := 321) (σ' := (g_up (g_up (g_up (g_up s23 63 29 4) 63 29 3) 63 31 x52) 63 28 ((s23 63 28) + 1))) (L' := [some (.ref 63), some (.int r25), none]) (st' := []) (g_c dX8_next_311 (g_c dX8_next_312 (g_c dX8_next_313 (g_c dX8_next_316 (g_c dX8_next_317 (g_c dX8_next_318 g_n)))))) rfl rfl ?_
                        refine V_vret C dX8_next_321 ?_
                        exact p54
                      · skip
                        have p55 := p49.2 h50
                        refine V_blk C (pc' := 279) (σ' := (g_up s23 63 29 4)) (L' := [some (.ref 63), some (.int r25), none]) (st' := [.int 45, .int r25]) (g_c dX8_next_276 (g_c dX8_next_277 g_n)) rfl rfl ?_
                        refine V_icmp_eq C (tgt := 300) dX8_next_279 (by decide) (fun h56 => ?_) (fun h56 => ?_)
                        · skip
                          have p57 := p55.1 h56
                          refine V_blk C (pc' := 308) (σ' := (g_up (g_up s23 63 29 4) 63 29 3)) (L' := [some (.ref 63), some (.int r25), none]) (st' := [.long (Int32.toInt64 r25), .ref 63]) (g_c dX8_next_300 (g_c dX8_next_301 (g_c dX8_next_302 (g_c dX8_next_305 (g_c dX8_next_306 (g_c dX8_next_307 g_n)))))) rfl rfl ?_
                          obtain ⟨x58, e59, p60⟩ := p57
                          refine V_putJ C (k := 63) (x := x58) fl_X8_185 e59 rfl rfl (by rfl) rfl dX8_next_308 ?_
                          refine V_blk C (pc' := 321) (σ' := (g_up (g_up (g_up (g_up s23 63 29 4) 63 29 3) 63 31 x58) 63 28 ((s23 63 28) + 1))) (L' := [some (.ref 63), some (.int r25), none]) (st' := []) (g_c dX8_next_311 (g_c dX8_next_312 (g_c dX8_next_313 (g_c dX8_next_316 (g_c dX8_next_317 (g_c dX8_next_318 g_n)))))) rfl rfl ?_
                          refine V_vret C dX8_next_321 ?_
                          exact p60
                        · skip
                          have p61 := p55.2 h56
                          refine V_blk C (pc' := 285) (σ' := (g_up s23 63 29 4)) (L' := [some (.ref 63), some (.int r25), none]) (st' := [.int 42, .int r25]) (g_c dX8_next_282 (g_c dX8_next_283 g_n)) rfl rfl ?_
                          refine V_icmp_eq C (tgt := 300) dX8_next_285 (by decide) (fun h62 => ?_) (fun h62 => ?_)
                          · skip
                            have p63 := p61.1 h62
                            refine V_blk C (pc' := 308) (σ' := (g_up (g_up s23 63 29 4) 63 29 3)) (L' := [some (.ref 63), some (.int r25), none]) (st' := [.long (Int32.toInt64 r25), .ref 63]) (g_c dX8_next_300 (g_c dX8_next_301 (g_c dX8_next_302 (g_c dX8_next_305 (g_c dX8_next_306 (g_c dX8_next_307 g_n)))))) rfl rfl ?_
                            obtain ⟨x64, e65, p66⟩ := p63
                            refine V_putJ C (k := 63) (x := x64) fl_X8_185 e65 rfl rfl (by rfl) rfl dX8_next_308 ?_
                            refine V_blk C (pc' := 321) (σ' := (g_up (g_up (g_up (g_up s23 63 29 4) 63 29 3) 63 31 x64) 63 28 ((s23 63 28) + 1))) (L' := [some (.ref 63), some (.int r25), none]) (st' := []) (g_c dX8_next_311 (g_c dX8_next_312 (g_c dX8_next_313 (g_c dX8_next_316 (g_c dX8_next_317 (g_c dX8_next_318 g_n)))))) rfl rfl ?_
                            refine V_vret C dX8_next_321 ?_
                            exact p66
                          · skip
                            have p67 := p61.2 h62
                            refine V_blk C (pc' := 291) (σ' := (g_up s23 63 29 4)) (L' := [some (.ref 63), some (.int r25), none]) (st' := [.int 60, .int r25]) (g_c dX8_next_288 (g_c dX8_next_289 g_n)) rfl rfl ?_
                            refine V_icmp_eq C (tgt := 300) dX8_next_291 (by decide) (fun h68 => ?_) (fun h68 => ?_)
                            · skip
                              have p69 := p67.1 h68
                              refine V_blk C (pc' := 308) (σ' := (g_up (g_up s23 63 29 4) 63 29 3)) (L' := [some (.ref 63), some (.int r25), none]) (st' := [.long (Int32.toInt64 r25), .ref 63]) (g_c dX8_next_300 (g_c dX8_next_301 (g_c dX8_next_302 (g_c dX8_next_305 (g_c dX8_next_306 (g_c dX8_next_307 g_n)))))) rfl rfl ?_
                              obtain ⟨x70, e71, p72⟩ := p69
                              refine V_putJ C (k := 63) (x := x70) fl_X8_185 e71 rfl rfl (by rfl) rfl dX8_next_308 ?_
                              refine V_blk C (pc' := 321) (σ' := (g_up (g_up (g_up (g_up s23 63 29 4) 63 29 3) 63 31 x70) 63 28 ((s23 63 28) + 1))) (L' := [some (.ref 63), some (.int r25), none]) (st' := []) (g_c dX8_next_311 (g_c dX8_next_312 (g_c dX8_next_313 (g_c dX8_next_316 (g_c dX8_next_317 (g_c dX8_next_318 g_n)))))) rfl rfl ?_
                              refine V_vret C dX8_next_321 ?_
                              exact p72
                            · skip
                              have p73 := p67.2 h68
                              refine V_blk C (pc' := 297) (σ' := (g_up s23 63 29 4)) (L' := [some (.ref 63), some (.int r25), none]) (st' := [.int 61, .int r25]) (g_c dX8_next_294 (g_c dX8_next_295 g_n)) rfl rfl ?_
                              refine V_icmp_ne C (tgt := 321) dX8_next_297 (by decide) (fun h74 => ?_) (fun h74 => ?_)
                              · skip
                                have p75 := p73.2 h74
                                refine V_vret C dX8_next_321 ?_
                                exact p75
                              · skip
                                have p76 := p73.1 h74
                                refine V_blk C (pc' := 308) (σ' := (g_up (g_up s23 63 29 4) 63 29 3)) (L' := [some (.ref 63), some (.int r25), none]) (st' := [.long (Int32.toInt64 r25), .ref 63]) (g_c dX8_next_300 (g_c dX8_next_301 (g_c dX8_next_302 (g_c dX8_next_305 (g_c dX8_next_306 (g_c dX8_next_307 g_n)))))) rfl rfl ?_
                                obtain ⟨x77, e78, p79⟩ := p76
                                refine V_putJ C (k := 63) (x := x77) fl_X8_185 e78 rfl rfl (by rfl) rfl dX8_next_308 ?_
                                refine V_blk C (pc' := 321) (σ' := (g_up (g_up (g_up (g_up s23 63 29 4) 63 29 3) 63 31 x77) 63 28 ((s23 63 28) + 1))) (L' := [some (.ref 63), some (.int r25), none]) (st' := []) (g_c dX8_next_311 (g_c dX8_next_312 (g_c dX8_next_313 (g_c dX8_next_316 (g_c dX8_next_317 (g_c dX8_next_318 g_n)))))) rfl rfl ?_
                                refine V_vret C dX8_next_321 ?_
                                exact p79
              · skip
                have p80 := p29.1 h30
                refine V_blk C (pc' := 155) (σ' := (g_up (g_up s23 63 29 4) 63 29 2)) (L' := [some (.ref 63), some (.int r25), none]) (st' := [.long 0, .ref 63]) (g_c dX8_next_148 (g_c dX8_next_149 (g_c dX8_next_150 (g_c dX8_next_153 (g_c dX8_next_154 g_n))))) rfl rfl ?_
                obtain ⟨x81, e82, p83⟩ := p80
                refine V_putJ C (k := 63) (x := x81) fl_X8_185 e82 rfl rfl (by rfl) rfl dX8_next_155 ?_
                refine V_blk C (pc' := 160) (σ' := (g_up (g_up (g_up s23 63 29 4) 63 29 2) 63 31 x81)) (L' := [some (.ref 63), some (.int r25), some (.int 0)]) (st' := []) (g_c dX8_next_158 (g_c dX8_next_159 g_n)) rfl rfl ?_
                refine V_less (L' := [some (.ref 63), none, some (.int 0)]) (by simp [g_subL]) ?_
                obtain ⟨I85, ⟨k90, hI92⟩, hS89⟩ := p83
                have lp91 : ∀ (k87 : Nat) (v84 : Int32) (s93 : gS), I85 k87 v84 s93 → gV X G K 3 Qp s93 [some (.ref 63), none, some (.int v84)] [] 160 := by
                  intro k87
                  induction k87 using Nat.strongRecOn with
                  | ind k87 ih86 =>
                    intro v84 s93 hI88
                    have p94 := hS89 k87 v84 s93 hI88
                    refine V_blk C (pc' := 165) (σ' := s93) (L' := [some (.ref 63), none, some (.int v84)]) (st' := [.int (s93 63 28), .ref 63]) (g_c dX8_next_160 (g_c dX8_next_161 (g_c dX8_next_162 g_n))) rfl rfl ?_
                    refine V_gV C cv_X8_168 p94 ⟨_, _, _, _, rfl, rfl⟩ (by rfl) (by decide) (As := [.int (s93 63 28)]) (rest := []) rfl rfl (Nat.le_of_ble_eq_true rfl) dX8_next_165 (fun rv s95 hq => ?_)
                    obtain ⟨r97, rfl, p96⟩ := hq
                    refine V_blk C (pc' := 175) (σ' := s95) (L' := [some (.ref 63), none, some (.int v84)]) (st' := [.long 57, .long 48, .long (Int32.toInt64 r97)]) (g_c dX8_next_168 (g_c dX8_next_169 (g_c dX8_next_172 g_n))) rfl rfl ?_
                    refine V_callSI C cs_X8_110 (c_X8_in32 s95 r97 48 57 (by decide) (by decide)) (by omega) (by decide) (fun _ h => h) (As := [.long (Int32.toInt64 r97), .long 48, .long 57]) (rest := []) rfl rfl (Nat.le_of_ble_eq_true rfl) dX8_next_175 ?_
                    refine V_if_eq_b C (tgt := 235) dX8_next_178 (by decide) (fun h98 => ?_) (fun h98 => ?_)
                    · skip
                      have p99 := p96.2 h98
                      refine V_blk C (pc' := 238) (σ' := s95) (L' := [some (.ref 63), none, some (.int v84)]) (st' := [.int 4, .int v84, .ref 63]) (g_c dX8_next_235 (g_c dX8_next_236 (g_c dX8_next_237 g_n))) rfl rfl ?_
                      refine V_join (P := (4 : Int32) < v84) (a := 4) (b := 2) (pcJ := 246) (rest := [.ref 63]) (fun x_ hx_ => ?_) (fun kT kF => ?_)
                      · skip
                        subst hx_
                        refine V_blk C (pc' := 249) (σ' := (g_up s95 63 29 (if (4 : Int32) < v84 then 4 else 2))) (L' := [some (.ref 63), none, some (.int v84)]) (st' := []) (g_c dX8_next_246 g_n) rfl rfl ?_
                        refine V_goto C (tgt := 321) dX8_next_249 (by decide) ?_
                        refine V_vret C dX8_next_321 ?_
                        exact p99
                      · refine V_icmp_le2 C (tgt := 245) dX8_next_238 (by decide) (fun h100 => ?_) (fun h100 => ?_)
                        · skip
                          refine V_blk C (pc' := 246) (σ' := s95) (L' := [some (.ref 63), none, some (.int v84)]) (st' := [.int 2, .ref 63]) (g_c dX8_next_245 g_n) rfl rfl ?_
                          exact kF h100
                        · skip
                          refine V_blk C (pc' := 242) (σ' := s95) (L' := [some (.ref 63), none, some (.int v84)]) (st' := [.int 4, .ref 63]) (g_c dX8_next_241 g_n) rfl rfl ?_
                          refine V_goto C (tgt := 246) dX8_next_242 (by decide) ?_
                          exact kT h100
                    · skip
                      have p101 := p96.1 h98
                      refine V_blk C (pc' := 184) (σ' := s95) (L' := [some (.ref 63), none, some (.int v84)]) (st' := [.int 4, .int v84, .ref 63]) (g_c dX8_next_181 (g_c dX8_next_182 (g_c dX8_next_183 g_n))) rfl rfl ?_
                      refine V_icmp_ge2 C (tgt := 212) dX8_next_184 (by decide) (fun h102 => ?_) (fun h102 => ?_)
                      · skip
                        have p103 := p101.2 h102
                        refine V_blk C (pc' := 216) (σ' := s95) (L' := [some (.ref 63), none, some (.int v84)]) (st' := [.long (Int32.toInt64 (s95 63 31)), .ref 63]) (g_c dX8_next_212 (g_c dX8_next_213 g_n)) rfl rfl ?_
                        obtain ⟨x104, e105, p106⟩ := p103
                        refine V_putJ C (k := 63) (x := x104) fl_X8_185 e105 rfl rfl (by rfl) rfl dX8_next_216 ?_
                        refine V_blk C (pc' := 232) (σ' := (g_up (g_up s95 63 31 x104) 63 28 ((s95 63 28) + 1))) (L' := [some (.ref 63), none, some (.int (v84 + 1))]) (st' := []) (g_c dX8_next_219 (g_c dX8_next_222 (g_c dX8_next_223 (g_c dX8_next_224 (g_c dX8_next_227 (g_c dX8_next_228 (g_c dX8_next_229 g_n))))))) rfl rfl ?_
                        refine V_goto C (tgt := 160) dX8_next_232 (by decide) ?_
                        obtain ⟨k107, hkk107, hIk107⟩ := p106
                        exact ih86 k107 hkk107 (v84 + 1) (g_up (g_up s95 63 31 x104) 63 28 ((s95 63 28) + 1)) hIk107
                      · skip
                        have p108 := p101.1 h102
                        refine V_blk C (pc' := 200) (σ' := s95) (L' := [some (.ref 63), none, some (.int v84)]) (st' := [.int (s95 63 28), .ref 63, .long (10 * (Int32.toInt64 (s95 63 31))), .ref 63]) (g_c dX8_next_187 (g_c dX8_next_190 (g_c dX8_next_191 (g_c dX8_next_194 (g_c dX8_next_195 (g_c dX8_next_196 (g_c dX8_next_197 g_n))))))) rfl rfl ?_
                        refine V_gV C cv_X8_168 p108 ⟨_, _, _, _, rfl, rfl⟩ (by rfl) (by decide) (As := [.int (s95 63 28)]) (rest := [.long (10 * (Int32.toInt64 (s95 63 31))), .ref 63]) rfl rfl (Nat.le_of_ble_eq_true rfl) dX8_next_200 (fun rv s109 hq => ?_)
                        obtain ⟨r111, rfl, p110⟩ := hq
                        refine V_blk C (pc' := 209) (σ' := s109) (L' := [some (.ref 63), none, some (.int v84)]) (st' := [.long (((10 * (Int32.toInt64 (s95 63 31))) + (Int32.toInt64 r111)) - 48), .ref 63]) (g_c dX8_next_203 (g_c dX8_next_204 (g_c dX8_next_205 (g_c dX8_next_208 g_n)))) rfl rfl ?_
                        refine V_goto C (tgt := 216) dX8_next_209 (by decide) ?_
                        obtain ⟨x112, e113, p114⟩ := p110
                        refine V_putJ C (k := 63) (x := x112) fl_X8_185 e113 rfl rfl (by rfl) rfl dX8_next_216 ?_
                        refine V_blk C (pc' := 232) (σ' := (g_up (g_up s109 63 31 x112) 63 28 ((s109 63 28) + 1))) (L' := [some (.ref 63), none, some (.int (v84 + 1))]) (st' := []) (g_c dX8_next_219 (g_c dX8_next_222 (g_c dX8_next_223 (g_c dX8_next_224 (g_c dX8_next_227 (g_c dX8_next_228 (g_c dX8_next_229 g_n))))))) rfl rfl ?_
                        refine V_goto C (tgt := 160) dX8_next_232 (by decide) ?_
                        obtain ⟨k115, hkk115, hIk115⟩ := p114
                        exact ih86 k115 hkk115 (v84 + 1) (g_up (g_up s109 63 31 x112) 63 28 ((s109 63 28) + 1)) hIk115
                exact lp91 k90 0 (g_up (g_up (g_up s23 63 29 4) 63 29 2) 63 31 x81) hI92
            · skip
              have p116 := p27.1 h28
              refine V_blk C (pc' := 100) (σ' := (g_up (g_up s23 63 29 4) 63 29 1)) (L' := [some (.ref 63), some (.int r25), none]) (st' := []) (g_c dX8_next_95 (g_c dX8_next_96 (g_c dX8_next_97 g_n))) rfl rfl ?_
              refine V_less (L' := [some (.ref 63), none, none]) (by simp [g_subL]) ?_
              obtain ⟨I117, ⟨k122, hI124⟩, hS121⟩ := p116
              have lp123 : ∀ (k119 : Nat)  (s125 : gS), I117 k119 s125 → gV X G K 3 Qp s125 [some (.ref 63), none, none] [] 100 := by
                intro k119
                induction k119 using Nat.strongRecOn with
                | ind k119 ih118 =>
                  intro s125 hI120
                  have p126 := hS121 k119 s125 hI120
                  refine V_blk C (pc' := 105) (σ' := s125) (L' := [some (.ref 63), none, none]) (st' := [.int (s125 63 28), .ref 63]) (g_c dX8_next_100 (g_c dX8_next_101 (g_c dX8_next_102 g_n))) rfl rfl ?_
                  refine V_gV C cv_X8_168 p126 ⟨_, _, _, _, rfl, rfl⟩ (by rfl) (by decide) (As := [.int (s125 63 28)]) (rest := []) rfl rfl (Nat.le_of_ble_eq_true rfl) dX8_next_105 (fun rv s127 hq => ?_)
                  obtain ⟨r129, rfl, p128⟩ := hq
                  refine V_blk C (pc' := 115) (σ' := s127) (L' := [some (.ref 63), none, none]) (st' := [.long 122, .long 97, .long (Int32.toInt64 r129)]) (g_c dX8_next_108 (g_c dX8_next_109 (g_c dX8_next_112 g_n))) rfl rfl ?_
                  refine V_callSI C cs_X8_110 (c_X8_in32 s127 r129 97 122 (by decide) (by decide)) (by omega) (by decide) (fun _ h => h) (As := [.long (Int32.toInt64 r129), .long 97, .long 122]) (rest := []) rfl rfl (Nat.le_of_ble_eq_true rfl) dX8_next_115 ?_
                  refine V_if_eq_b C (tgt := 321) dX8_next_118 (by decide) (fun h130 => ?_) (fun h130 => ?_)
                  · skip
                    have p131 := p128.2 h130
                    refine V_vret C dX8_next_321 ?_
                    exact p131
                  · skip
                    have p132 := p128.1 h130
                    refine V_blk C (pc' := 131) (σ' := (g_up s127 63 28 ((s127 63 28) + 1))) (L' := [some (.ref 63), none, none]) (st' := []) (g_c dX8_next_121 (g_c dX8_next_122 (g_c dX8_next_123 (g_c dX8_next_126 (g_c dX8_next_127 (g_c dX8_next_128 g_n)))))) rfl rfl ?_
                    refine V_goto C (tgt := 100) dX8_next_131 (by decide) ?_
                    obtain ⟨k133, hkk133, hIk133⟩ := p132
                    exact ih118 k133 hkk133 (g_up s127 63 28 ((s127 63 28) + 1)) hIk133
              exact lp123 k122 (g_up (g_up s23 63 29 4) 63 29 1) hI124
          · skip
            have p134 := p24.1 h26
            refine V_blk C (pc' := 78) (σ' := (g_up (g_up (g_up s23 63 29 4) 63 29 0) 63 30 (s23 63 27))) (L' := [some (.ref 63), some (.int r25), none]) (st' := []) (g_c dX8_next_65 (g_c dX8_next_66 (g_c dX8_next_67 (g_c dX8_next_70 (g_c dX8_next_71 (g_c dX8_next_72 (g_c dX8_next_75 g_n))))))) rfl rfl ?_
            refine V_goto C (tgt := 321) dX8_next_78 (by decide) ?_
            refine V_vret C dX8_next_321 ?_
            exact p134
        · skip
          have p135 := p19.1 h21
          refine V_blk C (pc' := 36) (σ' := (g_up s18 63 28 ((s18 63 28) + 1))) (L' := [some (.ref 63), none, none]) (st' := []) (g_c dX8_next_26 (g_c dX8_next_27 (g_c dX8_next_28 (g_c dX8_next_31 (g_c dX8_next_32 (g_c dX8_next_33 g_n)))))) rfl rfl ?_
          refine V_goto C (tgt := 0) dX8_next_36 (by decide) ?_
          obtain ⟨k136, hkk136, hIk136⟩ := p135
          exact ih2 k136 hkk136 (g_up s18 63 28 ((s18 63 28) + 1)) hIk136
  exact lp7 k6 σ hI8
set_option maxRecDepth 100000 in
def P_X8_fail (h : Nat)  (σ : gS) (Qp : Option Value → gS → Prop) : Prop :=
  ((((σ 63 33) : Int32) = 0 → (Qp none (g_up (g_up σ 63 33 1) 63 34 (σ 63 30)))) ∧ (¬ ((σ 63 33) : Int32) = 0 → (Qp none σ)))
set_option maxHeartbeats 4000000 in
set_option maxRecDepth 100000 in
theorem w_X8_fail {h : Nat} (hh : 6 ≤ h)  {σ : gS} {Qp : Option Value → gS → Prop} (P : P_X8_fail h  σ Qp) : g_Met yX8_fail cX8_fail 1 none h kM [.ref 63] σ Qp := by
  unfold P_X8_fail at P
  refine g_Met.of (own := 8) (L := [some (.ref 63)]) (by decide) rfl rfl (fun ad => Nat.le_of_ble_eq_true rfl) (fun ad => rfl) (fun X G K C => ?_)
  refine V_blk C (pc' := 4) (σ' := σ) (L' := [some (.ref 63)]) (st' := [.int (σ 63 33)]) (g_c dX8_fail_0 (g_c dX8_fail_1 g_n)) rfl rfl ?_
  refine V_if_ne C (tgt := 20) dX8_fail_4 (by decide) (fun h1 => ?_) (fun h1 => ?_)
  · skip
    have p2 := P.2 h1
    refine V_vret C dX8_fail_20 ?_
    exact p2
  · skip
    have p3 := P.1 h1
    refine V_blk C (pc' := 9) (σ' := σ) (L' := [some (.ref 63)]) (st' := [.int 1, .ref 63]) (g_c dX8_fail_7 (g_c dX8_fail_8 g_n)) rfl rfl ?_
    refine V_putZ C (k := 63) fl_X8_191 (by decide) rfl rfl (by rfl) rfl dX8_fail_9 ?_
    refine V_blk C (pc' := 20) (σ' := (g_up (g_up σ 63 33 1) 63 34 (σ 63 30))) (L' := [some (.ref 63)]) (st' := []) (g_c dX8_fail_12 (g_c dX8_fail_13 (g_c dX8_fail_14 (g_c dX8_fail_17 g_n)))) rfl rfl ?_
    refine V_vret C dX8_fail_20 ?_
    exact p3
set_option maxRecDepth 100000 in
def P_X8_isLetter (h : Nat) (i : Int32) (le : Int32) (σ : gS) (Qp : Option Value → gS → Prop) : Prop :=
  (((((σ 63 30) + i) : Int32) < (σ 63 28) → (g_call yX8_byteAt cX8_byteAt 2 (some .int) kM h [.ref 63, .int ((σ 63 30) + i)] σ (fun rv s5 => ∃ r7 : Int32, rv = some (.int r7) ∧ (Qp (some (.int (if (r7 : Int32) = le then 1 else 0))) s5)))) ∧ (¬ (((σ 63 30) + i) : Int32) < (σ 63 28) → (Qp (some (.int (if (le : Int32) = 0 then 1 else 0))) σ)))
set_option maxHeartbeats 4000000 in
set_option maxRecDepth 100000 in
theorem w_X8_isLetter {h : Nat} (hh : 6 ≤ h) {i : Int32} {le : Int32} {σ : gS} {Qp : Option Value → gS → Prop} (P : P_X8_isLetter h i le σ Qp) : g_Met yX8_isLetter cX8_isLetter 3 (some .boolean) h kM [.ref 63, .int i, .int le] σ Qp := by
  unfold P_X8_isLetter at P
  refine g_Met.of (own := 8) (L := [some (.ref 63), some (.int i), some (.int le)]) (by decide) rfl rfl (fun ad => Nat.le_of_ble_eq_true rfl) (fun ad => rfl) (fun X G K C => ?_)
  refine V_blk C (pc' := 10) (σ' := σ) (L' := [some (.ref 63), some (.int i), some (.int le)]) (st' := [.int (σ 63 28), .int ((σ 63 30) + i)]) (g_c dX8_isLetter_0 (g_c dX8_isLetter_1 (g_c dX8_isLetter_4 (g_c dX8_isLetter_5 (g_c dX8_isLetter_6 (g_c dX8_isLetter_7 g_n)))))) rfl rfl ?_
  refine V_icmp_ge2 C (tgt := 35) dX8_isLetter_10 (by decide) (fun h1 => ?_) (fun h1 => ?_)
  · skip
    have p2 := P.2 h1
    refine V_blk C (pc' := 36) (σ' := σ) (L' := [some (.ref 63), some (.int i), some (.int le)]) (st' := [.int le]) (g_c dX8_isLetter_35 g_n) rfl rfl ?_
    refine V_join (P := (le : Int32) = 0) (a := 1) (b := 0) (pcJ := 44) (rest := []) (fun x_ hx_ => ?_) (fun kT kF => ?_)
    · skip
      subst hx_
      refine V_zret C (by split <;> simp) dX8_isLetter_44 ?_
      exact p2
    · refine V_if_ne C (tgt := 43) dX8_isLetter_36 (by decide) (fun h3 => ?_) (fun h3 => ?_)
      · skip
        refine V_blk C (pc' := 44) (σ' := σ) (L' := [some (.ref 63), some (.int i), some (.int le)]) (st' := [.int 0]) (g_c dX8_isLetter_43 g_n) rfl rfl ?_
        exact kF h3
      · skip
        refine V_blk C (pc' := 40) (σ' := σ) (L' := [some (.ref 63), some (.int i), some (.int le)]) (st' := [.int 1]) (g_c dX8_isLetter_39 g_n) rfl rfl ?_
        refine V_goto C (tgt := 44) dX8_isLetter_40 (by decide) ?_
        exact kT h3
  · skip
    have p4 := P.1 h1
    refine V_blk C (pc' := 20) (σ' := σ) (L' := [some (.ref 63), some (.int i), some (.int le)]) (st' := [.int ((σ 63 30) + i), .ref 63]) (g_c dX8_isLetter_13 (g_c dX8_isLetter_14 (g_c dX8_isLetter_15 (g_c dX8_isLetter_18 (g_c dX8_isLetter_19 g_n))))) rfl rfl ?_
    refine V_gV C cv_X8_168 p4 ⟨_, _, _, _, rfl, rfl⟩ (by rfl) (by decide) (As := [.int ((σ 63 30) + i)]) (rest := []) rfl rfl (Nat.le_of_ble_eq_true rfl) dX8_isLetter_20 (fun rv s5 hq => ?_)
    obtain ⟨r7, rfl, p6⟩ := hq
    refine V_blk C (pc' := 24) (σ' := s5) (L' := [some (.ref 63), some (.int i), some (.int le)]) (st' := [.int le, .int r7]) (g_c dX8_isLetter_23 g_n) rfl rfl ?_
    refine V_join (P := (r7 : Int32) = le) (a := 1) (b := 0) (pcJ := 44) (rest := []) (fun x_ hx_ => ?_) (fun kT kF => ?_)
    · skip
      subst hx_
      refine V_zret C (by split <;> simp) dX8_isLetter_44 ?_
      exact p6
    · refine V_icmp_ne C (tgt := 31) dX8_isLetter_24 (by decide) (fun h8 => ?_) (fun h8 => ?_)
      · skip
        refine V_blk C (pc' := 32) (σ' := s5) (L' := [some (.ref 63), some (.int i), some (.int le)]) (st' := [.int 0]) (g_c dX8_isLetter_31 g_n) rfl rfl ?_
        refine V_goto C (tgt := 44) dX8_isLetter_32 (by decide) ?_
        exact kF h8
      · skip
        refine V_blk C (pc' := 28) (σ' := s5) (L' := [some (.ref 63), some (.int i), some (.int le)]) (st' := [.int 1]) (g_c dX8_isLetter_27 g_n) rfl rfl ?_
        refine V_goto C (tgt := 44) dX8_isLetter_28 (by decide) ?_
        exact kT h8
set_option maxRecDepth 100000 in
def P_X8_isWord (h : Nat) (a : Int32) (b : Int32) (c : Int32) (d : Int32) (e : Int32) (f : Int32) (g : Int32) (hh_ : Int32) (σ : gS) (Qp : Option Value → gS → Prop) : Prop :=
  ((((σ 63 33) : Int32) = 0 → ((((σ 63 29) : Int32) = 1 → (((((σ 63 30) + 8) : Int32) < (σ 63 28) → (Qp (some (.int 0)) σ)) ∧ (¬ (((σ 63 30) + 8) : Int32) < (σ 63 28) → (g_call yX8_isLetter cX8_isLetter 3 (some .boolean) kM h [.ref 63, .int 0, .int a] σ (fun rv s10 => ∃ r12 : Int32, rv = some (.int r12) ∧ (((r12 : Int32) = 0 → (Qp (some (.int 0)) s10)) ∧ (¬ (r12 : Int32) = 0 → (g_call yX8_isLetter cX8_isLetter 3 (some .boolean) kM h [.ref 63, .int 1, .int b] s10 (fun rv s16 => ∃ r18 : Int32, rv = some (.int r18) ∧ (((r18 : Int32) = 0 → (Qp (some (.int 0)) s16)) ∧ (¬ (r18 : Int32) = 0 → (g_call yX8_isLetter cX8_isLetter 3 (some .boolean) kM h [.ref 63, .int 2, .int c] s16 (fun rv s22 => ∃ r24 : Int32, rv = some (.int r24) ∧ (((r24 : Int32) = 0 → (Qp (some (.int 0)) s22)) ∧ (¬ (r24 : Int32) = 0 → (g_call yX8_isLetter cX8_isLetter 3 (some .boolean) kM h [.ref 63, .int 3, .int d] s22 (fun rv s28 => ∃ r30 : Int32, rv = some (.int r30) ∧ (((r30 : Int32) = 0 → (Qp (some (.int 0)) s28)) ∧ (¬ (r30 : Int32) = 0 → (g_call yX8_isLetter cX8_isLetter 3 (some .boolean) kM h [.ref 63, .int 4, .int e] s28 (fun rv s34 => ∃ r36 : Int32, rv = some (.int r36) ∧ (((r36 : Int32) = 0 → (Qp (some (.int 0)) s34)) ∧ (¬ (r36 : Int32) = 0 → (g_call yX8_isLetter cX8_isLetter 3 (some .boolean) kM h [.ref 63, .int 5, .int f] s34 (fun rv s40 => ∃ r42 : Int32, rv = some (.int r42) ∧ (((r42 : Int32) = 0 → (Qp (some (.int 0)) s40)) ∧ (¬ (r42 : Int32) = 0 → (g_call yX8_isLetter cX8_isLetter 3 (some .boolean) kM h [.ref 63, .int 6, .int g] s40 (fun rv s46 => ∃ r48 : Int32, rv = some (.int r48) ∧ (((r48 : Int32) = 0 → (Qp (some (.int 0)) s46)) ∧ (¬ (r48 : Int32) = 0 → (g_call yX8_isLetter cX8_isLetter 3 (some .boolean) kM h [.ref 63, .int 7, .int hh_] s46 (fun rv s52 => ∃ r54 : Int32, rv = some (.int r54) ∧ (Qp (some (.int (if (r54 : Int32) = 0 then 0 else 1))) s52)))))))))))))))))))))))))))))))))) ∧ (¬ ((σ 63 29) : Int32) = 1 → (Qp (some (.int 0)) σ)))) ∧ (¬ ((σ 63 33) : Int32) = 0 → (Qp (some (.int 0)) σ)))
set_option maxHeartbeats 4000000 in
set_option maxRecDepth 100000 in
theorem w_X8_isWord {h : Nat} (hh : 6 ≤ h) {a : Int32} {b : Int32} {c : Int32} {d : Int32} {e : Int32} {f : Int32} {g : Int32} {hh_ : Int32} {σ : gS} {Qp : Option Value → gS → Prop} (P : P_X8_isWord h a b c d e f g hh_ σ Qp) : g_Met yX8_isWord cX8_isWord 9 (some .boolean) h kM [.ref 63, .int a, .int b, .int c, .int d, .int e, .int f, .int g, .int hh_] σ Qp := by
  unfold P_X8_isWord at P
  refine g_Met.of (own := 8) (L := [some (.ref 63), some (.int a), some (.int b), some (.int c), some (.int d), some (.int e), some (.int f), some (.int g), some (.int hh_)]) (by decide) rfl rfl (fun ad => Nat.le_of_ble_eq_true rfl) (fun ad => rfl) (fun X G K C => ?_)
  refine V_blk C (pc' := 4) (σ' := σ) (L' := [some (.ref 63), some (.int a), some (.int b), some (.int c), some (.int d), some (.int e), some (.int f), some (.int g), some (.int hh_)]) (st' := [.int (σ 63 33)]) (g_c dX8_isWord_0 (g_c dX8_isWord_1 g_n)) rfl rfl ?_
  refine V_if_ne C (tgt := 112) dX8_isWord_4 (by decide) (fun h1 => ?_) (fun h1 => ?_)
  · skip
    have p2 := P.2 h1
    refine V_blk C (pc' := 113) (σ' := σ) (L' := [some (.ref 63), some (.int a), some (.int b), some (.int c), some (.int d), some (.int e), some (.int f), some (.int g), some (.int hh_)]) (st' := [.int 0]) (g_c dX8_isWord_112 g_n) rfl rfl ?_
    refine V_zret C (by decide) dX8_isWord_113 ?_
    exact p2
  · skip
    have p3 := P.1 h1
    refine V_blk C (pc' := 12) (σ' := σ) (L' := [some (.ref 63), some (.int a), some (.int b), some (.int c), some (.int d), some (.int e), some (.int f), some (.int g), some (.int hh_)]) (st' := [.int 1, .int (σ 63 29)]) (g_c dX8_isWord_7 (g_c dX8_isWord_8 (g_c dX8_isWord_11 g_n))) rfl rfl ?_
    refine V_icmp_ne C (tgt := 112) dX8_isWord_12 (by decide) (fun h4 => ?_) (fun h4 => ?_)
    · skip
      have p5 := p3.2 h4
      refine V_blk C (pc' := 113) (σ' := σ) (L' := [some (.ref 63), some (.int a), some (.int b), some (.int c), some (.int d), some (.int e), some (.int f), some (.int g), some (.int hh_)]) (st' := [.int 0]) (g_c dX8_isWord_112 g_n) rfl rfl ?_
      refine V_zret C (by decide) dX8_isWord_113 ?_
      exact p5
    · skip
      have p6 := p3.1 h4
      refine V_blk C (pc' := 26) (σ' := σ) (L' := [some (.ref 63), some (.int a), some (.int b), some (.int c), some (.int d), some (.int e), some (.int f), some (.int g), some (.int hh_)]) (st' := [.int ((σ 63 30) + 8), .int (σ 63 28)]) (g_c dX8_isWord_15 (g_c dX8_isWord_16 (g_c dX8_isWord_19 (g_c dX8_isWord_20 (g_c dX8_isWord_23 (g_c dX8_isWord_25 g_n)))))) rfl rfl ?_
      refine V_icmp_gt C (tgt := 112) dX8_isWord_26 (by decide) (fun h7 => ?_) (fun h7 => ?_)
      · skip
        have p8 := p6.1 h7
        refine V_blk C (pc' := 113) (σ' := σ) (L' := [some (.ref 63), some (.int a), some (.int b), some (.int c), some (.int d), some (.int e), some (.int f), some (.int g), some (.int hh_)]) (st' := [.int 0]) (g_c dX8_isWord_112 g_n) rfl rfl ?_
        refine V_zret C (by decide) dX8_isWord_113 ?_
        exact p8
      · skip
        have p9 := p6.2 h7
        refine V_blk C (pc' := 32) (σ' := σ) (L' := [some (.ref 63), some (.int a), some (.int b), some (.int c), some (.int d), some (.int e), some (.int f), some (.int g), some (.int hh_)]) (st' := [.int a, .int 0, .ref 63]) (g_c dX8_isWord_29 (g_c dX8_isWord_30 (g_c dX8_isWord_31 g_n))) rfl rfl ?_
        refine V_gV C cv_X8_198 p9 ⟨_, _, _, _, rfl, rfl⟩ (by rfl) (by decide) (As := [.int 0, .int a]) (rest := []) rfl rfl (Nat.le_of_ble_eq_true rfl) dX8_isWord_32 (fun rv s10 hq => ?_)
        obtain ⟨r12, rfl, p11⟩ := hq
        refine V_if_eq C (tgt := 112) dX8_isWord_35 (by decide) (fun h13 => ?_) (fun h13 => ?_)
        · skip
          have p14 := p11.1 h13
          refine V_blk C (pc' := 113) (σ' := s10) (L' := [some (.ref 63), some (.int a), some (.int b), some (.int c), some (.int d), some (.int e), some (.int f), some (.int g), some (.int hh_)]) (st' := [.int 0]) (g_c dX8_isWord_112 g_n) rfl rfl ?_
          refine V_zret C (by decide) dX8_isWord_113 ?_
          exact p14
        · skip
          have p15 := p11.2 h13
          refine V_blk C (pc' := 41) (σ' := s10) (L' := [some (.ref 63), some (.int a), some (.int b), some (.int c), some (.int d), some (.int e), some (.int f), some (.int g), some (.int hh_)]) (st' := [.int b, .int 1, .ref 63]) (g_c dX8_isWord_38 (g_c dX8_isWord_39 (g_c dX8_isWord_40 g_n))) rfl rfl ?_
          refine V_gV C cv_X8_198 p15 ⟨_, _, _, _, rfl, rfl⟩ (by rfl) (by decide) (As := [.int 1, .int b]) (rest := []) rfl rfl (Nat.le_of_ble_eq_true rfl) dX8_isWord_41 (fun rv s16 hq => ?_)
          obtain ⟨r18, rfl, p17⟩ := hq
          refine V_if_eq C (tgt := 112) dX8_isWord_44 (by decide) (fun h19 => ?_) (fun h19 => ?_)
          · skip
            have p20 := p17.1 h19
            refine V_blk C (pc' := 113) (σ' := s16) (L' := [some (.ref 63), some (.int a), some (.int b), some (.int c), some (.int d), some (.int e), some (.int f), some (.int g), some (.int hh_)]) (st' := [.int 0]) (g_c dX8_isWord_112 g_n) rfl rfl ?_
            refine V_zret C (by decide) dX8_isWord_113 ?_
            exact p20
          · skip
            have p21 := p17.2 h19
            refine V_blk C (pc' := 50) (σ' := s16) (L' := [some (.ref 63), some (.int a), some (.int b), some (.int c), some (.int d), some (.int e), some (.int f), some (.int g), some (.int hh_)]) (st' := [.int c, .int 2, .ref 63]) (g_c dX8_isWord_47 (g_c dX8_isWord_48 (g_c dX8_isWord_49 g_n))) rfl rfl ?_
            refine V_gV C cv_X8_198 p21 ⟨_, _, _, _, rfl, rfl⟩ (by rfl) (by decide) (As := [.int 2, .int c]) (rest := []) rfl rfl (Nat.le_of_ble_eq_true rfl) dX8_isWord_50 (fun rv s22 hq => ?_)
            obtain ⟨r24, rfl, p23⟩ := hq
            refine V_if_eq C (tgt := 112) dX8_isWord_53 (by decide) (fun h25 => ?_) (fun h25 => ?_)
            · skip
              have p26 := p23.1 h25
              refine V_blk C (pc' := 113) (σ' := s22) (L' := [some (.ref 63), some (.int a), some (.int b), some (.int c), some (.int d), some (.int e), some (.int f), some (.int g), some (.int hh_)]) (st' := [.int 0]) (g_c dX8_isWord_112 g_n) rfl rfl ?_
              refine V_zret C (by decide) dX8_isWord_113 ?_
              exact p26
            · skip
              have p27 := p23.2 h25
              refine V_blk C (pc' := 60) (σ' := s22) (L' := [some (.ref 63), some (.int a), some (.int b), some (.int c), some (.int d), some (.int e), some (.int f), some (.int g), some (.int hh_)]) (st' := [.int d, .int 3, .ref 63]) (g_c dX8_isWord_56 (g_c dX8_isWord_57 (g_c dX8_isWord_58 g_n))) rfl rfl ?_
              refine V_gV C cv_X8_198 p27 ⟨_, _, _, _, rfl, rfl⟩ (by rfl) (by decide) (As := [.int 3, .int d]) (rest := []) rfl rfl (Nat.le_of_ble_eq_true rfl) dX8_isWord_60 (fun rv s28 hq => ?_)
              obtain ⟨r30, rfl, p29⟩ := hq
              refine V_if_eq C (tgt := 112) dX8_isWord_63 (by decide) (fun h31 => ?_) (fun h31 => ?_)
              · skip
                have p32 := p29.1 h31
                refine V_blk C (pc' := 113) (σ' := s28) (L' := [some (.ref 63), some (.int a), some (.int b), some (.int c), some (.int d), some (.int e), some (.int f), some (.int g), some (.int hh_)]) (st' := [.int 0]) (g_c dX8_isWord_112 g_n) rfl rfl ?_
                refine V_zret C (by decide) dX8_isWord_113 ?_
                exact p32
              · skip
                have p33 := p29.2 h31
                refine V_blk C (pc' := 70) (σ' := s28) (L' := [some (.ref 63), some (.int a), some (.int b), some (.int c), some (.int d), some (.int e), some (.int f), some (.int g), some (.int hh_)]) (st' := [.int e, .int 4, .ref 63]) (g_c dX8_isWord_66 (g_c dX8_isWord_67 (g_c dX8_isWord_68 g_n))) rfl rfl ?_
                refine V_gV C cv_X8_198 p33 ⟨_, _, _, _, rfl, rfl⟩ (by rfl) (by decide) (As := [.int 4, .int e]) (rest := []) rfl rfl (Nat.le_of_ble_eq_true rfl) dX8_isWord_70 (fun rv s34 hq => ?_)
                obtain ⟨r36, rfl, p35⟩ := hq
                refine V_if_eq C (tgt := 112) dX8_isWord_73 (by decide) (fun h37 => ?_) (fun h37 => ?_)
                · skip
                  have p38 := p35.1 h37
                  refine V_blk C (pc' := 113) (σ' := s34) (L' := [some (.ref 63), some (.int a), some (.int b), some (.int c), some (.int d), some (.int e), some (.int f), some (.int g), some (.int hh_)]) (st' := [.int 0]) (g_c dX8_isWord_112 g_n) rfl rfl ?_
                  refine V_zret C (by decide) dX8_isWord_113 ?_
                  exact p38
                · skip
                  have p39 := p35.2 h37
                  refine V_blk C (pc' := 80) (σ' := s34) (L' := [some (.ref 63), some (.int a), some (.int b), some (.int c), some (.int d), some (.int e), some (.int f), some (.int g), some (.int hh_)]) (st' := [.int f, .int 5, .ref 63]) (g_c dX8_isWord_76 (g_c dX8_isWord_77 (g_c dX8_isWord_78 g_n))) rfl rfl ?_
                  refine V_gV C cv_X8_198 p39 ⟨_, _, _, _, rfl, rfl⟩ (by rfl) (by decide) (As := [.int 5, .int f]) (rest := []) rfl rfl (Nat.le_of_ble_eq_true rfl) dX8_isWord_80 (fun rv s40 hq => ?_)
                  obtain ⟨r42, rfl, p41⟩ := hq
                  refine V_if_eq C (tgt := 112) dX8_isWord_83 (by decide) (fun h43 => ?_) (fun h43 => ?_)
                  · skip
                    have p44 := p41.1 h43
                    refine V_blk C (pc' := 113) (σ' := s40) (L' := [some (.ref 63), some (.int a), some (.int b), some (.int c), some (.int d), some (.int e), some (.int f), some (.int g), some (.int hh_)]) (st' := [.int 0]) (g_c dX8_isWord_112 g_n) rfl rfl ?_
                    refine V_zret C (by decide) dX8_isWord_113 ?_
                    exact p44
                  · skip
                    have p45 := p41.2 h43
                    refine V_blk C (pc' := 91) (σ' := s40) (L' := [some (.ref 63), some (.int a), some (.int b), some (.int c), some (.int d), some (.int e), some (.int f), some (.int g), some (.int hh_)]) (st' := [.int g, .int 6, .ref 63]) (g_c dX8_isWord_86 (g_c dX8_isWord_87 (g_c dX8_isWord_89 g_n))) rfl rfl ?_
                    refine V_gV C cv_X8_198 p45 ⟨_, _, _, _, rfl, rfl⟩ (by rfl) (by decide) (As := [.int 6, .int g]) (rest := []) rfl rfl (Nat.le_of_ble_eq_true rfl) dX8_isWord_91 (fun rv s46 hq => ?_)
                    obtain ⟨r48, rfl, p47⟩ := hq
                    refine V_if_eq C (tgt := 112) dX8_isWord_94 (by decide) (fun h49 => ?_) (fun h49 => ?_)
                    · skip
                      have p50 := p47.1 h49
                      refine V_blk C (pc' := 113) (σ' := s46) (L' := [some (.ref 63), some (.int a), some (.int b), some (.int c), some (.int d), some (.int e), some (.int f), some (.int g), some (.int hh_)]) (st' := [.int 0]) (g_c dX8_isWord_112 g_n) rfl rfl ?_
                      refine V_zret C (by decide) dX8_isWord_113 ?_
                      exact p50
                    · skip
                      have p51 := p47.2 h49
                      refine V_blk C (pc' := 102) (σ' := s46) (L' := [some (.ref 63), some (.int a), some (.int b), some (.int c), some (.int d), some (.int e), some (.int f), some (.int g), some (.int hh_)]) (st' := [.int hh_, .int 7, .ref 63]) (g_c dX8_isWord_97 (g_c dX8_isWord_98 (g_c dX8_isWord_100 g_n))) rfl rfl ?_
                      refine V_gV C cv_X8_198 p51 ⟨_, _, _, _, rfl, rfl⟩ (by rfl) (by decide) (As := [.int 7, .int hh_]) (rest := []) rfl rfl (Nat.le_of_ble_eq_true rfl) dX8_isWord_102 (fun rv s52 hq => ?_)
                      obtain ⟨r54, rfl, p53⟩ := hq
                      refine V_join (P := (r54 : Int32) = 0) (a := 0) (b := 1) (pcJ := 113) (rest := []) (fun x_ hx_ => ?_) (fun kT kF => ?_)
                      · skip
                        subst hx_
                        refine V_zret C (by split <;> simp) dX8_isWord_113 ?_
                        exact p53
                      · refine V_if_eq C (tgt := 112) dX8_isWord_105 (by decide) (fun h55 => ?_) (fun h55 => ?_)
                        · skip
                          refine V_blk C (pc' := 113) (σ' := s52) (L' := [some (.ref 63), some (.int a), some (.int b), some (.int c), some (.int d), some (.int e), some (.int f), some (.int g), some (.int hh_)]) (st' := [.int 0]) (g_c dX8_isWord_112 g_n) rfl rfl ?_
                          exact kT h55
                        · skip
                          refine V_blk C (pc' := 109) (σ' := s52) (L' := [some (.ref 63), some (.int a), some (.int b), some (.int c), some (.int d), some (.int e), some (.int f), some (.int g), some (.int hh_)]) (st' := [.int 1]) (g_c dX8_isWord_108 g_n) rfl rfl ?_
                          refine V_goto C (tgt := 113) dX8_isWord_109 (by decide) ?_
                          exact kF h55
set_option maxRecDepth 100000 in
def P_X8_isSign (h : Nat) (sg : Int32) (σ : gS) (Qp : Option Value → gS → Prop) : Prop :=
  ((((σ 63 33) : Int32) = 0 → ((((σ 63 29) : Int32) = 3 → (Qp (some (.int (if ((Int32.toInt64 (σ 63 31)) : Int64) = (Int32.toInt64 sg) then 1 else 0))) σ)) ∧ (¬ ((σ 63 29) : Int32) = 3 → (Qp (some (.int 0)) σ)))) ∧ (¬ ((σ 63 33) : Int32) = 0 → (Qp (some (.int 0)) σ)))
set_option maxHeartbeats 4000000 in
set_option maxRecDepth 100000 in
theorem w_X8_isSign {h : Nat} (hh : 6 ≤ h) {sg : Int32} {σ : gS} {Qp : Option Value → gS → Prop} (P : P_X8_isSign h sg σ Qp) : g_Met yX8_isSign cX8_isSign 2 (some .boolean) h kM [.ref 63, .int sg] σ Qp := by
  unfold P_X8_isSign at P
  refine g_Met.of (own := 8) (L := [some (.ref 63), some (.int sg)]) (by decide) rfl rfl (fun ad => Nat.le_of_ble_eq_true rfl) (fun ad => rfl) (fun X G K C => ?_)
  refine V_blk C (pc' := 4) (σ' := σ) (L' := [some (.ref 63), some (.int sg)]) (st' := [.int (σ 63 33)]) (g_c dX8_isSign_0 (g_c dX8_isSign_1 g_n)) rfl rfl ?_
  refine V_if_ne C (tgt := 29) dX8_isSign_4 (by decide) (fun h1 => ?_) (fun h1 => ?_)
  · skip
    have p2 := P.2 h1
    refine V_blk C (pc' := 30) (σ' := σ) (L' := [some (.ref 63), some (.int sg)]) (st' := [.int 0]) (g_c dX8_isSign_29 g_n) rfl rfl ?_
    refine V_zret C (by decide) dX8_isSign_30 ?_
    exact p2
  · skip
    have p3 := P.1 h1
    refine V_blk C (pc' := 12) (σ' := σ) (L' := [some (.ref 63), some (.int sg)]) (st' := [.int 3, .int (σ 63 29)]) (g_c dX8_isSign_7 (g_c dX8_isSign_8 (g_c dX8_isSign_11 g_n))) rfl rfl ?_
    refine V_icmp_ne C (tgt := 29) dX8_isSign_12 (by decide) (fun h4 => ?_) (fun h4 => ?_)
    · skip
      have p5 := p3.2 h4
      refine V_blk C (pc' := 30) (σ' := σ) (L' := [some (.ref 63), some (.int sg)]) (st' := [.int 0]) (g_c dX8_isSign_29 g_n) rfl rfl ?_
      refine V_zret C (by decide) dX8_isSign_30 ?_
      exact p5
    · skip
      have p6 := p3.1 h4
      refine V_blk C (pc' := 21) (σ' := σ) (L' := [some (.ref 63), some (.int sg)]) (st' := [.long (Int32.toInt64 sg), .long (Int32.toInt64 (σ 63 31))]) (g_c dX8_isSign_15 (g_c dX8_isSign_16 (g_c dX8_isSign_19 (g_c dX8_isSign_20 g_n)))) rfl rfl ?_
      refine V_join (P := ((Int32.toInt64 (σ 63 31)) : Int64) = (Int32.toInt64 sg)) (a := 1) (b := 0) (pcJ := 30) (rest := []) (fun x_ hx_ => ?_) (fun kT kF => ?_)
      · skip
        subst hx_
        refine V_zret C (by split <;> simp) dX8_isSign_30 ?_
        exact p6
      · refine V_lcmp_ne C (tgt := 29) dX8_isSign_21 dX8_isSign_22 (by decide) (fun h7 => ?_) (fun h7 => ?_)
        · skip
          refine V_blk C (pc' := 30) (σ' := σ) (L' := [some (.ref 63), some (.int sg)]) (st' := [.int 0]) (g_c dX8_isSign_29 g_n) rfl rfl ?_
          exact kF h7
        · skip
          refine V_blk C (pc' := 26) (σ' := σ) (L' := [some (.ref 63), some (.int sg)]) (st' := [.int 1]) (g_c dX8_isSign_25 g_n) rfl rfl ?_
          refine V_goto C (tgt := 30) dX8_isSign_26 (by decide) ?_
          exact kT h7
set_option maxRecDepth 100000 in
def P_X8_opens (h : Nat)  (σ : gS) (Qp : Option Value → gS → Prop) : Prop :=
  ((((σ 63 32) : Int32) = 5 → (g_call yX8_fail cX8_fail 1 none kM h [.ref 63] σ (fun rv s6 => rv = none ∧ (Qp (some (.int 0)) s6)))) ∧ (¬ ((σ 63 32) : Int32) = 5 → (g_call yX8_next cX8_next 3 none kM h [.ref 63] (g_up σ 63 32 ((σ 63 32) + 1)) (fun rv s3 => rv = none ∧ (Qp (some (.int 1)) s3)))))
set_option maxHeartbeats 4000000 in
set_option maxRecDepth 100000 in
theorem w_X8_opens {h : Nat} (hh : 6 ≤ h)  {σ : gS} {Qp : Option Value → gS → Prop} (P : P_X8_opens h  σ Qp) : g_Met yX8_opens cX8_opens 1 (some .boolean) h kM [.ref 63] σ Qp := by
  unfold P_X8_opens at P
  refine g_Met.of (own := 8) (L := [some (.ref 63)]) (by decide) rfl rfl (fun ad => Nat.le_of_ble_eq_true rfl) (fun ad => rfl) (fun X G K C => ?_)
  refine V_blk C (pc' := 5) (σ' := σ) (L' := [some (.ref 63)]) (st' := [.int 5, .int (σ 63 32)]) (g_c dX8_opens_0 (g_c dX8_opens_1 (g_c dX8_opens_4 g_n))) rfl rfl ?_
  refine V_icmp_ne C (tgt := 14) dX8_opens_5 (by decide) (fun h1 => ?_) (fun h1 => ?_)
  · skip
    have p2 := P.2 h1
    refine V_blk C (pc' := 25) (σ' := (g_up σ 63 32 ((σ 63 32) + 1))) (L' := [some (.ref 63)]) (st' := [.ref 63]) (g_c dX8_opens_14 (g_c dX8_opens_15 (g_c dX8_opens_16 (g_c dX8_opens_19 (g_c dX8_opens_20 (g_c dX8_opens_21 (g_c dX8_opens_24 g_n))))))) rfl rfl ?_
    refine V_gV C cv_X8_208 p2 ⟨_, _, _, _, rfl, rfl⟩ (by rfl) (by decide) (As := []) (rest := []) rfl rfl (Nat.le_of_ble_eq_true rfl) dX8_opens_25 (fun rv s3 hq => ?_)
    obtain ⟨rfl, p4⟩ := hq
    refine V_blk C (pc' := 29) (σ' := s3) (L' := [some (.ref 63)]) (st' := [.int 1]) (g_c dX8_opens_28 g_n) rfl rfl ?_
    refine V_zret C (by decide) dX8_opens_29 ?_
    exact p4
  · skip
    have p5 := P.1 h1
    refine V_blk C (pc' := 9) (σ' := σ) (L' := [some (.ref 63)]) (st' := [.ref 63]) (g_c dX8_opens_8 g_n) rfl rfl ?_
    refine V_gV C cv_X8_205 p5 ⟨_, _, _, _, rfl, rfl⟩ (by rfl) (by decide) (As := []) (rest := []) rfl rfl (Nat.le_of_ble_eq_true rfl) dX8_opens_9 (fun rv s6 hq => ?_)
    obtain ⟨rfl, p7⟩ := hq
    refine V_blk C (pc' := 13) (σ' := s6) (L' := [some (.ref 63)]) (st' := [.int 0]) (g_c dX8_opens_12 g_n) rfl rfl ?_
    refine V_zret C (by decide) dX8_opens_13 ?_
    exact p7
set_option maxRecDepth 100000 in
def P_X8_name (h : Nat)  (σ : gS) (Qp : Option Value → gS → Prop) : Prop :=
  (g_call yX8_isWord cX8_isWord 9 (some .boolean) kM h [.ref 63, .int 114, .int 97, .int 105, .int 110, .int 0, .int 0, .int 0, .int 0] σ (fun rv s1 => ∃ r3 : Int32, rv = some (.int r3) ∧ (((r3 : Int32) = 0 → (g_call yX8_isWord cX8_isWord 9 (some .boolean) kM h [.ref 63, .int 104, .int 111, .int 117, .int 114, .int 0, .int 0, .int 0, .int 0] s1 (fun rv s6 => ∃ r8 : Int32, rv = some (.int r8) ∧ (((r8 : Int32) = 0 → (g_call yX8_isWord cX8_isWord 9 (some .boolean) kM h [.ref 63, .int 112, .int 108, .int 97, .int 99, .int 101, .int 0, .int 0, .int 0] s6 (fun rv s11 => ∃ r13 : Int32, rv = some (.int r13) ∧ (((r13 : Int32) = 0 → (g_call yX8_isWord cX8_isWord 9 (some .boolean) kM h [.ref 63, .int 114, .int 97, .int 116, .int 101, .int 0, .int 0, .int 0, .int 0] s11 (fun rv s16 => ∃ r18 : Int32, rv = some (.int r18) ∧ (((r18 : Int32) = 0 → (g_call yX8_isWord cX8_isWord 9 (some .boolean) kM h [.ref 63, .int 115, .int 105, .int 122, .int 101, .int 0, .int 0, .int 0, .int 0] s16 (fun rv s21 => ∃ r23 : Int32, rv = some (.int r23) ∧ (((r23 : Int32) = 0 → (g_call yX8_isWord cX8_isWord 9 (some .boolean) kM h [.ref 63, .int 103, .int 111, .int 110, .int 101, .int 0, .int 0, .int 0, .int 0] s21 (fun rv s26 => ∃ r28 : Int32, rv = some (.int r28) ∧ (((r28 : Int32) = 0 → (g_call yX8_fail cX8_fail 1 none kM h [.ref 63] s26 (fun rv s31 => rv = none ∧ (Qp (some (.int 0)) s31)))) ∧ (¬ (r28 : Int32) = 0 → (Qp (some (.int (s26 63 25))) s26)))))) ∧ (¬ (r23 : Int32) = 0 → (Qp (some (.int (s21 63 24))) s21)))))) ∧ (¬ (r18 : Int32) = 0 → (Qp (some (.int (s16 63 23))) s16)))))) ∧ (¬ (r13 : Int32) = 0 → (Qp (some (.int (s11 63 22))) s11)))))) ∧ (¬ (r8 : Int32) = 0 → (Qp (some (.int (s6 63 21))) s6)))))) ∧ (¬ (r3 : Int32) = 0 → (Qp (some (.int (s1 63 20))) s1)))))
set_option maxHeartbeats 4000000 in
set_option maxRecDepth 100000 in
theorem w_X8_name {h : Nat} (hh : 6 ≤ h)  {σ : gS} {Qp : Option Value → gS → Prop} (P : P_X8_name h  σ Qp) : g_Met yX8_name cX8_name 1 (some .int) h kM [.ref 63] σ Qp := by
  unfold P_X8_name at P
  refine g_Met.of (own := 8) (L := [some (.ref 63)]) (by decide) rfl rfl (fun ad => Nat.le_of_ble_eq_true rfl) (fun ad => rfl) (fun X G K C => ?_)
  refine V_blk C (pc' := 13) (σ' := σ) (L' := [some (.ref 63)]) (st' := [.int 0, .int 0, .int 0, .int 0, .int 110, .int 105, .int 97, .int 114, .ref 63]) (g_c dX8_name_0 (g_c dX8_name_1 (g_c dX8_name_3 (g_c dX8_name_5 (g_c dX8_name_7 (g_c dX8_name_9 (g_c dX8_name_10 (g_c dX8_name_11 (g_c dX8_name_12 g_n))))))))) rfl rfl ?_
  refine V_gV C cv_X8_211 P ⟨_, _, _, _, rfl, rfl⟩ (by rfl) (by decide) (As := [.int 114, .int 97, .int 105, .int 110, .int 0, .int 0, .int 0, .int 0]) (rest := []) rfl rfl (Nat.le_of_ble_eq_true rfl) dX8_name_13 (fun rv s1 hq => ?_)
  obtain ⟨r3, rfl, p2⟩ := hq
  refine V_if_eq C (tgt := 24) dX8_name_16 (by decide) (fun h4 => ?_) (fun h4 => ?_)
  · skip
    have p5 := p2.1 h4
    refine V_blk C (pc' := 37) (σ' := s1) (L' := [some (.ref 63)]) (st' := [.int 0, .int 0, .int 0, .int 0, .int 114, .int 117, .int 111, .int 104, .ref 63]) (g_c dX8_name_24 (g_c dX8_name_25 (g_c dX8_name_27 (g_c dX8_name_29 (g_c dX8_name_31 (g_c dX8_name_33 (g_c dX8_name_34 (g_c dX8_name_35 (g_c dX8_name_36 g_n))))))))) rfl rfl ?_
    refine V_gV C cv_X8_211 p5 ⟨_, _, _, _, rfl, rfl⟩ (by rfl) (by decide) (As := [.int 104, .int 111, .int 117, .int 114, .int 0, .int 0, .int 0, .int 0]) (rest := []) rfl rfl (Nat.le_of_ble_eq_true rfl) dX8_name_37 (fun rv s6 hq => ?_)
    obtain ⟨r8, rfl, p7⟩ := hq
    refine V_if_eq C (tgt := 48) dX8_name_40 (by decide) (fun h9 => ?_) (fun h9 => ?_)
    · skip
      have p10 := p7.1 h9
      refine V_blk C (pc' := 62) (σ' := s6) (L' := [some (.ref 63)]) (st' := [.int 0, .int 0, .int 0, .int 101, .int 99, .int 97, .int 108, .int 112, .ref 63]) (g_c dX8_name_48 (g_c dX8_name_49 (g_c dX8_name_51 (g_c dX8_name_53 (g_c dX8_name_55 (g_c dX8_name_57 (g_c dX8_name_59 (g_c dX8_name_60 (g_c dX8_name_61 g_n))))))))) rfl rfl ?_
      refine V_gV C cv_X8_211 p10 ⟨_, _, _, _, rfl, rfl⟩ (by rfl) (by decide) (As := [.int 112, .int 108, .int 97, .int 99, .int 101, .int 0, .int 0, .int 0]) (rest := []) rfl rfl (Nat.le_of_ble_eq_true rfl) dX8_name_62 (fun rv s11 hq => ?_)
      obtain ⟨r13, rfl, p12⟩ := hq
      refine V_if_eq C (tgt := 73) dX8_name_65 (by decide) (fun h14 => ?_) (fun h14 => ?_)
      · skip
        have p15 := p12.1 h14
        refine V_blk C (pc' := 86) (σ' := s11) (L' := [some (.ref 63)]) (st' := [.int 0, .int 0, .int 0, .int 0, .int 101, .int 116, .int 97, .int 114, .ref 63]) (g_c dX8_name_73 (g_c dX8_name_74 (g_c dX8_name_76 (g_c dX8_name_78 (g_c dX8_name_80 (g_c dX8_name_82 (g_c dX8_name_83 (g_c dX8_name_84 (g_c dX8_name_85 g_n))))))))) rfl rfl ?_
        refine V_gV C cv_X8_211 p15 ⟨_, _, _, _, rfl, rfl⟩ (by rfl) (by decide) (As := [.int 114, .int 97, .int 116, .int 101, .int 0, .int 0, .int 0, .int 0]) (rest := []) rfl rfl (Nat.le_of_ble_eq_true rfl) dX8_name_86 (fun rv s16 hq => ?_)
        obtain ⟨r18, rfl, p17⟩ := hq
        refine V_if_eq C (tgt := 97) dX8_name_89 (by decide) (fun h19 => ?_) (fun h19 => ?_)
        · skip
          have p20 := p17.1 h19
          refine V_blk C (pc' := 110) (σ' := s16) (L' := [some (.ref 63)]) (st' := [.int 0, .int 0, .int 0, .int 0, .int 101, .int 122, .int 105, .int 115, .ref 63]) (g_c dX8_name_97 (g_c dX8_name_98 (g_c dX8_name_100 (g_c dX8_name_102 (g_c dX8_name_104 (g_c dX8_name_106 (g_c dX8_name_107 (g_c dX8_name_108 (g_c dX8_name_109 g_n))))))))) rfl rfl ?_
          refine V_gV C cv_X8_211 p20 ⟨_, _, _, _, rfl, rfl⟩ (by rfl) (by decide) (As := [.int 115, .int 105, .int 122, .int 101, .int 0, .int 0, .int 0, .int 0]) (rest := []) rfl rfl (Nat.le_of_ble_eq_true rfl) dX8_name_110 (fun rv s21 hq => ?_)
          obtain ⟨r23, rfl, p22⟩ := hq
          refine V_if_eq C (tgt := 121) dX8_name_113 (by decide) (fun h24 => ?_) (fun h24 => ?_)
          · skip
            have p25 := p22.1 h24
            refine V_blk C (pc' := 134) (σ' := s21) (L' := [some (.ref 63)]) (st' := [.int 0, .int 0, .int 0, .int 0, .int 101, .int 110, .int 111, .int 103, .ref 63]) (g_c dX8_name_121 (g_c dX8_name_122 (g_c dX8_name_124 (g_c dX8_name_126 (g_c dX8_name_128 (g_c dX8_name_130 (g_c dX8_name_131 (g_c dX8_name_132 (g_c dX8_name_133 g_n))))))))) rfl rfl ?_
            refine V_gV C cv_X8_211 p25 ⟨_, _, _, _, rfl, rfl⟩ (by rfl) (by decide) (As := [.int 103, .int 111, .int 110, .int 101, .int 0, .int 0, .int 0, .int 0]) (rest := []) rfl rfl (Nat.le_of_ble_eq_true rfl) dX8_name_134 (fun rv s26 hq => ?_)
            obtain ⟨r28, rfl, p27⟩ := hq
            refine V_if_eq C (tgt := 145) dX8_name_137 (by decide) (fun h29 => ?_) (fun h29 => ?_)
            · skip
              have p30 := p27.1 h29
              refine V_blk C (pc' := 146) (σ' := s26) (L' := [some (.ref 63)]) (st' := [.ref 63]) (g_c dX8_name_145 g_n) rfl rfl ?_
              refine V_gV C cv_X8_205 p30 ⟨_, _, _, _, rfl, rfl⟩ (by rfl) (by decide) (As := []) (rest := []) rfl rfl (Nat.le_of_ble_eq_true rfl) dX8_name_146 (fun rv s31 hq => ?_)
              obtain ⟨rfl, p32⟩ := hq
              refine V_blk C (pc' := 150) (σ' := s31) (L' := [some (.ref 63)]) (st' := [.int 0]) (g_c dX8_name_149 g_n) rfl rfl ?_
              refine V_iret C dX8_name_150 ?_
              exact p32
            · skip
              have p33 := p27.2 h29
              refine V_blk C (pc' := 144) (σ' := s26) (L' := [some (.ref 63)]) (st' := [.int (s26 63 25)]) (g_c dX8_name_140 (g_c dX8_name_141 g_n)) rfl rfl ?_
              refine V_iret C dX8_name_144 ?_
              exact p33
          · skip
            have p34 := p22.2 h24
            refine V_blk C (pc' := 120) (σ' := s21) (L' := [some (.ref 63)]) (st' := [.int (s21 63 24)]) (g_c dX8_name_116 (g_c dX8_name_117 g_n)) rfl rfl ?_
            refine V_iret C dX8_name_120 ?_
            exact p34
        · skip
          have p35 := p17.2 h19
          refine V_blk C (pc' := 96) (σ' := s16) (L' := [some (.ref 63)]) (st' := [.int (s16 63 23)]) (g_c dX8_name_92 (g_c dX8_name_93 g_n)) rfl rfl ?_
          refine V_iret C dX8_name_96 ?_
          exact p35
      · skip
        have p36 := p12.2 h14
        refine V_blk C (pc' := 72) (σ' := s11) (L' := [some (.ref 63)]) (st' := [.int (s11 63 22)]) (g_c dX8_name_68 (g_c dX8_name_69 g_n)) rfl rfl ?_
        refine V_iret C dX8_name_72 ?_
        exact p36
    · skip
      have p37 := p7.2 h9
      refine V_blk C (pc' := 47) (σ' := s6) (L' := [some (.ref 63)]) (st' := [.int (s6 63 21)]) (g_c dX8_name_43 (g_c dX8_name_44 g_n)) rfl rfl ?_
      refine V_iret C dX8_name_47 ?_
      exact p37
  · skip
    have p38 := p2.2 h4
    refine V_blk C (pc' := 23) (σ' := s1) (L' := [some (.ref 63)]) (st' := [.int (s1 63 20)]) (g_c dX8_name_19 (g_c dX8_name_20 g_n)) rfl rfl ?_
    refine V_iret C dX8_name_23 ?_
    exact p38
set_option maxRecDepth 100000 in
def P_X8_atom (h : Nat)  (σ : gS) (Qp : Option Value → gS → Prop) : Prop :=
  (g_call yX8_isSign cX8_isSign 2 (some .boolean) kM h [.ref 63, .int 45] σ (fun rv s1 => ∃ r3 : Int32, rv = some (.int r3) ∧ (((r3 : Int32) = 0 → (g_call yX8_isSign cX8_isSign 2 (some .boolean) kM h [.ref 63, .int 40] s1 (fun rv s6 => ∃ r8 : Int32, rv = some (.int r8) ∧ (((r8 : Int32) = 0 → (∃ J11 : Prop, ((((s6 63 33) : Int32) = 0 → ((((s6 63 29) : Int32) = 2 → (g_call yX8_next cX8_next 3 none kM h [.ref 63] s6 (fun rv s45 => rv = none ∧ (Qp (some (.int (Int64.toInt32 (Int32.toInt64 (s6 63 31))))) s45)))) ∧ (¬ ((s6 63 29) : Int32) = 2 → (J11)))) ∧ (¬ ((s6 63 33) : Int32) = 0 → (J11))) ∧ (J11 → (∃ J17 : Prop, ((((s6 63 33) : Int32) = 0 → ((((s6 63 29) : Int32) = 1 → (g_call yX8_name cX8_name 1 (some .int) kM h [.ref 63] s6 (fun rv s31 => ∃ r33 : Int32, rv = some (.int r33) ∧ ((((s31 63 33) : Int32) = 0 → (g_call yX8_next cX8_next 3 none kM h [.ref 63] s31 (fun rv s37 => rv = none ∧ (Qp (some (.int r33)) s37)))) ∧ (¬ ((s31 63 33) : Int32) = 0 → (Qp (some (.int r33)) s31)))))) ∧ (¬ ((s6 63 29) : Int32) = 1 → (J17)))) ∧ (¬ ((s6 63 33) : Int32) = 0 → (J17))) ∧ (J17 → (g_call yX8_fail cX8_fail 1 none kM h [.ref 63] s6 (fun rv s23 => rv = none ∧ (Qp (some (.int 0)) s23)))))))) ∧ (¬ (r8 : Int32) = 0 → (g_call yX8_opens cX8_opens 1 (some .boolean) kM h [.ref 63] s6 (fun rv s48 => ∃ r50 : Int32, rv = some (.int r50) ∧ (((r50 : Int32) = 0 → (Qp (some (.int 0)) s48)) ∧ (¬ (r50 : Int32) = 0 → (g_call yX8_either cX8_either 3 (some .int) kM h [.ref 63] s48 (fun rv s54 => ∃ r56 : Int32, rv = some (.int r56) ∧ (g_call yX8_isSign cX8_isSign 2 (some .boolean) kM h [.ref 63, .int 41] s54 (fun rv s57 => ∃ r59 : Int32, rv = some (.int r59) ∧ (∃ J61 : gS → Prop, (((r59 : Int32) = 0 → (g_call yX8_fail cX8_fail 1 none kM h [.ref 63] s57 (fun rv s75 => rv = none ∧ (J61 s75)))) ∧ (¬ (r59 : Int32) = 0 → (J61 s57))) ∧ ∀  (s60 : gS), J61 s60 → ((((s60 63 33) : Int32) = 0 → (g_call yX8_next cX8_next 3 none kM h [.ref 63] (g_up s60 63 32 ((s60 63 32) - 1)) (fun rv s70 => rv = none ∧ (Qp (some (.int r56)) s70)))) ∧ (¬ ((s60 63 33) : Int32) = 0 → (Qp (some (.int r56)) (g_up s60 63 32 ((s60 63 32) - 1))))))))))))))))))) ∧ (¬ (r3 : Int32) = 0 → (g_call yX8_opens cX8_opens 1 (some .boolean) kM h [.ref 63] s1 (fun rv s78 => ∃ r80 : Int32, rv = some (.int r80) ∧ (((r80 : Int32) = 0 → (Qp (some (.int 0)) s78)) ∧ (¬ (r80 : Int32) = 0 → (g_call yX8_atom cX8_atom 2 (some .int) kM h [.ref 63] s78 (fun rv s84 => ∃ r86 : Int32, rv = some (.int r86) ∧ (Qp (some (.int (-r86))) (g_up s84 63 32 ((s84 63 32) - 1)))))))))))))
set_option maxHeartbeats 4000000 in
set_option maxRecDepth 100000 in
theorem w_X8_atom {h : Nat} (hh : 6 ≤ h)  {σ : gS} {Qp : Option Value → gS → Prop} (P : P_X8_atom h  σ Qp) : g_Met yX8_atom cX8_atom 2 (some .int) h kM [.ref 63] σ Qp := by
  unfold P_X8_atom at P
  refine g_Met.of (own := 8) (L := [some (.ref 63), none]) (by decide) rfl rfl (fun ad => Nat.le_of_ble_eq_true rfl) (fun ad => rfl) (fun X G K C => ?_)
  refine V_blk C (pc' := 5) (σ' := σ) (L' := [some (.ref 63), some (.int 0)]) (st' := [.int 45, .ref 63]) (g_c dX8_atom_0 (g_c dX8_atom_1 (g_c dX8_atom_2 (g_c dX8_atom_3 g_n)))) rfl rfl ?_
  refine V_gV C cv_X8_233 P ⟨_, _, _, _, rfl, rfl⟩ (by rfl) (by decide) (As := [.int 45]) (rest := []) rfl rfl (Nat.le_of_ble_eq_true rfl) dX8_atom_5 (fun rv s1 hq => ?_)
  obtain ⟨r3, rfl, p2⟩ := hq
  refine V_if_eq C (tgt := 37) dX8_atom_8 (by decide) (fun h4 => ?_) (fun h4 => ?_)
  · skip
    have p5 := p2.1 h4
    refine V_blk C (pc' := 40) (σ' := s1) (L' := [some (.ref 63), some (.int 0)]) (st' := [.int 40, .ref 63]) (g_c dX8_atom_37 (g_c dX8_atom_38 g_n)) rfl rfl ?_
    refine V_gV C cv_X8_233 p5 ⟨_, _, _, _, rfl, rfl⟩ (by rfl) (by decide) (As := [.int 40]) (rest := []) rfl rfl (Nat.le_of_ble_eq_true rfl) dX8_atom_40 (fun rv s6 hq => ?_)
    obtain ⟨r8, rfl, p7⟩ := hq
    refine V_if_eq C (tgt := 95) dX8_atom_43 (by decide) (fun h9 => ?_) (fun h9 => ?_)
    · skip
      have p10 := p7.1 h9
      refine V_blk C (pc' := 99) (σ' := s6) (L' := [some (.ref 63), some (.int 0)]) (st' := [.int (s6 63 33)]) (g_c dX8_atom_95 (g_c dX8_atom_96 g_n)) rfl rfl ?_
      obtain ⟨J11, p13, p14⟩ := p10
      have jn12 : ∀ (_ : J11 ), gV X G K 2 Qp s6 [some (.ref 63), some (.int 0)] [] 123 := by
        intro  hJ15
        have p16 := p14  hJ15
        refine V_blk C (pc' := 127) (σ' := s6) (L' := [some (.ref 63), some (.int 0)]) (st' := [.int (s6 63 33)]) (g_c dX8_atom_123 (g_c dX8_atom_124 g_n)) rfl rfl ?_
        obtain ⟨J17, p19, p20⟩ := p16
        have jn18 : ∀ (_ : J17 ), gV X G K 2 Qp s6 [some (.ref 63), some (.int 0)] [] 157 := by
          intro  hJ21
          have p22 := p20  hJ21
          refine V_blk C (pc' := 158) (σ' := s6) (L' := [some (.ref 63), some (.int 0)]) (st' := [.ref 63]) (g_c dX8_atom_157 g_n) rfl rfl ?_
          refine V_gV C cv_X8_205 p22 ⟨_, _, _, _, rfl, rfl⟩ (by rfl) (by decide) (As := []) (rest := []) rfl rfl (Nat.le_of_ble_eq_true rfl) dX8_atom_158 (fun rv s23 hq => ?_)
          obtain ⟨rfl, p24⟩ := hq
          refine V_blk C (pc' := 162) (σ' := s23) (L' := [some (.ref 63), some (.int 0)]) (st' := [.int 0]) (g_c dX8_atom_161 g_n) rfl rfl ?_
          refine V_iret C dX8_atom_162 ?_
          exact p24
        refine V_if_ne C (tgt := 157) dX8_atom_127 (by decide) (fun h25 => ?_) (fun h25 => ?_)
        · skip
          have p26 := p19.2 h25
          exact jn18 p26
        · skip
          have p27 := p19.1 h25
          refine V_blk C (pc' := 135) (σ' := s6) (L' := [some (.ref 63), some (.int 0)]) (st' := [.int 1, .int (s6 63 29)]) (g_c dX8_atom_130 (g_c dX8_atom_131 (g_c dX8_atom_134 g_n))) rfl rfl ?_
          refine V_icmp_ne C (tgt := 157) dX8_atom_135 (by decide) (fun h28 => ?_) (fun h28 => ?_)
          · skip
            have p29 := p27.2 h28
            exact jn18 p29
          · skip
            have p30 := p27.1 h28
            refine V_blk C (pc' := 139) (σ' := s6) (L' := [some (.ref 63), some (.int 0)]) (st' := [.ref 63]) (g_c dX8_atom_138 g_n) rfl rfl ?_
            refine V_gV C cv_X8_247 p30 ⟨_, _, _, _, rfl, rfl⟩ (by rfl) (by decide) (As := []) (rest := []) rfl rfl (Nat.le_of_ble_eq_true rfl) dX8_atom_139 (fun rv s31 hq => ?_)
            obtain ⟨r33, rfl, p32⟩ := hq
            refine V_blk C (pc' := 147) (σ' := s31) (L' := [some (.ref 63), some (.int r33)]) (st' := [.int (s31 63 33)]) (g_c dX8_atom_142 (g_c dX8_atom_143 (g_c dX8_atom_144 g_n))) rfl rfl ?_
            refine V_if_ne C (tgt := 161) dX8_atom_147 (by decide) (fun h34 => ?_) (fun h34 => ?_)
            · skip
              have p35 := p32.2 h34
              refine V_blk C (pc' := 162) (σ' := s31) (L' := [some (.ref 63), some (.int r33)]) (st' := [.int r33]) (g_c dX8_atom_161 g_n) rfl rfl ?_
              refine V_iret C dX8_atom_162 ?_
              exact p35
            · skip
              have p36 := p32.1 h34
              refine V_blk C (pc' := 151) (σ' := s31) (L' := [some (.ref 63), some (.int r33)]) (st' := [.ref 63]) (g_c dX8_atom_150 g_n) rfl rfl ?_
              refine V_gV C cv_X8_208 p36 ⟨_, _, _, _, rfl, rfl⟩ (by rfl) (by decide) (As := []) (rest := []) rfl rfl (Nat.le_of_ble_eq_true rfl) dX8_atom_151 (fun rv s37 hq => ?_)
              obtain ⟨rfl, p38⟩ := hq
              refine V_goto C (tgt := 161) dX8_atom_154 (by decide) ?_
              refine V_blk C (pc' := 162) (σ' := s37) (L' := [some (.ref 63), some (.int r33)]) (st' := [.int r33]) (g_c dX8_atom_161 g_n) rfl rfl ?_
              refine V_iret C dX8_atom_162 ?_
              exact p38
      refine V_if_ne C (tgt := 123) dX8_atom_99 (by decide) (fun h39 => ?_) (fun h39 => ?_)
      · skip
        have p40 := p13.2 h39
        exact jn12 p40
      · skip
        have p41 := p13.1 h39
        refine V_blk C (pc' := 107) (σ' := s6) (L' := [some (.ref 63), some (.int 0)]) (st' := [.int 2, .int (s6 63 29)]) (g_c dX8_atom_102 (g_c dX8_atom_103 (g_c dX8_atom_106 g_n))) rfl rfl ?_
        refine V_icmp_ne C (tgt := 123) dX8_atom_107 (by decide) (fun h42 => ?_) (fun h42 => ?_)
        · skip
          have p43 := p41.2 h42
          exact jn12 p43
        · skip
          have p44 := p41.1 h42
          refine V_blk C (pc' := 117) (σ' := s6) (L' := [some (.ref 63), some (.int (Int64.toInt32 (Int32.toInt64 (s6 63 31))))]) (st' := [.ref 63]) (g_c dX8_atom_110 (g_c dX8_atom_111 (g_c dX8_atom_114 (g_c dX8_atom_115 (g_c dX8_atom_116 g_n))))) rfl rfl ?_
          refine V_gV C cv_X8_208 p44 ⟨_, _, _, _, rfl, rfl⟩ (by rfl) (by decide) (As := []) (rest := []) rfl rfl (Nat.le_of_ble_eq_true rfl) dX8_atom_117 (fun rv s45 hq => ?_)
          obtain ⟨rfl, p46⟩ := hq
          refine V_goto C (tgt := 161) dX8_atom_120 (by decide) ?_
          refine V_blk C (pc' := 162) (σ' := s45) (L' := [some (.ref 63), some (.int (Int64.toInt32 (Int32.toInt64 (s6 63 31))))]) (st' := [.int (Int64.toInt32 (Int32.toInt64 (s6 63 31)))]) (g_c dX8_atom_161 g_n) rfl rfl ?_
          refine V_iret C dX8_atom_162 ?_
          exact p46
    · skip
      have p47 := p7.2 h9
      refine V_blk C (pc' := 47) (σ' := s6) (L' := [some (.ref 63), some (.int 0)]) (st' := [.ref 63]) (g_c dX8_atom_46 g_n) rfl rfl ?_
      refine V_gV C cv_X8_236 p47 ⟨_, _, _, _, rfl, rfl⟩ (by rfl) (by decide) (As := []) (rest := []) rfl rfl (Nat.le_of_ble_eq_true rfl) dX8_atom_47 (fun rv s48 hq => ?_)
      obtain ⟨r50, rfl, p49⟩ := hq
      refine V_if_eq C (tgt := 161) dX8_atom_50 (by decide) (fun h51 => ?_) (fun h51 => ?_)
      · skip
        have p52 := p49.1 h51
        refine V_blk C (pc' := 162) (σ' := s48) (L' := [some (.ref 63), some (.int 0)]) (st' := [.int 0]) (g_c dX8_atom_161 g_n) rfl rfl ?_
        refine V_iret C dX8_atom_162 ?_
        exact p52
      · skip
        have p53 := p49.2 h51
        refine V_blk C (pc' := 54) (σ' := s48) (L' := [some (.ref 63), some (.int 0)]) (st' := [.ref 63]) (g_c dX8_atom_53 g_n) rfl rfl ?_
        refine V_gV C cv_X8_244 p53 ⟨_, _, _, _, rfl, rfl⟩ (by rfl) (by decide) (As := []) (rest := []) rfl rfl (Nat.le_of_ble_eq_true rfl) dX8_atom_54 (fun rv s54 hq => ?_)
        obtain ⟨r56, rfl, p55⟩ := hq
        refine V_blk C (pc' := 61) (σ' := s54) (L' := [some (.ref 63), some (.int r56)]) (st' := [.int 41, .ref 63]) (g_c dX8_atom_57 (g_c dX8_atom_58 (g_c dX8_atom_59 g_n))) rfl rfl ?_
        refine V_gV C cv_X8_233 p55 ⟨_, _, _, _, rfl, rfl⟩ (by rfl) (by decide) (As := [.int 41]) (rest := []) rfl rfl (Nat.le_of_ble_eq_true rfl) dX8_atom_61 (fun rv s57 hq => ?_)
        obtain ⟨r59, rfl, p58⟩ := hq
        obtain ⟨J61, p63, p64⟩ := p58
        have jn62 : ∀  (s60 : gS) (_ : J61 s60), gV X G K 2 Qp s60 [some (.ref 63), some (.int r56)] [] 71 := by
          intro s60 hJ65
          have p66 := p64 s60 hJ65
          refine V_blk C (pc' := 85) (σ' := (g_up s60 63 32 ((s60 63 32) - 1))) (L' := [some (.ref 63), some (.int r56)]) (st' := [.int (s60 63 33)]) (g_c dX8_atom_71 (g_c dX8_atom_72 (g_c dX8_atom_73 (g_c dX8_atom_76 (g_c dX8_atom_77 (g_c dX8_atom_78 (g_c dX8_atom_81 (g_c dX8_atom_82 g_n)))))))) rfl rfl ?_
          refine V_if_ne C (tgt := 161) dX8_atom_85 (by decide) (fun h67 => ?_) (fun h67 => ?_)
          · skip
            have p68 := p66.2 h67
            refine V_blk C (pc' := 162) (σ' := (g_up s60 63 32 ((s60 63 32) - 1))) (L' := [some (.ref 63), some (.int r56)]) (st' := [.int r56]) (g_c dX8_atom_161 g_n) rfl rfl ?_
            refine V_iret C dX8_atom_162 ?_
            exact p68
          · skip
            have p69 := p66.1 h67
            refine V_blk C (pc' := 89) (σ' := (g_up s60 63 32 ((s60 63 32) - 1))) (L' := [some (.ref 63), some (.int r56)]) (st' := [.ref 63]) (g_c dX8_atom_88 g_n) rfl rfl ?_
            refine V_gV C cv_X8_208 p69 ⟨_, _, _, _, rfl, rfl⟩ (by rfl) (by decide) (As := []) (rest := []) rfl rfl (Nat.le_of_ble_eq_true rfl) dX8_atom_89 (fun rv s70 hq => ?_)
            obtain ⟨rfl, p71⟩ := hq
            refine V_goto C (tgt := 161) dX8_atom_92 (by decide) ?_
            refine V_blk C (pc' := 162) (σ' := s70) (L' := [some (.ref 63), some (.int r56)]) (st' := [.int r56]) (g_c dX8_atom_161 g_n) rfl rfl ?_
            refine V_iret C dX8_atom_162 ?_
            exact p71
        refine V_if_ne C (tgt := 71) dX8_atom_64 (by decide) (fun h72 => ?_) (fun h72 => ?_)
        · skip
          have p73 := p63.2 h72
          exact jn62 s57 p73
        · skip
          have p74 := p63.1 h72
          refine V_blk C (pc' := 68) (σ' := s57) (L' := [some (.ref 63), some (.int r56)]) (st' := [.ref 63]) (g_c dX8_atom_67 g_n) rfl rfl ?_
          refine V_gV C cv_X8_205 p74 ⟨_, _, _, _, rfl, rfl⟩ (by rfl) (by decide) (As := []) (rest := []) rfl rfl (Nat.le_of_ble_eq_true rfl) dX8_atom_68 (fun rv s75 hq => ?_)
          obtain ⟨rfl, p76⟩ := hq
          exact jn62 s75 p76
  · skip
    have p77 := p2.2 h4
    refine V_blk C (pc' := 12) (σ' := s1) (L' := [some (.ref 63), some (.int 0)]) (st' := [.ref 63]) (g_c dX8_atom_11 g_n) rfl rfl ?_
    refine V_gV C cv_X8_236 p77 ⟨_, _, _, _, rfl, rfl⟩ (by rfl) (by decide) (As := []) (rest := []) rfl rfl (Nat.le_of_ble_eq_true rfl) dX8_atom_12 (fun rv s78 hq => ?_)
    obtain ⟨r80, rfl, p79⟩ := hq
    refine V_if_eq C (tgt := 161) dX8_atom_15 (by decide) (fun h81 => ?_) (fun h81 => ?_)
    · skip
      have p82 := p79.1 h81
      refine V_blk C (pc' := 162) (σ' := s78) (L' := [some (.ref 63), some (.int 0)]) (st' := [.int 0]) (g_c dX8_atom_161 g_n) rfl rfl ?_
      refine V_iret C dX8_atom_162 ?_
      exact p82
    · skip
      have p83 := p79.2 h81
      refine V_blk C (pc' := 19) (σ' := s78) (L' := [some (.ref 63), some (.int 0)]) (st' := [.ref 63]) (g_c dX8_atom_18 g_n) rfl rfl ?_
      refine V_gV C cv_X8_240 p83 ⟨_, _, _, _, rfl, rfl⟩ (by rfl) (by decide) (As := []) (rest := []) rfl rfl (Nat.le_of_ble_eq_true rfl) dX8_atom_19 (fun rv s84 hq => ?_)
      obtain ⟨r86, rfl, p85⟩ := hq
      refine V_blk C (pc' := 34) (σ' := (g_up s84 63 32 ((s84 63 32) - 1))) (L' := [some (.ref 63), some (.int (-r86))]) (st' := []) (g_c dX8_atom_22 (g_c dX8_atom_23 (g_c dX8_atom_24 (g_c dX8_atom_25 (g_c dX8_atom_26 (g_c dX8_atom_29 (g_c dX8_atom_30 (g_c dX8_atom_31 g_n)))))))) rfl rfl ?_
      refine V_goto C (tgt := 161) dX8_atom_34 (by decide) ?_
      refine V_blk C (pc' := 162) (σ' := (g_up s84 63 32 ((s84 63 32) - 1))) (L' := [some (.ref 63), some (.int (-r86))]) (st' := [.int (-r86)]) (g_c dX8_atom_161 g_n) rfl rfl ?_
      refine V_iret C dX8_atom_162 ?_
      exact p85
set_option maxRecDepth 100000 in
def P_X8_term (h : Nat)  (σ : gS) (Qp : Option Value → gS → Prop) : Prop :=
  (g_call yX8_atom cX8_atom 2 (some .int) kM h [.ref 63] σ (fun rv s1 => ∃ r3 : Int32, rv = some (.int r3) ∧ (∃ I5 : Nat → Int32 → gS → Prop, (∃ k10 : Nat, I5 k10 r3 s1) ∧ ∀ (k7 : Nat) (v4 : Int32) (s13 : gS), I5 k7 v4 s13 → (g_call yX8_isSign cX8_isSign 2 (some .boolean) kM h [.ref 63, .int 42] s13 (fun rv s15 => ∃ r17 : Int32, rv = some (.int r17) ∧ (((r17 : Int32) = 0 → (Qp (some (.int v4)) s15)) ∧ (¬ (r17 : Int32) = 0 → (g_call yX8_next cX8_next 3 none kM h [.ref 63] s15 (fun rv s21 => rv = none ∧ (g_call yX8_atom cX8_atom 2 (some .int) kM h [.ref 63] s21 (fun rv s23 => ∃ r25 : Int32, rv = some (.int r25) ∧ (∃ k26 : Nat, k26 < k7 ∧ I5 k26 (v4 * r25) s23))))))))))))
set_option maxHeartbeats 4000000 in
set_option maxRecDepth 100000 in
theorem w_X8_term {h : Nat} (hh : 6 ≤ h)  {σ : gS} {Qp : Option Value → gS → Prop} (P : P_X8_term h  σ Qp) : g_Met yX8_term cX8_term 2 (some .int) h kM [.ref 63] σ Qp := by
  unfold P_X8_term at P
  refine g_Met.of (own := 8) (L := [some (.ref 63), none]) (by decide) rfl rfl (fun ad => Nat.le_of_ble_eq_true rfl) (fun ad => rfl) (fun X G K C => ?_)
  refine V_blk C (pc' := 1) (σ' := σ) (L' := [some (.ref 63), none]) (st' := [.ref 63]) (g_c dX8_term_0 g_n) rfl rfl ?_
  refine V_gV C cv_X8_240 P ⟨_, _, _, _, rfl, rfl⟩ (by rfl) (by decide) (As := []) (rest := []) rfl rfl (Nat.le_of_ble_eq_true rfl) dX8_term_1 (fun rv s1 hq => ?_)
  obtain ⟨r3, rfl, p2⟩ := hq
  refine V_blk C (pc' := 5) (σ' := s1) (L' := [some (.ref 63), some (.int r3)]) (st' := []) (g_c dX8_term_4 g_n) rfl rfl ?_
  obtain ⟨I5, ⟨k10, hI12⟩, hS9⟩ := p2
  have lp11 : ∀ (k7 : Nat) (v4 : Int32) (s13 : gS), I5 k7 v4 s13 → gV X G K 2 Qp s13 [some (.ref 63), some (.int v4)] [] 5 := by
    intro k7
    induction k7 using Nat.strongRecOn with
    | ind k7 ih6 =>
      intro v4 s13 hI8
      have p14 := hS9 k7 v4 s13 hI8
      refine V_blk C (pc' := 8) (σ' := s13) (L' := [some (.ref 63), some (.int v4)]) (st' := [.int 42, .ref 63]) (g_c dX8_term_5 (g_c dX8_term_6 g_n)) rfl rfl ?_
      refine V_gV C cv_X8_233 p14 ⟨_, _, _, _, rfl, rfl⟩ (by rfl) (by decide) (As := [.int 42]) (rest := []) rfl rfl (Nat.le_of_ble_eq_true rfl) dX8_term_8 (fun rv s15 hq => ?_)
      obtain ⟨r17, rfl, p16⟩ := hq
      refine V_if_eq C (tgt := 28) dX8_term_11 (by decide) (fun h18 => ?_) (fun h18 => ?_)
      · skip
        have p19 := p16.1 h18
        refine V_blk C (pc' := 29) (σ' := s15) (L' := [some (.ref 63), some (.int v4)]) (st' := [.int v4]) (g_c dX8_term_28 g_n) rfl rfl ?_
        refine V_iret C dX8_term_29 ?_
        exact p19
      · skip
        have p20 := p16.2 h18
        refine V_blk C (pc' := 15) (σ' := s15) (L' := [some (.ref 63), some (.int v4)]) (st' := [.ref 63]) (g_c dX8_term_14 g_n) rfl rfl ?_
        refine V_gV C cv_X8_208 p20 ⟨_, _, _, _, rfl, rfl⟩ (by rfl) (by decide) (As := []) (rest := []) rfl rfl (Nat.le_of_ble_eq_true rfl) dX8_term_15 (fun rv s21 hq => ?_)
        obtain ⟨rfl, p22⟩ := hq
        refine V_blk C (pc' := 20) (σ' := s21) (L' := [some (.ref 63), some (.int v4)]) (st' := [.ref 63, .int v4]) (g_c dX8_term_18 (g_c dX8_term_19 g_n)) rfl rfl ?_
        refine V_gV C cv_X8_240 p22 ⟨_, _, _, _, rfl, rfl⟩ (by rfl) (by decide) (As := []) (rest := [.int v4]) rfl rfl (Nat.le_of_ble_eq_true rfl) dX8_term_20 (fun rv s23 hq => ?_)
        obtain ⟨r25, rfl, p24⟩ := hq
        refine V_blk C (pc' := 25) (σ' := s23) (L' := [some (.ref 63), some (.int (v4 * r25))]) (st' := []) (g_c dX8_term_23 (g_c dX8_term_24 g_n)) rfl rfl ?_
        refine V_goto C (tgt := 5) dX8_term_25 (by decide) ?_
        obtain ⟨k26, hkk26, hIk26⟩ := p24
        exact ih6 k26 hkk26 (v4 * r25) s23 hIk26
  exact lp11 k10 r3 s1 hI12
set_option maxRecDepth 100000 in
def P_X8_added (h : Nat)  (σ : gS) (Qp : Option Value → gS → Prop) : Prop :=
  (g_call yX8_term cX8_term 2 (some .int) kM h [.ref 63] σ (fun rv s1 => ∃ r3 : Int32, rv = some (.int r3) ∧ (∃ I5 : Nat → Int32 → gS → Prop, (∃ k10 : Nat, I5 k10 r3 s1) ∧ ∀ (k7 : Nat) (v4 : Int32) (s13 : gS), I5 k7 v4 s13 → (g_call yX8_isSign cX8_isSign 2 (some .boolean) kM h [.ref 63, .int 43] s13 (fun rv s15 => ∃ r17 : Int32, rv = some (.int r17) ∧ (∃ J19 : gS → Prop, (((r17 : Int32) = 0 → (g_call yX8_isSign cX8_isSign 2 (some .boolean) kM h [.ref 63, .int 45] s15 (fun rv s36 => ∃ r38 : Int32, rv = some (.int r38) ∧ (((r38 : Int32) = 0 → (Qp (some (.int v4)) s36)) ∧ (¬ (r38 : Int32) = 0 → (J19 s36)))))) ∧ (¬ (r17 : Int32) = 0 → (J19 s15))) ∧ ∀  (s18 : gS), J19 s18 → (g_call yX8_next cX8_next 3 none kM h [.ref 63] s18 (fun rv s26 => rv = none ∧ (g_call yX8_term cX8_term 2 (some .int) kM h [.ref 63] s26 (fun rv s28 => ∃ r30 : Int32, rv = some (.int r30) ∧ (∃ k32 : Nat, k32 < k7 ∧ I5 k32 (if ((Int32.toInt64 (s18 63 31)) : Int64) = 43 then (v4 + r30) else (v4 - r30)) s28)))))))))))
set_option maxHeartbeats 4000000 in
set_option maxRecDepth 100000 in
theorem w_X8_added {h : Nat} (hh : 6 ≤ h)  {σ : gS} {Qp : Option Value → gS → Prop} (P : P_X8_added h  σ Qp) : g_Met yX8_added cX8_added 4 (some .int) h kM [.ref 63] σ Qp := by
  unfold P_X8_added at P
  refine g_Met.of (own := 8) (L := [some (.ref 63), none, none, none]) (by decide) rfl rfl (fun ad => Nat.le_of_ble_eq_true rfl) (fun ad => rfl) (fun X G K C => ?_)
  refine V_blk C (pc' := 1) (σ' := σ) (L' := [some (.ref 63), none, none, none]) (st' := [.ref 63]) (g_c dX8_added_0 g_n) rfl rfl ?_
  refine V_gV C cv_X8_250 P ⟨_, _, _, _, rfl, rfl⟩ (by rfl) (by decide) (As := []) (rest := []) rfl rfl (Nat.le_of_ble_eq_true rfl) dX8_added_1 (fun rv s1 hq => ?_)
  obtain ⟨r3, rfl, p2⟩ := hq
  refine V_blk C (pc' := 5) (σ' := s1) (L' := [some (.ref 63), some (.int r3), none, none]) (st' := []) (g_c dX8_added_4 g_n) rfl rfl ?_
  obtain ⟨I5, ⟨k10, hI12⟩, hS9⟩ := p2
  have lp11 : ∀ (k7 : Nat) (v4 : Int32) (s13 : gS), I5 k7 v4 s13 → gV X G K 4 Qp s13 [some (.ref 63), some (.int v4), none, none] [] 5 := by
    intro k7
    induction k7 using Nat.strongRecOn with
    | ind k7 ih6 =>
      intro v4 s13 hI8
      have p14 := hS9 k7 v4 s13 hI8
      refine V_blk C (pc' := 8) (σ' := s13) (L' := [some (.ref 63), some (.int v4), none, none]) (st' := [.int 43, .ref 63]) (g_c dX8_added_5 (g_c dX8_added_6 g_n)) rfl rfl ?_
      refine V_gV C cv_X8_233 p14 ⟨_, _, _, _, rfl, rfl⟩ (by rfl) (by decide) (As := [.int 43]) (rest := []) rfl rfl (Nat.le_of_ble_eq_true rfl) dX8_added_8 (fun rv s15 hq => ?_)
      obtain ⟨r17, rfl, p16⟩ := hq
      obtain ⟨J19, p21, p22⟩ := p16
      have jn20 : ∀  (s18 : gS) (_ : J19 s18), gV X G K 4 Qp s18 [some (.ref 63), some (.int v4), none, none] [] 23 := by
        intro s18 hJ23
        have p24 := p22 s18 hJ23
        refine V_blk C (pc' := 30) (σ' := s18) (L' := [some (.ref 63), some (.int v4), none, none]) (st' := [.long 43, .long (Int32.toInt64 (s18 63 31))]) (g_c dX8_added_23 (g_c dX8_added_24 (g_c dX8_added_27 g_n))) rfl rfl ?_
        refine V_join (P := ((Int32.toInt64 (s18 63 31)) : Int64) = 43) (a := 1) (b := 0) (pcJ := 39) (rest := []) (fun x_ hx_ => ?_) (fun kT kF => ?_)
        · skip
          subst hx_
          refine V_blk C (pc' := 41) (σ' := s18) (L' := [some (.ref 63), some (.int v4), some (.int (if ((Int32.toInt64 (s18 63 31)) : Int64) = 43 then 1 else 0)), none]) (st' := [.ref 63]) (g_c dX8_added_39 (g_c dX8_added_40 g_n)) rfl rfl ?_
          refine V_gV C cv_X8_208 p24 ⟨_, _, _, _, rfl, rfl⟩ (by rfl) (by decide) (As := []) (rest := []) rfl rfl (Nat.le_of_ble_eq_true rfl) dX8_added_41 (fun rv s26 hq => ?_)
          obtain ⟨rfl, p27⟩ := hq
          refine V_blk C (pc' := 45) (σ' := s26) (L' := [some (.ref 63), some (.int v4), some (.int (if ((Int32.toInt64 (s18 63 31)) : Int64) = 43 then 1 else 0)), none]) (st' := [.ref 63]) (g_c dX8_added_44 g_n) rfl rfl ?_
          refine V_gV C cv_X8_250 p27 ⟨_, _, _, _, rfl, rfl⟩ (by rfl) (by decide) (As := []) (rest := []) rfl rfl (Nat.le_of_ble_eq_true rfl) dX8_added_45 (fun rv s28 hq => ?_)
          obtain ⟨r30, rfl, p29⟩ := hq
          refine V_blk C (pc' := 50) (σ' := s28) (L' := [some (.ref 63), some (.int v4), some (.int (if ((Int32.toInt64 (s18 63 31)) : Int64) = 43 then 1 else 0)), some (.int r30)]) (st' := [.int (if ((Int32.toInt64 (s18 63 31)) : Int64) = 43 then 1 else 0)]) (g_c dX8_added_48 (g_c dX8_added_49 g_n)) rfl rfl ?_
          refine V_join (P := ((Int32.toInt64 (s18 63 31)) : Int64) = 43) (a := (v4 + r30)) (b := (v4 - r30)) (pcJ := 62) (rest := []) (fun x_ hx_ => ?_) (fun kT kF => ?_)
          · skip
            subst hx_
            refine V_blk C (pc' := 63) (σ' := s28) (L' := [some (.ref 63), some (.int (if ((Int32.toInt64 (s18 63 31)) : Int64) = 43 then (v4 + r30) else (v4 - r30))), some (.int (if ((Int32.toInt64 (s18 63 31)) : Int64) = 43 then 1 else 0)), some (.int r30)]) (st' := []) (g_c dX8_added_62 g_n) rfl rfl ?_
            refine V_goto C (tgt := 5) dX8_added_63 (by decide) ?_
            refine V_less (L' := [some (.ref 63), some (.int (if ((Int32.toInt64 (s18 63 31)) : Int64) = 43 then (v4 + r30) else (v4 - r30))), none, none]) (by simp [g_subL]) ?_
            obtain ⟨k32, hkk32, hIk32⟩ := p29
            exact ih6 k32 hkk32 (if ((Int32.toInt64 (s18 63 31)) : Int64) = 43 then (v4 + r30) else (v4 - r30)) s28 hIk32
          · refine V_if_eq_b C (tgt := 59) dX8_added_50 (by decide) (fun h31 => ?_) (fun h31 => ?_)
            · skip
              refine V_blk C (pc' := 62) (σ' := s28) (L' := [some (.ref 63), some (.int v4), some (.int (if ((Int32.toInt64 (s18 63 31)) : Int64) = 43 then 1 else 0)), some (.int r30)]) (st' := [.int (v4 - r30)]) (g_c dX8_added_59 (g_c dX8_added_60 (g_c dX8_added_61 g_n))) rfl rfl ?_
              exact kF h31
            · skip
              refine V_blk C (pc' := 56) (σ' := s28) (L' := [some (.ref 63), some (.int v4), some (.int (if ((Int32.toInt64 (s18 63 31)) : Int64) = 43 then 1 else 0)), some (.int r30)]) (st' := [.int (v4 + r30)]) (g_c dX8_added_53 (g_c dX8_added_54 (g_c dX8_added_55 g_n))) rfl rfl ?_
              refine V_goto C (tgt := 62) dX8_added_56 (by decide) ?_
              exact kT h31
        · refine V_lcmp_ne C (tgt := 38) dX8_added_30 dX8_added_31 (by decide) (fun h25 => ?_) (fun h25 => ?_)
          · skip
            refine V_blk C (pc' := 39) (σ' := s18) (L' := [some (.ref 63), some (.int v4), none, none]) (st' := [.int 0]) (g_c dX8_added_38 g_n) rfl rfl ?_
            exact kF h25
          · skip
            refine V_blk C (pc' := 35) (σ' := s18) (L' := [some (.ref 63), some (.int v4), none, none]) (st' := [.int 1]) (g_c dX8_added_34 g_n) rfl rfl ?_
            refine V_goto C (tgt := 39) dX8_added_35 (by decide) ?_
            exact kT h25
      refine V_if_ne C (tgt := 23) dX8_added_11 (by decide) (fun h33 => ?_) (fun h33 => ?_)
      · skip
        have p34 := p21.2 h33
        exact jn20 s15 p34
      · skip
        have p35 := p21.1 h33
        refine V_blk C (pc' := 17) (σ' := s15) (L' := [some (.ref 63), some (.int v4), none, none]) (st' := [.int 45, .ref 63]) (g_c dX8_added_14 (g_c dX8_added_15 g_n)) rfl rfl ?_
        refine V_gV C cv_X8_233 p35 ⟨_, _, _, _, rfl, rfl⟩ (by rfl) (by decide) (As := [.int 45]) (rest := []) rfl rfl (Nat.le_of_ble_eq_true rfl) dX8_added_17 (fun rv s36 hq => ?_)
        obtain ⟨r38, rfl, p37⟩ := hq
        refine V_if_eq C (tgt := 66) dX8_added_20 (by decide) (fun h39 => ?_) (fun h39 => ?_)
        · skip
          have p40 := p37.1 h39
          refine V_blk C (pc' := 67) (σ' := s36) (L' := [some (.ref 63), some (.int v4), none, none]) (st' := [.int v4]) (g_c dX8_added_66 g_n) rfl rfl ?_
          refine V_iret C dX8_added_67 ?_
          exact p40
        · skip
          have p41 := p37.2 h39
          exact jn20 s36 p41
  exact lp11 k10 r3 s1 hI12
set_option maxRecDepth 100000 in
def P_X8_not (h : Nat)  (σ : gS) (Qp : Option Value → gS → Prop) : Prop :=
  (g_call yX8_isWord cX8_isWord 9 (some .boolean) kM h [.ref 63, .int 110, .int 111, .int 116, .int 0, .int 0, .int 0, .int 0, .int 0] σ (fun rv s1 => ∃ r3 : Int32, rv = some (.int r3) ∧ (((r3 : Int32) = 0 → (g_call yX8_added cX8_added 4 (some .int) kM h [.ref 63] s1 (fun rv s6 => ∃ r8 : Int32, rv = some (.int r8) ∧ (g_call yX8_isSign cX8_isSign 2 (some .boolean) kM h [.ref 63, .int 60] s6 (fun rv s9 => ∃ r11 : Int32, rv = some (.int r11) ∧ (∃ J13 : gS → Prop, (((r11 : Int32) = 0 → (g_call yX8_isSign cX8_isSign 2 (some .boolean) kM h [.ref 63, .int 61] s9 (fun rv s33 => ∃ r35 : Int32, rv = some (.int r35) ∧ (((r35 : Int32) = 0 → (Qp (some (.int r8)) s33)) ∧ (¬ (r35 : Int32) = 0 → (J13 s33)))))) ∧ (¬ (r11 : Int32) = 0 → (J13 s9))) ∧ ∀  (s12 : gS), J13 s12 → (g_call yX8_next cX8_next 3 none kM h [.ref 63] s12 (fun rv s20 => rv = none ∧ (g_call yX8_added cX8_added 4 (some .int) kM h [.ref 63] s20 (fun rv s22 => ∃ r24 : Int32, rv = some (.int r24) ∧ ((((Int32.toInt64 (s12 63 31)) : Int64) = 60 → (Qp (some (.int (if (r8 : Int32) < r24 then 1 else 0))) s22)) ∧ (¬ ((Int32.toInt64 (s12 63 31)) : Int64) = 60 → (Qp (some (.int (if (r8 : Int32) = r24 then 1 else 0))) s22))))))))))))) ∧ (¬ (r3 : Int32) = 0 → (g_call yX8_opens cX8_opens 1 (some .boolean) kM h [.ref 63] s1 (fun rv s40 => ∃ r42 : Int32, rv = some (.int r42) ∧ (((r42 : Int32) = 0 → (Qp (some (.int 0)) s40)) ∧ (¬ (r42 : Int32) = 0 → (g_call yX8_not cX8_not 4 (some .int) kM h [.ref 63] s40 (fun rv s45 => ∃ r47 : Int32, rv = some (.int r47) ∧ (Qp (some (.int (if (r47 : Int32) = 0 then 1 else 0))) (g_up s45 63 32 ((s45 63 32) - 1)))))))))))))
set_option maxHeartbeats 4000000 in
set_option maxRecDepth 100000 in
theorem w_X8_not {h : Nat} (hh : 6 ≤ h)  {σ : gS} {Qp : Option Value → gS → Prop} (P : P_X8_not h  σ Qp) : g_Met yX8_not cX8_not 4 (some .int) h kM [.ref 63] σ Qp := by
  unfold P_X8_not at P
  refine g_Met.of (own := 8) (L := [some (.ref 63), none, none, none]) (by decide) rfl rfl (fun ad => Nat.le_of_ble_eq_true rfl) (fun ad => rfl) (fun X G K C => ?_)
  refine V_blk C (pc' := 12) (σ' := σ) (L' := [some (.ref 63), none, none, none]) (st' := [.int 0, .int 0, .int 0, .int 0, .int 0, .int 116, .int 111, .int 110, .ref 63]) (g_c dX8_not_0 (g_c dX8_not_1 (g_c dX8_not_3 (g_c dX8_not_5 (g_c dX8_not_7 (g_c dX8_not_8 (g_c dX8_not_9 (g_c dX8_not_10 (g_c dX8_not_11 g_n))))))))) rfl rfl ?_
  refine V_gV C cv_X8_211 P ⟨_, _, _, _, rfl, rfl⟩ (by rfl) (by decide) (As := [.int 110, .int 111, .int 116, .int 0, .int 0, .int 0, .int 0, .int 0]) (rest := []) rfl rfl (Nat.le_of_ble_eq_true rfl) dX8_not_12 (fun rv s1 hq => ?_)
  obtain ⟨r3, rfl, p2⟩ := hq
  refine V_if_eq C (tgt := 52) dX8_not_15 (by decide) (fun h4 => ?_) (fun h4 => ?_)
  · skip
    have p5 := p2.1 h4
    refine V_blk C (pc' := 53) (σ' := s1) (L' := [some (.ref 63), none, none, none]) (st' := [.ref 63]) (g_c dX8_not_52 g_n) rfl rfl ?_
    refine V_gV C cv_X8_258 p5 ⟨_, _, _, _, rfl, rfl⟩ (by rfl) (by decide) (As := []) (rest := []) rfl rfl (Nat.le_of_ble_eq_true rfl) dX8_not_53 (fun rv s6 hq => ?_)
    obtain ⟨r8, rfl, p7⟩ := hq
    refine V_blk C (pc' := 60) (σ' := s6) (L' := [some (.ref 63), some (.int r8), none, none]) (st' := [.int 60, .ref 63]) (g_c dX8_not_56 (g_c dX8_not_57 (g_c dX8_not_58 g_n))) rfl rfl ?_
    refine V_gV C cv_X8_233 p7 ⟨_, _, _, _, rfl, rfl⟩ (by rfl) (by decide) (As := [.int 60]) (rest := []) rfl rfl (Nat.le_of_ble_eq_true rfl) dX8_not_60 (fun rv s9 hq => ?_)
    obtain ⟨r11, rfl, p10⟩ := hq
    obtain ⟨J13, p15, p16⟩ := p10
    have jn14 : ∀  (s12 : gS) (_ : J13 s12), gV X G K 4 Qp s12 [some (.ref 63), some (.int r8), none, none] [] 77 := by
      intro s12 hJ17
      have p18 := p16 s12 hJ17
      refine V_blk C (pc' := 84) (σ' := s12) (L' := [some (.ref 63), some (.int r8), none, none]) (st' := [.long 60, .long (Int32.toInt64 (s12 63 31))]) (g_c dX8_not_77 (g_c dX8_not_78 (g_c dX8_not_81 g_n))) rfl rfl ?_
      refine V_join (P := ((Int32.toInt64 (s12 63 31)) : Int64) = 60) (a := 1) (b := 0) (pcJ := 93) (rest := []) (fun x_ hx_ => ?_) (fun kT kF => ?_)
      · skip
        subst hx_
        refine V_blk C (pc' := 95) (σ' := s12) (L' := [some (.ref 63), some (.int r8), some (.int (if ((Int32.toInt64 (s12 63 31)) : Int64) = 60 then 1 else 0)), none]) (st' := [.ref 63]) (g_c dX8_not_93 (g_c dX8_not_94 g_n)) rfl rfl ?_
        refine V_gV C cv_X8_208 p18 ⟨_, _, _, _, rfl, rfl⟩ (by rfl) (by decide) (As := []) (rest := []) rfl rfl (Nat.le_of_ble_eq_true rfl) dX8_not_95 (fun rv s20 hq => ?_)
        obtain ⟨rfl, p21⟩ := hq
        refine V_blk C (pc' := 99) (σ' := s20) (L' := [some (.ref 63), some (.int r8), some (.int (if ((Int32.toInt64 (s12 63 31)) : Int64) = 60 then 1 else 0)), none]) (st' := [.ref 63]) (g_c dX8_not_98 g_n) rfl rfl ?_
        refine V_gV C cv_X8_258 p21 ⟨_, _, _, _, rfl, rfl⟩ (by rfl) (by decide) (As := []) (rest := []) rfl rfl (Nat.le_of_ble_eq_true rfl) dX8_not_99 (fun rv s22 hq => ?_)
        obtain ⟨r24, rfl, p23⟩ := hq
        refine V_blk C (pc' := 104) (σ' := s22) (L' := [some (.ref 63), some (.int r8), some (.int (if ((Int32.toInt64 (s12 63 31)) : Int64) = 60 then 1 else 0)), some (.int r24)]) (st' := [.int (if ((Int32.toInt64 (s12 63 31)) : Int64) = 60 then 1 else 0)]) (g_c dX8_not_102 (g_c dX8_not_103 g_n)) rfl rfl ?_
        refine V_if_eq_b C (tgt := 115) dX8_not_104 (by decide) (fun h25 => ?_) (fun h25 => ?_)
        · skip
          have p26 := p23.2 h25
          refine V_blk C (pc' := 117) (σ' := s22) (L' := [some (.ref 63), some (.int r8), some (.int (if ((Int32.toInt64 (s12 63 31)) : Int64) = 60 then 1 else 0)), some (.int r24)]) (st' := [.int r24, .int r8]) (g_c dX8_not_115 (g_c dX8_not_116 g_n)) rfl rfl ?_
          refine V_join (P := (r8 : Int32) = r24) (a := 1) (b := 0) (pcJ := 125) (rest := []) (fun x_ hx_ => ?_) (fun kT kF => ?_)
          · skip
            subst hx_
            refine V_iret C dX8_not_125 ?_
            exact p26
          · refine V_icmp_ne C (tgt := 124) dX8_not_117 (by decide) (fun h27 => ?_) (fun h27 => ?_)
            · skip
              refine V_blk C (pc' := 125) (σ' := s22) (L' := [some (.ref 63), some (.int r8), some (.int (if ((Int32.toInt64 (s12 63 31)) : Int64) = 60 then 1 else 0)), some (.int r24)]) (st' := [.int 0]) (g_c dX8_not_124 g_n) rfl rfl ?_
              exact kF h27
            · skip
              refine V_blk C (pc' := 121) (σ' := s22) (L' := [some (.ref 63), some (.int r8), some (.int (if ((Int32.toInt64 (s12 63 31)) : Int64) = 60 then 1 else 0)), some (.int r24)]) (st' := [.int 1]) (g_c dX8_not_120 g_n) rfl rfl ?_
              refine V_goto C (tgt := 125) dX8_not_121 (by decide) ?_
              exact kT h27
        · skip
          have p28 := p23.1 h25
          refine V_blk C (pc' := 109) (σ' := s22) (L' := [some (.ref 63), some (.int r8), some (.int (if ((Int32.toInt64 (s12 63 31)) : Int64) = 60 then 1 else 0)), some (.int r24)]) (st' := [.int r24, .int r8]) (g_c dX8_not_107 (g_c dX8_not_108 g_n)) rfl rfl ?_
          refine V_join (P := (r8 : Int32) < r24) (a := 1) (b := 0) (pcJ := 125) (rest := []) (fun x_ hx_ => ?_) (fun kT kF => ?_)
          · skip
            subst hx_
            refine V_iret C dX8_not_125 ?_
            exact p28
          · refine V_icmp_ge2 C (tgt := 124) dX8_not_109 (by decide) (fun h29 => ?_) (fun h29 => ?_)
            · skip
              refine V_blk C (pc' := 125) (σ' := s22) (L' := [some (.ref 63), some (.int r8), some (.int (if ((Int32.toInt64 (s12 63 31)) : Int64) = 60 then 1 else 0)), some (.int r24)]) (st' := [.int 0]) (g_c dX8_not_124 g_n) rfl rfl ?_
              exact kF h29
            · skip
              refine V_goto C (tgt := 120) dX8_not_112 (by decide) ?_
              refine V_blk C (pc' := 121) (σ' := s22) (L' := [some (.ref 63), some (.int r8), some (.int (if ((Int32.toInt64 (s12 63 31)) : Int64) = 60 then 1 else 0)), some (.int r24)]) (st' := [.int 1]) (g_c dX8_not_120 g_n) rfl rfl ?_
              refine V_goto C (tgt := 125) dX8_not_121 (by decide) ?_
              exact kT h29
      · refine V_lcmp_ne C (tgt := 92) dX8_not_84 dX8_not_85 (by decide) (fun h19 => ?_) (fun h19 => ?_)
        · skip
          refine V_blk C (pc' := 93) (σ' := s12) (L' := [some (.ref 63), some (.int r8), none, none]) (st' := [.int 0]) (g_c dX8_not_92 g_n) rfl rfl ?_
          exact kF h19
        · skip
          refine V_blk C (pc' := 89) (σ' := s12) (L' := [some (.ref 63), some (.int r8), none, none]) (st' := [.int 1]) (g_c dX8_not_88 g_n) rfl rfl ?_
          refine V_goto C (tgt := 93) dX8_not_89 (by decide) ?_
          exact kT h19
    refine V_if_ne C (tgt := 77) dX8_not_63 (by decide) (fun h30 => ?_) (fun h30 => ?_)
    · skip
      have p31 := p15.2 h30
      exact jn14 s9 p31
    · skip
      have p32 := p15.1 h30
      refine V_blk C (pc' := 69) (σ' := s9) (L' := [some (.ref 63), some (.int r8), none, none]) (st' := [.int 61, .ref 63]) (g_c dX8_not_66 (g_c dX8_not_67 g_n)) rfl rfl ?_
      refine V_gV C cv_X8_233 p32 ⟨_, _, _, _, rfl, rfl⟩ (by rfl) (by decide) (As := [.int 61]) (rest := []) rfl rfl (Nat.le_of_ble_eq_true rfl) dX8_not_69 (fun rv s33 hq => ?_)
      obtain ⟨r35, rfl, p34⟩ := hq
      refine V_if_ne C (tgt := 77) dX8_not_72 (by decide) (fun h36 => ?_) (fun h36 => ?_)
      · skip
        have p37 := p34.2 h36
        exact jn14 s33 p37
      · skip
        have p38 := p34.1 h36
        refine V_blk C (pc' := 76) (σ' := s33) (L' := [some (.ref 63), some (.int r8), none, none]) (st' := [.int r8]) (g_c dX8_not_75 g_n) rfl rfl ?_
        refine V_iret C dX8_not_76 ?_
        exact p38
  · skip
    have p39 := p2.2 h4
    refine V_blk C (pc' := 19) (σ' := s1) (L' := [some (.ref 63), none, none, none]) (st' := [.ref 63]) (g_c dX8_not_18 g_n) rfl rfl ?_
    refine V_gV C cv_X8_236 p39 ⟨_, _, _, _, rfl, rfl⟩ (by rfl) (by decide) (As := []) (rest := []) rfl rfl (Nat.le_of_ble_eq_true rfl) dX8_not_19 (fun rv s40 hq => ?_)
    obtain ⟨r42, rfl, p41⟩ := hq
    refine V_if_ne C (tgt := 27) dX8_not_22 (by decide) (fun h43 => ?_) (fun h43 => ?_)
    · skip
      have p44 := p41.2 h43
      refine V_blk C (pc' := 28) (σ' := s40) (L' := [some (.ref 63), none, none, none]) (st' := [.ref 63]) (g_c dX8_not_27 g_n) rfl rfl ?_
      refine V_gV C cv_X8_255 p44 ⟨_, _, _, _, rfl, rfl⟩ (by rfl) (by decide) (As := []) (rest := []) rfl rfl (Nat.le_of_ble_eq_true rfl) dX8_not_28 (fun rv s45 hq => ?_)
      obtain ⟨r47, rfl, p46⟩ := hq
      refine V_blk C (pc' := 43) (σ' := (g_up s45 63 32 ((s45 63 32) - 1))) (L' := [some (.ref 63), some (.int r47), none, none]) (st' := [.int r47]) (g_c dX8_not_31 (g_c dX8_not_32 (g_c dX8_not_33 (g_c dX8_not_34 (g_c dX8_not_37 (g_c dX8_not_38 (g_c dX8_not_39 (g_c dX8_not_42 g_n)))))))) rfl rfl ?_
      refine V_join (P := (r47 : Int32) = 0) (a := 1) (b := 0) (pcJ := 51) (rest := []) (fun x_ hx_ => ?_) (fun kT kF => ?_)
      · skip
        subst hx_
        refine V_iret C dX8_not_51 ?_
        exact p46
      · refine V_if_ne C (tgt := 50) dX8_not_43 (by decide) (fun h48 => ?_) (fun h48 => ?_)
        · skip
          refine V_blk C (pc' := 51) (σ' := (g_up s45 63 32 ((s45 63 32) - 1))) (L' := [some (.ref 63), some (.int r47), none, none]) (st' := [.int 0]) (g_c dX8_not_50 g_n) rfl rfl ?_
          exact kF h48
        · skip
          refine V_blk C (pc' := 47) (σ' := (g_up s45 63 32 ((s45 63 32) - 1))) (L' := [some (.ref 63), some (.int r47), none, none]) (st' := [.int 1]) (g_c dX8_not_46 g_n) rfl rfl ?_
          refine V_goto C (tgt := 51) dX8_not_47 (by decide) ?_
          exact kT h48
    · skip
      have p49 := p41.1 h43
      refine V_blk C (pc' := 26) (σ' := s40) (L' := [some (.ref 63), none, none, none]) (st' := [.int 0]) (g_c dX8_not_25 g_n) rfl rfl ?_
      refine V_iret C dX8_not_26 ?_
      exact p49
set_option maxRecDepth 100000 in
def P_X8_both (h : Nat)  (σ : gS) (Qp : Option Value → gS → Prop) : Prop :=
  (g_call yX8_not cX8_not 4 (some .int) kM h [.ref 63] σ (fun rv s1 => ∃ r3 : Int32, rv = some (.int r3) ∧ (∃ I5 : Nat → Int32 → gS → Prop, (∃ k10 : Nat, I5 k10 r3 s1) ∧ ∀ (k7 : Nat) (v4 : Int32) (s13 : gS), I5 k7 v4 s13 → (g_call yX8_isWord cX8_isWord 9 (some .boolean) kM h [.ref 63, .int 97, .int 110, .int 100, .int 0, .int 0, .int 0, .int 0, .int 0] s13 (fun rv s15 => ∃ r17 : Int32, rv = some (.int r17) ∧ (((r17 : Int32) = 0 → (Qp (some (.int v4)) s15)) ∧ (¬ (r17 : Int32) = 0 → (g_call yX8_next cX8_next 3 none kM h [.ref 63] s15 (fun rv s21 => rv = none ∧ (g_call yX8_not cX8_not 4 (some .int) kM h [.ref 63] s21 (fun rv s23 => ∃ r25 : Int32, rv = some (.int r25) ∧ (((v4 : Int32) = 0 → (∃ k28 : Nat, k28 < k7 ∧ I5 k28 0 s23)) ∧ (¬ (v4 : Int32) = 0 → (∃ k31 : Nat, k31 < k7 ∧ I5 k31 (if (r25 : Int32) = 0 then 0 else 1) s23))))))))))))))
set_option maxHeartbeats 4000000 in
set_option maxRecDepth 100000 in
theorem w_X8_both {h : Nat} (hh : 6 ≤ h)  {σ : gS} {Qp : Option Value → gS → Prop} (P : P_X8_both h  σ Qp) : g_Met yX8_both cX8_both 3 (some .int) h kM [.ref 63] σ Qp := by
  unfold P_X8_both at P
  refine g_Met.of (own := 8) (L := [some (.ref 63), none, none]) (by decide) rfl rfl (fun ad => Nat.le_of_ble_eq_true rfl) (fun ad => rfl) (fun X G K C => ?_)
  refine V_blk C (pc' := 1) (σ' := σ) (L' := [some (.ref 63), none, none]) (st' := [.ref 63]) (g_c dX8_both_0 g_n) rfl rfl ?_
  refine V_gV C cv_X8_255 P ⟨_, _, _, _, rfl, rfl⟩ (by rfl) (by decide) (As := []) (rest := []) rfl rfl (Nat.le_of_ble_eq_true rfl) dX8_both_1 (fun rv s1 hq => ?_)
  obtain ⟨r3, rfl, p2⟩ := hq
  refine V_blk C (pc' := 5) (σ' := s1) (L' := [some (.ref 63), some (.int r3), none]) (st' := []) (g_c dX8_both_4 g_n) rfl rfl ?_
  obtain ⟨I5, ⟨k10, hI12⟩, hS9⟩ := p2
  have lp11 : ∀ (k7 : Nat) (v4 : Int32) (s13 : gS), I5 k7 v4 s13 → gV X G K 3 Qp s13 [some (.ref 63), some (.int v4), none] [] 5 := by
    intro k7
    induction k7 using Nat.strongRecOn with
    | ind k7 ih6 =>
      intro v4 s13 hI8
      have p14 := hS9 k7 v4 s13 hI8
      refine V_blk C (pc' := 17) (σ' := s13) (L' := [some (.ref 63), some (.int v4), none]) (st' := [.int 0, .int 0, .int 0, .int 0, .int 0, .int 100, .int 110, .int 97, .ref 63]) (g_c dX8_both_5 (g_c dX8_both_6 (g_c dX8_both_8 (g_c dX8_both_10 (g_c dX8_both_12 (g_c dX8_both_13 (g_c dX8_both_14 (g_c dX8_both_15 (g_c dX8_both_16 g_n))))))))) rfl rfl ?_
      refine V_gV C cv_X8_211 p14 ⟨_, _, _, _, rfl, rfl⟩ (by rfl) (by decide) (As := [.int 97, .int 110, .int 100, .int 0, .int 0, .int 0, .int 0, .int 0]) (rest := []) rfl rfl (Nat.le_of_ble_eq_true rfl) dX8_both_17 (fun rv s15 hq => ?_)
      obtain ⟨r17, rfl, p16⟩ := hq
      refine V_if_eq C (tgt := 49) dX8_both_20 (by decide) (fun h18 => ?_) (fun h18 => ?_)
      · skip
        have p19 := p16.1 h18
        refine V_blk C (pc' := 50) (σ' := s15) (L' := [some (.ref 63), some (.int v4), none]) (st' := [.int v4]) (g_c dX8_both_49 g_n) rfl rfl ?_
        refine V_iret C dX8_both_50 ?_
        exact p19
      · skip
        have p20 := p16.2 h18
        refine V_blk C (pc' := 24) (σ' := s15) (L' := [some (.ref 63), some (.int v4), none]) (st' := [.ref 63]) (g_c dX8_both_23 g_n) rfl rfl ?_
        refine V_gV C cv_X8_208 p20 ⟨_, _, _, _, rfl, rfl⟩ (by rfl) (by decide) (As := []) (rest := []) rfl rfl (Nat.le_of_ble_eq_true rfl) dX8_both_24 (fun rv s21 hq => ?_)
        obtain ⟨rfl, p22⟩ := hq
        refine V_blk C (pc' := 28) (σ' := s21) (L' := [some (.ref 63), some (.int v4), none]) (st' := [.ref 63]) (g_c dX8_both_27 g_n) rfl rfl ?_
        refine V_gV C cv_X8_255 p22 ⟨_, _, _, _, rfl, rfl⟩ (by rfl) (by decide) (As := []) (rest := []) rfl rfl (Nat.le_of_ble_eq_true rfl) dX8_both_28 (fun rv s23 hq => ?_)
        obtain ⟨r25, rfl, p24⟩ := hq
        refine V_blk C (pc' := 33) (σ' := s23) (L' := [some (.ref 63), some (.int v4), some (.int r25)]) (st' := [.int v4]) (g_c dX8_both_31 (g_c dX8_both_32 g_n)) rfl rfl ?_
        refine V_if_eq C (tgt := 44) dX8_both_33 (by decide) (fun h26 => ?_) (fun h26 => ?_)
        · skip
          have p27 := p24.1 h26
          refine V_blk C (pc' := 46) (σ' := s23) (L' := [some (.ref 63), some (.int 0), some (.int r25)]) (st' := []) (g_c dX8_both_44 (g_c dX8_both_45 g_n)) rfl rfl ?_
          refine V_goto C (tgt := 5) dX8_both_46 (by decide) ?_
          refine V_less (L' := [some (.ref 63), some (.int 0), none]) (by simp [g_subL]) ?_
          obtain ⟨k28, hkk28, hIk28⟩ := p27
          exact ih6 k28 hkk28 0 s23 hIk28
        · skip
          have p29 := p24.2 h26
          refine V_blk C (pc' := 37) (σ' := s23) (L' := [some (.ref 63), some (.int v4), some (.int r25)]) (st' := [.int r25]) (g_c dX8_both_36 g_n) rfl rfl ?_
          refine V_join (P := (r25 : Int32) = 0) (a := 0) (b := 1) (pcJ := 45) (rest := []) (fun x_ hx_ => ?_) (fun kT kF => ?_)
          · skip
            subst hx_
            refine V_blk C (pc' := 46) (σ' := s23) (L' := [some (.ref 63), some (.int (if (r25 : Int32) = 0 then 0 else 1)), some (.int r25)]) (st' := []) (g_c dX8_both_45 g_n) rfl rfl ?_
            refine V_goto C (tgt := 5) dX8_both_46 (by decide) ?_
            refine V_less (L' := [some (.ref 63), some (.int (if (r25 : Int32) = 0 then 0 else 1)), none]) (by simp [g_subL]) ?_
            obtain ⟨k31, hkk31, hIk31⟩ := p29
            exact ih6 k31 hkk31 (if (r25 : Int32) = 0 then 0 else 1) s23 hIk31
          · refine V_if_eq C (tgt := 44) dX8_both_37 (by decide) (fun h30 => ?_) (fun h30 => ?_)
            · skip
              refine V_blk C (pc' := 45) (σ' := s23) (L' := [some (.ref 63), some (.int v4), some (.int r25)]) (st' := [.int 0]) (g_c dX8_both_44 g_n) rfl rfl ?_
              exact kT h30
            · skip
              refine V_blk C (pc' := 41) (σ' := s23) (L' := [some (.ref 63), some (.int v4), some (.int r25)]) (st' := [.int 1]) (g_c dX8_both_40 g_n) rfl rfl ?_
              refine V_goto C (tgt := 45) dX8_both_41 (by decide) ?_
              exact kF h30
  exact lp11 k10 r3 s1 hI12
set_option maxRecDepth 100000 in
def P_X8_either (h : Nat)  (σ : gS) (Qp : Option Value → gS → Prop) : Prop :=
  (g_call yX8_both cX8_both 3 (some .int) kM h [.ref 63] σ (fun rv s1 => ∃ r3 : Int32, rv = some (.int r3) ∧ (∃ I5 : Nat → Int32 → gS → Prop, (∃ k10 : Nat, I5 k10 r3 s1) ∧ ∀ (k7 : Nat) (v4 : Int32) (s13 : gS), I5 k7 v4 s13 → (g_call yX8_isWord cX8_isWord 9 (some .boolean) kM h [.ref 63, .int 111, .int 114, .int 0, .int 0, .int 0, .int 0, .int 0, .int 0] s13 (fun rv s15 => ∃ r17 : Int32, rv = some (.int r17) ∧ (((r17 : Int32) = 0 → (Qp (some (.int v4)) s15)) ∧ (¬ (r17 : Int32) = 0 → (g_call yX8_next cX8_next 3 none kM h [.ref 63] s15 (fun rv s21 => rv = none ∧ (g_call yX8_both cX8_both 3 (some .int) kM h [.ref 63] s21 (fun rv s23 => ∃ r25 : Int32, rv = some (.int r25) ∧ (((v4 : Int32) = 0 → (∃ k31 : Nat, k31 < k7 ∧ I5 k31 (if (r25 : Int32) = 0 then 0 else 1) s23)) ∧ (¬ (v4 : Int32) = 0 → (∃ k28 : Nat, k28 < k7 ∧ I5 k28 1 s23))))))))))))))
set_option maxHeartbeats 4000000 in
set_option maxRecDepth 100000 in
theorem w_X8_either {h : Nat} (hh : 6 ≤ h)  {σ : gS} {Qp : Option Value → gS → Prop} (P : P_X8_either h  σ Qp) : g_Met yX8_either cX8_either 3 (some .int) h kM [.ref 63] σ Qp := by
  unfold P_X8_either at P
  refine g_Met.of (own := 8) (L := [some (.ref 63), none, none]) (by decide) rfl rfl (fun ad => Nat.le_of_ble_eq_true rfl) (fun ad => rfl) (fun X G K C => ?_)
  refine V_blk C (pc' := 1) (σ' := σ) (L' := [some (.ref 63), none, none]) (st' := [.ref 63]) (g_c dX8_either_0 g_n) rfl rfl ?_
  refine V_gV C cv_X8_263 P ⟨_, _, _, _, rfl, rfl⟩ (by rfl) (by decide) (As := []) (rest := []) rfl rfl (Nat.le_of_ble_eq_true rfl) dX8_either_1 (fun rv s1 hq => ?_)
  obtain ⟨r3, rfl, p2⟩ := hq
  refine V_blk C (pc' := 5) (σ' := s1) (L' := [some (.ref 63), some (.int r3), none]) (st' := []) (g_c dX8_either_4 g_n) rfl rfl ?_
  obtain ⟨I5, ⟨k10, hI12⟩, hS9⟩ := p2
  have lp11 : ∀ (k7 : Nat) (v4 : Int32) (s13 : gS), I5 k7 v4 s13 → gV X G K 3 Qp s13 [some (.ref 63), some (.int v4), none] [] 5 := by
    intro k7
    induction k7 using Nat.strongRecOn with
    | ind k7 ih6 =>
      intro v4 s13 hI8
      have p14 := hS9 k7 v4 s13 hI8
      refine V_blk C (pc' := 16) (σ' := s13) (L' := [some (.ref 63), some (.int v4), none]) (st' := [.int 0, .int 0, .int 0, .int 0, .int 0, .int 0, .int 114, .int 111, .ref 63]) (g_c dX8_either_5 (g_c dX8_either_6 (g_c dX8_either_8 (g_c dX8_either_10 (g_c dX8_either_11 (g_c dX8_either_12 (g_c dX8_either_13 (g_c dX8_either_14 (g_c dX8_either_15 g_n))))))))) rfl rfl ?_
      refine V_gV C cv_X8_211 p14 ⟨_, _, _, _, rfl, rfl⟩ (by rfl) (by decide) (As := [.int 111, .int 114, .int 0, .int 0, .int 0, .int 0, .int 0, .int 0]) (rest := []) rfl rfl (Nat.le_of_ble_eq_true rfl) dX8_either_16 (fun rv s15 hq => ?_)
      obtain ⟨r17, rfl, p16⟩ := hq
      refine V_if_eq C (tgt := 48) dX8_either_19 (by decide) (fun h18 => ?_) (fun h18 => ?_)
      · skip
        have p19 := p16.1 h18
        refine V_blk C (pc' := 49) (σ' := s15) (L' := [some (.ref 63), some (.int v4), none]) (st' := [.int v4]) (g_c dX8_either_48 g_n) rfl rfl ?_
        refine V_iret C dX8_either_49 ?_
        exact p19
      · skip
        have p20 := p16.2 h18
        refine V_blk C (pc' := 23) (σ' := s15) (L' := [some (.ref 63), some (.int v4), none]) (st' := [.ref 63]) (g_c dX8_either_22 g_n) rfl rfl ?_
        refine V_gV C cv_X8_208 p20 ⟨_, _, _, _, rfl, rfl⟩ (by rfl) (by decide) (As := []) (rest := []) rfl rfl (Nat.le_of_ble_eq_true rfl) dX8_either_23 (fun rv s21 hq => ?_)
        obtain ⟨rfl, p22⟩ := hq
        refine V_blk C (pc' := 27) (σ' := s21) (L' := [some (.ref 63), some (.int v4), none]) (st' := [.ref 63]) (g_c dX8_either_26 g_n) rfl rfl ?_
        refine V_gV C cv_X8_263 p22 ⟨_, _, _, _, rfl, rfl⟩ (by rfl) (by decide) (As := []) (rest := []) rfl rfl (Nat.le_of_ble_eq_true rfl) dX8_either_27 (fun rv s23 hq => ?_)
        obtain ⟨r25, rfl, p24⟩ := hq
        refine V_blk C (pc' := 32) (σ' := s23) (L' := [some (.ref 63), some (.int v4), some (.int r25)]) (st' := [.int v4]) (g_c dX8_either_30 (g_c dX8_either_31 g_n)) rfl rfl ?_
        refine V_if_ne C (tgt := 39) dX8_either_32 (by decide) (fun h26 => ?_) (fun h26 => ?_)
        · skip
          have p27 := p24.2 h26
          refine V_blk C (pc' := 40) (σ' := s23) (L' := [some (.ref 63), some (.int v4), some (.int r25)]) (st' := [.int 1]) (g_c dX8_either_39 g_n) rfl rfl ?_
          refine V_goto C (tgt := 44) dX8_either_40 (by decide) ?_
          refine V_blk C (pc' := 45) (σ' := s23) (L' := [some (.ref 63), some (.int 1), some (.int r25)]) (st' := []) (g_c dX8_either_44 g_n) rfl rfl ?_
          refine V_goto C (tgt := 5) dX8_either_45 (by decide) ?_
          refine V_less (L' := [some (.ref 63), some (.int 1), none]) (by simp [g_subL]) ?_
          obtain ⟨k28, hkk28, hIk28⟩ := p27
          exact ih6 k28 hkk28 1 s23 hIk28
        · skip
          have p29 := p24.1 h26
          refine V_blk C (pc' := 36) (σ' := s23) (L' := [some (.ref 63), some (.int v4), some (.int r25)]) (st' := [.int r25]) (g_c dX8_either_35 g_n) rfl rfl ?_
          refine V_join (P := (r25 : Int32) = 0) (a := 0) (b := 1) (pcJ := 44) (rest := []) (fun x_ hx_ => ?_) (fun kT kF => ?_)
          · skip
            subst hx_
            refine V_blk C (pc' := 45) (σ' := s23) (L' := [some (.ref 63), some (.int (if (r25 : Int32) = 0 then 0 else 1)), some (.int r25)]) (st' := []) (g_c dX8_either_44 g_n) rfl rfl ?_
            refine V_goto C (tgt := 5) dX8_either_45 (by decide) ?_
            refine V_less (L' := [some (.ref 63), some (.int (if (r25 : Int32) = 0 then 0 else 1)), none]) (by simp [g_subL]) ?_
            obtain ⟨k31, hkk31, hIk31⟩ := p29
            exact ih6 k31 hkk31 (if (r25 : Int32) = 0 then 0 else 1) s23 hIk31
          · refine V_if_eq C (tgt := 43) dX8_either_36 (by decide) (fun h30 => ?_) (fun h30 => ?_)
            · skip
              refine V_blk C (pc' := 44) (σ' := s23) (L' := [some (.ref 63), some (.int v4), some (.int r25)]) (st' := [.int 0]) (g_c dX8_either_43 g_n) rfl rfl ?_
              exact kT h30
            · skip
              refine V_blk C (pc' := 40) (σ' := s23) (L' := [some (.ref 63), some (.int v4), some (.int r25)]) (st' := [.int 1]) (g_c dX8_either_39 g_n) rfl rfl ?_
              refine V_goto C (tgt := 44) dX8_either_40 (by decide) ?_
              exact kF h30
  exact lp11 k10 r3 s1 hI12
set_option maxRecDepth 100000 in
def P_X8_part (h : Nat) (ik : Int32) (σ : gS) (Qp : Option Value → gS → Prop) : Prop :=
  (∃ J2 : gS → Prop, (((ik : Int32) = 0 → (g_call yX8_fail cX8_fail 1 none kM h [.ref 63] σ (fun rv s57 => rv = none ∧ (J2 s57)))) ∧ (¬ (ik : Int32) = 0 → (J2 σ))) ∧ ∀  (s1 : gS), J2 s1 → (∃ J9 : gS → Prop, ((((s1 63 33) : Int32) = 0 → (g_call yX8_next cX8_next 3 none kM h [.ref 63] s1 (fun rv s52 => rv = none ∧ (J9 s52)))) ∧ (¬ ((s1 63 33) : Int32) = 0 → (J9 s1))) ∧ ∀  (s8 : gS), J9 s8 → (∃ J17 : Int32 → gS → Prop, ((((s8 63 33) : Int32) = 0 → (g_call yX8_either cX8_either 3 (some .int) kM h [.ref 63] s8 (fun rv s45 => ∃ r47 : Int32, rv = some (.int r47) ∧ (J17 r47 s45)))) ∧ (¬ ((s8 63 33) : Int32) = 0 → (J17 0 s8))) ∧ ∀ (v15 : Int32) (s16 : gS), J17 v15 s16 → (g_call yX8_isSign cX8_isSign 2 (some .boolean) kM h [.ref 63, .int 59] s16 (fun rv s23 => ∃ r25 : Int32, rv = some (.int r25) ∧ (∃ J27 : gS → Prop, (((r25 : Int32) = 0 → (g_call yX8_fail cX8_fail 1 none kM h [.ref 63] s23 (fun rv s41 => rv = none ∧ (J27 s41)))) ∧ (¬ (r25 : Int32) = 0 → (J27 s23))) ∧ ∀  (s26 : gS), J27 s26 → ((((s26 63 33) : Int32) = 0 → (g_call yX8_next cX8_next 3 none kM h [.ref 63] s26 (fun rv s36 => rv = none ∧ (Qp (some (.int v15)) s36)))) ∧ (¬ ((s26 63 33) : Int32) = 0 → (Qp (some (.int v15)) s26)))))))))
set_option maxHeartbeats 4000000 in
set_option maxRecDepth 100000 in
theorem w_X8_part {h : Nat} (hh : 6 ≤ h) {ik : Int32} {σ : gS} {Qp : Option Value → gS → Prop} (P : P_X8_part h ik σ Qp) : g_Met yX8_part cX8_part 3 (some .int) h kM [.ref 63, .int ik] σ Qp := by
  unfold P_X8_part at P
  refine g_Met.of (own := 8) (L := [some (.ref 63), some (.int ik), none]) (by decide) rfl rfl (fun ad => Nat.le_of_ble_eq_true rfl) (fun ad => rfl) (fun X G K C => ?_)
  refine V_blk C (pc' := 1) (σ' := σ) (L' := [some (.ref 63), some (.int ik), none]) (st' := [.int ik]) (g_c dX8_part_0 g_n) rfl rfl ?_
  obtain ⟨J2, p4, p5⟩ := P
  have jn3 : ∀  (s1 : gS) (_ : J2 s1), gV X G K 3 Qp s1 [some (.ref 63), none, none] [] 8 := by
    intro s1 hJ6
    have p7 := p5 s1 hJ6
    refine V_blk C (pc' := 12) (σ' := s1) (L' := [some (.ref 63), none, none]) (st' := [.int (s1 63 33)]) (g_c dX8_part_8 (g_c dX8_part_9 g_n)) rfl rfl ?_
    obtain ⟨J9, p11, p12⟩ := p7
    have jn10 : ∀  (s8 : gS) (_ : J9 s8), gV X G K 3 Qp s8 [some (.ref 63), none, none] [] 19 := by
      intro s8 hJ13
      have p14 := p12 s8 hJ13
      refine V_blk C (pc' := 23) (σ' := s8) (L' := [some (.ref 63), none, none]) (st' := [.int (s8 63 33)]) (g_c dX8_part_19 (g_c dX8_part_20 g_n)) rfl rfl ?_
      obtain ⟨J17, p19, p20⟩ := p14
      have jn18 : ∀ (v15 : Int32) (s16 : gS) (_ : J17 v15 s16), gV X G K 3 Qp s16 [some (.ref 63), none, none] [.int v15] 34 := by
        intro v15 s16 hJ21
        have p22 := p20 v15 s16 hJ21
        refine V_blk C (pc' := 38) (σ' := s16) (L' := [some (.ref 63), none, some (.int v15)]) (st' := [.int 59, .ref 63]) (g_c dX8_part_34 (g_c dX8_part_35 (g_c dX8_part_36 g_n))) rfl rfl ?_
        refine V_gV C cv_X8_233 p22 ⟨_, _, _, _, rfl, rfl⟩ (by rfl) (by decide) (As := [.int 59]) (rest := []) rfl rfl (Nat.le_of_ble_eq_true rfl) dX8_part_38 (fun rv s23 hq => ?_)
        obtain ⟨r25, rfl, p24⟩ := hq
        obtain ⟨J27, p29, p30⟩ := p24
        have jn28 : ∀  (s26 : gS) (_ : J27 s26), gV X G K 3 Qp s26 [some (.ref 63), none, some (.int v15)] [] 48 := by
          intro s26 hJ31
          have p32 := p30 s26 hJ31
          refine V_blk C (pc' := 52) (σ' := s26) (L' := [some (.ref 63), none, some (.int v15)]) (st' := [.int (s26 63 33)]) (g_c dX8_part_48 (g_c dX8_part_49 g_n)) rfl rfl ?_
          refine V_if_ne C (tgt := 59) dX8_part_52 (by decide) (fun h33 => ?_) (fun h33 => ?_)
          · skip
            have p34 := p32.2 h33
            refine V_blk C (pc' := 60) (σ' := s26) (L' := [some (.ref 63), none, some (.int v15)]) (st' := [.int v15]) (g_c dX8_part_59 g_n) rfl rfl ?_
            refine V_iret C dX8_part_60 ?_
            exact p34
          · skip
            have p35 := p32.1 h33
            refine V_blk C (pc' := 56) (σ' := s26) (L' := [some (.ref 63), none, some (.int v15)]) (st' := [.ref 63]) (g_c dX8_part_55 g_n) rfl rfl ?_
            refine V_gV C cv_X8_208 p35 ⟨_, _, _, _, rfl, rfl⟩ (by rfl) (by decide) (As := []) (rest := []) rfl rfl (Nat.le_of_ble_eq_true rfl) dX8_part_56 (fun rv s36 hq => ?_)
            obtain ⟨rfl, p37⟩ := hq
            refine V_blk C (pc' := 60) (σ' := s36) (L' := [some (.ref 63), none, some (.int v15)]) (st' := [.int v15]) (g_c dX8_part_59 g_n) rfl rfl ?_
            refine V_iret C dX8_part_60 ?_
            exact p37
        refine V_if_ne C (tgt := 48) dX8_part_41 (by decide) (fun h38 => ?_) (fun h38 => ?_)
        · skip
          have p39 := p29.2 h38
          exact jn28 s23 p39
        · skip
          have p40 := p29.1 h38
          refine V_blk C (pc' := 45) (σ' := s23) (L' := [some (.ref 63), none, some (.int v15)]) (st' := [.ref 63]) (g_c dX8_part_44 g_n) rfl rfl ?_
          refine V_gV C cv_X8_205 p40 ⟨_, _, _, _, rfl, rfl⟩ (by rfl) (by decide) (As := []) (rest := []) rfl rfl (Nat.le_of_ble_eq_true rfl) dX8_part_45 (fun rv s41 hq => ?_)
          obtain ⟨rfl, p42⟩ := hq
          exact jn28 s41 p42
      refine V_if_eq C (tgt := 30) dX8_part_23 (by decide) (fun h43 => ?_) (fun h43 => ?_)
      · skip
        have p44 := p19.1 h43
        refine V_blk C (pc' := 31) (σ' := s8) (L' := [some (.ref 63), none, none]) (st' := [.ref 63]) (g_c dX8_part_30 g_n) rfl rfl ?_
        refine V_gV C cv_X8_244 p44 ⟨_, _, _, _, rfl, rfl⟩ (by rfl) (by decide) (As := []) (rest := []) rfl rfl (Nat.le_of_ble_eq_true rfl) dX8_part_31 (fun rv s45 hq => ?_)
        obtain ⟨r47, rfl, p46⟩ := hq
        exact jn18 r47 s45 p46
      · skip
        have p48 := p19.2 h43
        refine V_blk C (pc' := 27) (σ' := s8) (L' := [some (.ref 63), none, none]) (st' := [.int 0]) (g_c dX8_part_26 g_n) rfl rfl ?_
        refine V_goto C (tgt := 34) dX8_part_27 (by decide) ?_
        exact jn18 0 s8 p48
    refine V_if_ne C (tgt := 19) dX8_part_12 (by decide) (fun h49 => ?_) (fun h49 => ?_)
    · skip
      have p50 := p11.2 h49
      exact jn10 s1 p50
    · skip
      have p51 := p11.1 h49
      refine V_blk C (pc' := 16) (σ' := s1) (L' := [some (.ref 63), none, none]) (st' := [.ref 63]) (g_c dX8_part_15 g_n) rfl rfl ?_
      refine V_gV C cv_X8_208 p51 ⟨_, _, _, _, rfl, rfl⟩ (by rfl) (by decide) (As := []) (rest := []) rfl rfl (Nat.le_of_ble_eq_true rfl) dX8_part_16 (fun rv s52 hq => ?_)
      obtain ⟨rfl, p53⟩ := hq
      exact jn10 s52 p53
  refine V_if_ne C (tgt := 8) dX8_part_1 (by decide) (fun h54 => ?_) (fun h54 => ?_)
  · skip
    have p55 := p4.2 h54
    refine V_less (L' := [some (.ref 63), none, none]) (by simp [g_subL]) ?_
    exact jn3 σ p55
  · skip
    have p56 := p4.1 h54
    refine V_blk C (pc' := 5) (σ' := σ) (L' := [some (.ref 63), some (.int ik), none]) (st' := [.ref 63]) (g_c dX8_part_4 g_n) rfl rfl ?_
    refine V_gV C cv_X8_205 p56 ⟨_, _, _, _, rfl, rfl⟩ (by rfl) (by decide) (As := []) (rest := []) rfl rfl (Nat.le_of_ble_eq_true rfl) dX8_part_5 (fun rv s57 hq => ?_)
    obtain ⟨rfl, p58⟩ := hq
    refine V_less (L' := [some (.ref 63), none, none]) (by simp [g_subL]) ?_
    exact jn3 s57 p58
set_option maxRecDepth 100000 in
def P_X8_read (h : Nat) (te : Int32) (wh : Int32) (σ : gS) (Qp : Option Value → gS → Prop) : Prop :=
  (∃ j3 : Nat, te = nI j3 ∧ j3 < 6 ∧ (g_call yX8_next cX8_next 3 none kM h [.ref 63] (g_up (g_up (g_up (g_up (g_up σ 63 26 (160 * te)) 63 27 (σ 65 j3)) 63 28 0) 63 32 0) 63 33 0) (fun rv s5 => rv = none ∧ (g_call yX8_isWord cX8_isWord 9 (some .boolean) kM h [.ref 63, .int 102, .int 97, .int 108, .int 108, .int 115, .int 0, .int 0, .int 0] s5 (fun rv s7 => ∃ r9 : Int32, rv = some (.int r9) ∧ (g_call yX8_part cX8_part 3 (some .int) kM h [.ref 63, .int r9] s7 (fun rv s10 => ∃ r12 : Int32, rv = some (.int r12) ∧ (∃ J15 : Int32 → gS → Prop, ((((s10 63 33) : Int32) = 0 → (g_call yX8_isWord cX8_isWord 9 (some .boolean) kM h [.ref 63, .int 104, .int 97, .int 114, .int 109, .int 115, .int 0, .int 0, .int 0] s10 (fun rv s59 => ∃ r61 : Int32, rv = some (.int r61) ∧ (g_call yX8_part cX8_part 3 (some .int) kM h [.ref 63, .int r61] s59 (fun rv s62 => ∃ r64 : Int32, rv = some (.int r64) ∧ (J15 r64 s62)))))) ∧ (¬ ((s10 63 33) : Int32) = 0 → (J15 0 s10))) ∧ ∀ (v13 : Int32) (s14 : gS), J15 v13 s14 → (∃ J23 : Int32 → gS → Prop, ((((s14 63 33) : Int32) = 0 → (g_call yX8_isWord cX8_isWord 9 (some .boolean) kM h [.ref 63, .int 119, .int 97, .int 107, .int 101, .int 115, .int 0, .int 0, .int 0] s14 (fun rv s50 => ∃ r52 : Int32, rv = some (.int r52) ∧ (g_call yX8_part cX8_part 3 (some .int) kM h [.ref 63, .int r52] s50 (fun rv s53 => ∃ r55 : Int32, rv = some (.int r55) ∧ (J23 r55 s53)))))) ∧ (¬ ((s14 63 33) : Int32) = 0 → (J23 0 s14))) ∧ ∀ (v21 : Int32) (s22 : gS), J23 v21 s22 → (∃ J30 : gS → Prop, ((((s22 63 33) : Int32) = 0 → ((((s22 63 29) : Int32) = 0 → (J30 s22)) ∧ (¬ ((s22 63 29) : Int32) = 0 → (g_call yX8_fail cX8_fail 1 none kM h [.ref 63] s22 (fun rv s46 => rv = none ∧ (J30 s46)))))) ∧ (¬ ((s22 63 33) : Int32) = 0 → (J30 s22))) ∧ ∀  (s29 : gS), J30 s29 → (((wh : Int32) = 0 → (Qp (some (.int r12)) s29)) ∧ (¬ (wh : Int32) = 0 → (Qp (some (.int (if (wh : Int32) = 1 then v13 else v21))) s29)))))))))))))
set_option maxHeartbeats 4000000 in
set_option maxRecDepth 100000 in
theorem w_X8_read {h : Nat} (hh : 6 ≤ h) {te : Int32} {wh : Int32} {σ : gS} {Qp : Option Value → gS → Prop} (P : P_X8_read h te wh σ Qp) : g_Met yX8_read cX8_read 6 (some .int) h kM [.ref 63, .int te, .int wh] σ Qp := by
  unfold P_X8_read at P
  refine g_Met.of (own := 8) (L := [some (.ref 63), some (.int te), some (.int wh), none, none, none]) (by decide) rfl rfl (fun ad => Nat.le_of_ble_eq_true rfl) (fun ad => rfl) (fun X G K C => ?_)
  refine V_blk C (pc' := 15) (σ' := (g_up σ 63 26 (160 * te))) (L' := [some (.ref 63), some (.int te), some (.int wh), none, none, none]) (st' := [.int te, .ref 65, .ref 63]) (g_c dX8_read_0 (g_c dX8_read_1 (g_c dX8_read_4 (g_c dX8_read_5 (g_c dX8_read_6 (g_c dX8_read_9 (g_c dX8_read_10 (g_c dX8_read_11 (g_c dX8_read_14 g_n))))))))) rfl rfl ?_
  obtain ⟨j3, e4, l2, p1⟩ := P
  refine V_ialdJ C (j := j3) (k := 65) (n := 6) (by rfl) (by rfl) e4 ⟨(by omega), (by omega)⟩ dX8_read_15 ?_
  refine V_eq rfl rfl (st' := [.int (σ 65 j3), .ref 63]) (by simp [g_up]) ?_
  refine V_blk C (pc' := 31) (σ' := (g_up (g_up (g_up (g_up σ 63 26 (160 * te)) 63 27 (σ 65 j3)) 63 28 0) 63 32 0)) (L' := [some (.ref 63), some (.int te), some (.int wh), none, none, none]) (st' := [.int 0, .ref 63]) (g_c dX8_read_16 (g_c dX8_read_19 (g_c dX8_read_20 (g_c dX8_read_21 (g_c dX8_read_24 (g_c dX8_read_25 (g_c dX8_read_26 (g_c dX8_read_29 (g_c dX8_read_30 g_n))))))))) rfl rfl ?_
  refine V_putZ C (k := 63) fl_X8_191 (by decide) rfl rfl (by rfl) rfl dX8_read_31 ?_
  refine V_blk C (pc' := 35) (σ' := (g_up (g_up (g_up (g_up (g_up σ 63 26 (160 * te)) 63 27 (σ 65 j3)) 63 28 0) 63 32 0) 63 33 0)) (L' := [some (.ref 63), some (.int te), some (.int wh), none, none, none]) (st' := [.ref 63]) (g_c dX8_read_34 g_n) rfl rfl ?_
  refine V_gV C cv_X8_208 p1 ⟨_, _, _, _, rfl, rfl⟩ (by rfl) (by decide) (As := []) (rest := []) rfl rfl (Nat.le_of_ble_eq_true rfl) dX8_read_35 (fun rv s5 hq => ?_)
  obtain ⟨rfl, p6⟩ := hq
  refine V_blk C (pc' := 53) (σ' := s5) (L' := [some (.ref 63), some (.int te), some (.int wh), none, none, none]) (st' := [.int 0, .int 0, .int 0, .int 115, .int 108, .int 108, .int 97, .int 102, .ref 63, .ref 63]) (g_c dX8_read_38 (g_c dX8_read_39 (g_c dX8_read_40 (g_c dX8_read_42 (g_c dX8_read_44 (g_c dX8_read_46 (g_c dX8_read_48 (g_c dX8_read_50 (g_c dX8_read_51 (g_c dX8_read_52 g_n)))))))))) rfl rfl ?_
  refine V_gV C cv_X8_211 p6 ⟨_, _, _, _, rfl, rfl⟩ (by rfl) (by decide) (As := [.int 102, .int 97, .int 108, .int 108, .int 115, .int 0, .int 0, .int 0]) (rest := [.ref 63]) rfl rfl (Nat.le_of_ble_eq_true rfl) dX8_read_53 (fun rv s7 hq => ?_)
  obtain ⟨r9, rfl, p8⟩ := hq
  refine V_gV C cv_X8_266 p8 ⟨_, _, _, _, rfl, rfl⟩ (by rfl) (by decide) (As := [.int r9]) (rest := []) rfl rfl (Nat.le_of_ble_eq_true rfl) dX8_read_56 (fun rv s10 hq => ?_)
  obtain ⟨r12, rfl, p11⟩ := hq
  refine V_blk C (pc' := 64) (σ' := s10) (L' := [some (.ref 63), some (.int te), some (.int wh), some (.int r12), none, none]) (st' := [.int (s10 63 33)]) (g_c dX8_read_59 (g_c dX8_read_60 (g_c dX8_read_61 g_n))) rfl rfl ?_
  obtain ⟨J15, p17, p18⟩ := p11
  have jn16 : ∀ (v13 : Int32) (s14 : gS) (_ : J15 v13 s14), gV X G K 6 Qp s14 [some (.ref 63), none, some (.int wh), some (.int r12), none, none] [.int v13] 92 := by
    intro v13 s14 hJ19
    have p20 := p18 v13 s14 hJ19
    refine V_blk C (pc' := 98) (σ' := s14) (L' := [some (.ref 63), none, some (.int wh), some (.int r12), some (.int v13), none]) (st' := [.int (s14 63 33)]) (g_c dX8_read_92 (g_c dX8_read_94 (g_c dX8_read_95 g_n))) rfl rfl ?_
    obtain ⟨J23, p25, p26⟩ := p20
    have jn24 : ∀ (v21 : Int32) (s22 : gS) (_ : J23 v21 s22), gV X G K 6 Qp s22 [some (.ref 63), none, some (.int wh), some (.int r12), some (.int v13), none] [.int v21] 126 := by
      intro v21 s22 hJ27
      have p28 := p26 v21 s22 hJ27
      refine V_blk C (pc' := 132) (σ' := s22) (L' := [some (.ref 63), none, some (.int wh), some (.int r12), some (.int v13), some (.int v21)]) (st' := [.int (s22 63 33)]) (g_c dX8_read_126 (g_c dX8_read_128 (g_c dX8_read_129 g_n))) rfl rfl ?_
      obtain ⟨J30, p32, p33⟩ := p28
      have jn31 : ∀  (s29 : gS) (_ : J30 s29), gV X G K 6 Qp s29 [none, none, some (.int wh), some (.int r12), some (.int v13), some (.int v21)] [] 146 := by
        intro s29 hJ34
        have p35 := p33 s29 hJ34
        refine V_blk C (pc' := 147) (σ' := s29) (L' := [none, none, some (.int wh), some (.int r12), some (.int v13), some (.int v21)]) (st' := [.int wh]) (g_c dX8_read_146 g_n) rfl rfl ?_
        refine V_if_ne C (tgt := 154) dX8_read_147 (by decide) (fun h36 => ?_) (fun h36 => ?_)
        · skip
          have p37 := p35.2 h36
          refine V_blk C (pc' := 156) (σ' := s29) (L' := [none, none, some (.int wh), some (.int r12), some (.int v13), some (.int v21)]) (st' := [.int 1, .int wh]) (g_c dX8_read_154 (g_c dX8_read_155 g_n)) rfl rfl ?_
          refine V_join (P := (wh : Int32) = 1) (a := v13) (b := v21) (pcJ := 166) (rest := []) (fun x_ hx_ => ?_) (fun kT kF => ?_)
          · skip
            subst hx_
            refine V_iret C dX8_read_166 ?_
            exact p37
          · refine V_icmp_ne C (tgt := 164) dX8_read_156 (by decide) (fun h38 => ?_) (fun h38 => ?_)
            · skip
              refine V_blk C (pc' := 166) (σ' := s29) (L' := [none, none, some (.int wh), some (.int r12), some (.int v13), some (.int v21)]) (st' := [.int v21]) (g_c dX8_read_164 g_n) rfl rfl ?_
              exact kF h38
            · skip
              refine V_blk C (pc' := 161) (σ' := s29) (L' := [none, none, some (.int wh), some (.int r12), some (.int v13), some (.int v21)]) (st' := [.int v13]) (g_c dX8_read_159 g_n) rfl rfl ?_
              refine V_goto C (tgt := 166) dX8_read_161 (by decide) ?_
              exact kT h38
        · skip
          have p39 := p35.1 h36
          refine V_blk C (pc' := 151) (σ' := s29) (L' := [none, none, some (.int wh), some (.int r12), some (.int v13), some (.int v21)]) (st' := [.int r12]) (g_c dX8_read_150 g_n) rfl rfl ?_
          refine V_goto C (tgt := 166) dX8_read_151 (by decide) ?_
          refine V_iret C dX8_read_166 ?_
          exact p39
      refine V_if_ne C (tgt := 146) dX8_read_132 (by decide) (fun h40 => ?_) (fun h40 => ?_)
      · skip
        have p41 := p32.2 h40
        refine V_less (L' := [none, none, some (.int wh), some (.int r12), some (.int v13), some (.int v21)]) (by simp [g_subL]) ?_
        exact jn31 s22 p41
      · skip
        have p42 := p32.1 h40
        refine V_blk C (pc' := 139) (σ' := s22) (L' := [some (.ref 63), none, some (.int wh), some (.int r12), some (.int v13), some (.int v21)]) (st' := [.int (s22 63 29)]) (g_c dX8_read_135 (g_c dX8_read_136 g_n)) rfl rfl ?_
        refine V_if_eq C (tgt := 146) dX8_read_139 (by decide) (fun h43 => ?_) (fun h43 => ?_)
        · skip
          have p44 := p42.1 h43
          refine V_less (L' := [none, none, some (.int wh), some (.int r12), some (.int v13), some (.int v21)]) (by simp [g_subL]) ?_
          exact jn31 s22 p44
        · skip
          have p45 := p42.2 h43
          refine V_blk C (pc' := 143) (σ' := s22) (L' := [some (.ref 63), none, some (.int wh), some (.int r12), some (.int v13), some (.int v21)]) (st' := [.ref 63]) (g_c dX8_read_142 g_n) rfl rfl ?_
          refine V_gV C cv_X8_205 p45 ⟨_, _, _, _, rfl, rfl⟩ (by rfl) (by decide) (As := []) (rest := []) rfl rfl (Nat.le_of_ble_eq_true rfl) dX8_read_143 (fun rv s46 hq => ?_)
          obtain ⟨rfl, p47⟩ := hq
          refine V_less (L' := [none, none, some (.int wh), some (.int r12), some (.int v13), some (.int v21)]) (by simp [g_subL]) ?_
          exact jn31 s46 p47
    refine V_if_eq C (tgt := 105) dX8_read_98 (by decide) (fun h48 => ?_) (fun h48 => ?_)
    · skip
      have p49 := p25.1 h48
      refine V_blk C (pc' := 120) (σ' := s14) (L' := [some (.ref 63), none, some (.int wh), some (.int r12), some (.int v13), none]) (st' := [.int 0, .int 0, .int 0, .int 115, .int 101, .int 107, .int 97, .int 119, .ref 63, .ref 63]) (g_c dX8_read_105 (g_c dX8_read_106 (g_c dX8_read_107 (g_c dX8_read_109 (g_c dX8_read_111 (g_c dX8_read_113 (g_c dX8_read_115 (g_c dX8_read_117 (g_c dX8_read_118 (g_c dX8_read_119 g_n)))))))))) rfl rfl ?_
      refine V_gV C cv_X8_211 p49 ⟨_, _, _, _, rfl, rfl⟩ (by rfl) (by decide) (As := [.int 119, .int 97, .int 107, .int 101, .int 115, .int 0, .int 0, .int 0]) (rest := [.ref 63]) rfl rfl (Nat.le_of_ble_eq_true rfl) dX8_read_120 (fun rv s50 hq => ?_)
      obtain ⟨r52, rfl, p51⟩ := hq
      refine V_gV C cv_X8_266 p51 ⟨_, _, _, _, rfl, rfl⟩ (by rfl) (by decide) (As := [.int r52]) (rest := []) rfl rfl (Nat.le_of_ble_eq_true rfl) dX8_read_123 (fun rv s53 hq => ?_)
      obtain ⟨r55, rfl, p54⟩ := hq
      exact jn24 r55 s53 p54
    · skip
      have p56 := p25.2 h48
      refine V_blk C (pc' := 102) (σ' := s14) (L' := [some (.ref 63), none, some (.int wh), some (.int r12), some (.int v13), none]) (st' := [.int 0]) (g_c dX8_read_101 g_n) rfl rfl ?_
      refine V_goto C (tgt := 126) dX8_read_102 (by decide) ?_
      exact jn24 0 s14 p56
  refine V_if_eq C (tgt := 71) dX8_read_64 (by decide) (fun h57 => ?_) (fun h57 => ?_)
  · skip
    have p58 := p17.1 h57
    refine V_blk C (pc' := 86) (σ' := s10) (L' := [some (.ref 63), some (.int te), some (.int wh), some (.int r12), none, none]) (st' := [.int 0, .int 0, .int 0, .int 115, .int 109, .int 114, .int 97, .int 104, .ref 63, .ref 63]) (g_c dX8_read_71 (g_c dX8_read_72 (g_c dX8_read_73 (g_c dX8_read_75 (g_c dX8_read_77 (g_c dX8_read_79 (g_c dX8_read_81 (g_c dX8_read_83 (g_c dX8_read_84 (g_c dX8_read_85 g_n)))))))))) rfl rfl ?_
    refine V_gV C cv_X8_211 p58 ⟨_, _, _, _, rfl, rfl⟩ (by rfl) (by decide) (As := [.int 104, .int 97, .int 114, .int 109, .int 115, .int 0, .int 0, .int 0]) (rest := [.ref 63]) rfl rfl (Nat.le_of_ble_eq_true rfl) dX8_read_86 (fun rv s59 hq => ?_)
    obtain ⟨r61, rfl, p60⟩ := hq
    refine V_gV C cv_X8_266 p60 ⟨_, _, _, _, rfl, rfl⟩ (by rfl) (by decide) (As := [.int r61]) (rest := []) rfl rfl (Nat.le_of_ble_eq_true rfl) dX8_read_89 (fun rv s62 hq => ?_)
    obtain ⟨r64, rfl, p63⟩ := hq
    refine V_less (L' := [some (.ref 63), none, some (.int wh), some (.int r12), none, none]) (by simp [g_subL]) ?_
    exact jn16 r64 s62 p63
  · skip
    have p65 := p17.2 h57
    refine V_blk C (pc' := 68) (σ' := s10) (L' := [some (.ref 63), some (.int te), some (.int wh), some (.int r12), none, none]) (st' := [.int 0]) (g_c dX8_read_67 g_n) rfl rfl ?_
    refine V_goto C (tgt := 92) dX8_read_68 (by decide) ?_
    refine V_less (L' := [some (.ref 63), none, some (.int wh), some (.int r12), none, none]) (by simp [g_subL]) ?_
    exact jn16 0 s10 p65
set_option maxRecDepth 100000 in
def P_X8_text (h : Nat)  (σ : gS) (Qp : Option Value → gS → Prop) : Prop :=
  ((((σ 63 3) : Int32) = 6 → (Qp (some (.int (-4))) σ)) ∧ (¬ ((σ 63 3) : Int32) = 6 → (∃ I4 : Nat → Int32 → gS → Prop, (∃ k9 : Nat, I4 k9 0 σ) ∧ ∀ (k6 : Nat) (v3 : Int32) (s12 : gS), I4 k6 v3 s12 → (((v3 : Int32) < (s12 63 6) → (∃ j29 : Nat, v3 = nI j29 ∧ j29 < 160 ∧ (∃ j33 : Nat, ((160 * (s12 63 3)) + v3) = nI j33 ∧ j33 < 960 ∧ (∃ k35 : Nat, k35 < k6 ∧ I4 k35 (v3 + 1) (g_up s12 64 j33 (s12 66 j29)))))) ∧ (¬ (v3 : Int32) < (s12 63 6) → (∃ j18 : Nat, (s12 63 3) = nI j18 ∧ j18 < 6 ∧ (g_call yX8_read cX8_read 6 (some .int) kM h [.ref 63, .int (s12 63 3), .int 0] (g_up (g_up s12 65 j18 (s12 63 6)) 63 6 0) (fun rv s20 => ∃ r22 : Int32, rv = some (.int r22) ∧ ((((s20 63 33) : Int32) = 0 → (Qp (some (.int (((s20 63 3) + 1) - 1))) (g_up s20 63 3 ((s20 63 3) + 1)))) ∧ (¬ ((s20 63 33) : Int32) = 0 → (Qp (some (.int ((-100) - (s20 63 34)))) s20)))))))))))
set_option maxHeartbeats 4000000 in
set_option maxRecDepth 100000 in
theorem w_X8_text {h : Nat} (hh : 6 ≤ h)  {σ : gS} {Qp : Option Value → gS → Prop} (P : P_X8_text h  σ Qp) : g_Met yX8_text cX8_text 2 (some .int) h kM [.ref 63] σ Qp := by
  unfold P_X8_text at P
  refine g_Met.of (own := 8) (L := [some (.ref 63), none]) (by decide) rfl rfl (fun ad => Nat.le_of_ble_eq_true rfl) (fun ad => rfl) (fun X G K C => ?_)
  refine V_blk C (pc' := 6) (σ' := σ) (L' := [some (.ref 63), none]) (st' := [.int 6, .int (σ 63 3)]) (g_c dX8_text_0 (g_c dX8_text_1 (g_c dX8_text_4 g_n))) rfl rfl ?_
  refine V_icmp_ne C (tgt := 12) dX8_text_6 (by decide) (fun h1 => ?_) (fun h1 => ?_)
  · skip
    have p2 := P.2 h1
    refine V_blk C (pc' := 14) (σ' := σ) (L' := [some (.ref 63), some (.int 0)]) (st' := []) (g_c dX8_text_12 (g_c dX8_text_13 g_n)) rfl rfl ?_
    obtain ⟨I4, ⟨k9, hI11⟩, hS8⟩ := p2
    have lp10 : ∀ (k6 : Nat) (v3 : Int32) (s12 : gS), I4 k6 v3 s12 → gV X G K 2 Qp s12 [some (.ref 63), some (.int v3)] [] 14 := by
      intro k6
      induction k6 using Nat.strongRecOn with
      | ind k6 ih5 =>
        intro v3 s12 hI7
        have p13 := hS8 k6 v3 s12 hI7
        refine V_blk C (pc' := 19) (σ' := s12) (L' := [some (.ref 63), some (.int v3)]) (st' := [.int (s12 63 6), .int v3]) (g_c dX8_text_14 (g_c dX8_text_15 (g_c dX8_text_16 g_n))) rfl rfl ?_
        refine V_icmp_ge2 C (tgt := 49) dX8_text_19 (by decide) (fun h14 => ?_) (fun h14 => ?_)
        · skip
          have p15 := p13.2 h14
          refine V_blk C (pc' := 61) (σ' := s12) (L' := [some (.ref 63), some (.int v3)]) (st' := [.int (s12 63 6), .int (s12 63 3), .ref 65]) (g_c dX8_text_49 (g_c dX8_text_50 (g_c dX8_text_53 (g_c dX8_text_54 (g_c dX8_text_57 (g_c dX8_text_58 g_n)))))) rfl rfl ?_
          obtain ⟨j18, e19, l17, p16⟩ := p15
          refine V_iastJ C (j := j18) (k := 65) (n := 6) (by rfl) (by rfl) e19 ⟨(by omega), (by omega)⟩ dX8_text_61 ?_
          refine V_blk C (pc' := 73) (σ' := (g_up (g_up s12 65 j18 (s12 63 6)) 63 6 0)) (L' := [some (.ref 63), some (.int v3)]) (st' := [.int 0, .int (s12 63 3), .ref 63]) (g_c dX8_text_62 (g_c dX8_text_63 (g_c dX8_text_64 (g_c dX8_text_67 (g_c dX8_text_68 (g_c dX8_text_69 (g_c dX8_text_72 g_n))))))) rfl rfl ?_
          refine V_gV C cv_X8_270 p16 ⟨_, _, _, _, rfl, rfl⟩ (by rfl) (by decide) (As := [.int (s12 63 3), .int 0]) (rest := []) rfl rfl (Nat.le_of_ble_eq_true rfl) dX8_text_73 (fun rv s20 hq => ?_)
          obtain ⟨r22, rfl, p21⟩ := hq
          refine V_blk C (pc' := 81) (σ' := s20) (L' := [some (.ref 63), some (.int r22)]) (st' := [.int (s20 63 33)]) (g_c dX8_text_76 (g_c dX8_text_77 (g_c dX8_text_78 g_n))) rfl rfl ?_
          refine V_if_eq C (tgt := 92) dX8_text_81 (by decide) (fun h23 => ?_) (fun h23 => ?_)
          · skip
            have p24 := p21.1 h23
            refine V_blk C (pc' := 108) (σ' := (g_up s20 63 3 ((s20 63 3) + 1))) (L' := [some (.ref 63), some (.int r22)]) (st' := [.int (((s20 63 3) + 1) - 1)]) (g_c dX8_text_92 (g_c dX8_text_93 (g_c dX8_text_94 (g_c dX8_text_97 (g_c dX8_text_98 (g_c dX8_text_99 (g_c dX8_text_102 (g_c dX8_text_103 (g_c dX8_text_106 (g_c dX8_text_107 g_n)))))))))) rfl rfl ?_
            refine V_iret C dX8_text_108 ?_
            exact p24
          · skip
            have p25 := p21.2 h23
            refine V_blk C (pc' := 91) (σ' := s20) (L' := [some (.ref 63), some (.int r22)]) (st' := [.int ((-100) - (s20 63 34))]) (g_c dX8_text_84 (g_c dX8_text_86 (g_c dX8_text_87 (g_c dX8_text_90 g_n)))) rfl rfl ?_
            refine V_iret C dX8_text_91 ?_
            exact p25
        · skip
          have p26 := p13.1 h14
          refine V_blk C (pc' := 41) (σ' := s12) (L' := [some (.ref 63), some (.int v3)]) (st' := [.int v3, .ref 66, .int ((160 * (s12 63 3)) + v3), .ref 64]) (g_c dX8_text_22 (g_c dX8_text_23 (g_c dX8_text_26 (g_c dX8_text_29 (g_c dX8_text_30 (g_c dX8_text_33 (g_c dX8_text_34 (g_c dX8_text_35 (g_c dX8_text_36 (g_c dX8_text_37 (g_c dX8_text_40 g_n))))))))))) rfl rfl ?_
          obtain ⟨j29, e30, l28, p27⟩ := p26
          refine V_ialdJ C (j := j29) (k := 66) (n := 160) (by rfl) (by rfl) e30 ⟨(by omega), (by omega)⟩ dX8_text_41 ?_
          obtain ⟨j33, e34, l32, p31⟩ := p27
          refine V_iastJ C (j := j33) (k := 64) (n := 960) (by rfl) (by rfl) e34 ⟨(by omega), (by omega)⟩ dX8_text_42 ?_
          refine V_blk C (pc' := 46) (σ' := (g_up s12 64 j33 (s12 66 j29))) (L' := [some (.ref 63), some (.int (v3 + 1))]) (st' := []) (g_c dX8_text_43 g_n) rfl rfl ?_
          refine V_goto C (tgt := 14) dX8_text_46 (by decide) ?_
          obtain ⟨k35, hkk35, hIk35⟩ := p31
          exact ih5 k35 hkk35 (v3 + 1) (g_up s12 64 j33 (s12 66 j29)) hIk35
    exact lp10 k9 0 σ hI11
  · skip
    have p36 := P.1 h1
    refine V_blk C (pc' := 11) (σ' := σ) (L' := [some (.ref 63), none]) (st' := [.int (-4)]) (g_c dX8_text_9 g_n) rfl rfl ?_
    refine V_iret C dX8_text_11 ?_
    exact p36
set_option maxRecDepth 100000 in
def P_X8_says (h : Nat) (wh : Int32) (hr : Int32) (pl : Int32) (rt : Int32) (sz : Int32) (go : Int32) (σ : gS) (Qp : Option Value → gS → Prop) : Prop :=
  (∃ j3 : Nat, hr = nI j3 ∧ j3 < 24 ∧ (g_call yX8_read cX8_read 6 (some .int) kM h [.ref 63, .int (σ 63 4), .int wh] (g_up (g_up (g_up (g_up (g_up (g_up σ 63 20 (σ 67 j3)) 63 21 hr) 63 22 pl) 63 23 rt) 63 24 sz) 63 25 go) (fun rv s5 => ∃ r7 : Int32, rv = some (.int r7) ∧ (Qp (some (.int (if r7 < 0 then 0 else (if (if (wh : Int32) = 0 then 99 else 999) < r7 then (if (wh : Int32) = 0 then 99 else 999) else r7)))) s5))))
set_option maxHeartbeats 4000000 in
set_option maxRecDepth 100000 in
theorem w_X8_says {h : Nat} (hh : 6 ≤ h) {wh : Int32} {hr : Int32} {pl : Int32} {rt : Int32} {sz : Int32} {go : Int32} {σ : gS} {Qp : Option Value → gS → Prop} (P : P_X8_says h wh hr pl rt sz go σ Qp) : g_Met yX8_says cX8_says 7 (some .int) h kM [.ref 63, .int wh, .int hr, .int pl, .int rt, .int sz, .int go] σ Qp := by
  unfold P_X8_says at P
  refine g_Met.of (own := 8) (L := [some (.ref 63), some (.int wh), some (.int hr), some (.int pl), some (.int rt), some (.int sz), some (.int go)]) (by decide) rfl rfl (fun ad => Nat.le_of_ble_eq_true rfl) (fun ad => rfl) (fun X G K C => ?_)
  refine V_blk C (pc' := 6) (σ' := σ) (L' := [some (.ref 63), some (.int wh), some (.int hr), some (.int pl), some (.int rt), some (.int sz), some (.int go)]) (st' := [.int hr, .ref 67, .ref 63]) (g_c dX8_says_0 (g_c dX8_says_1 (g_c dX8_says_2 (g_c dX8_says_5 g_n)))) rfl rfl ?_
  obtain ⟨j3, e4, l2, p1⟩ := P
  refine V_ialdJ C (j := j3) (k := 67) (n := 24) (by rfl) (by rfl) e4 ⟨(by omega), (by omega)⟩ dX8_says_6 ?_
  refine V_blk C (pc' := 44) (σ' := (g_up (g_up (g_up (g_up (g_up (g_up σ 63 20 (σ 67 j3)) 63 21 hr) 63 22 pl) 63 23 rt) 63 24 sz) 63 25 go)) (L' := [some (.ref 63), some (.int wh), some (.int hr), some (.int pl), some (.int rt), some (.int sz), some (.int go)]) (st' := [.int wh, .int (σ 63 4), .ref 63]) (g_c dX8_says_7 (g_c dX8_says_10 (g_c dX8_says_11 (g_c dX8_says_12 (g_c dX8_says_15 (g_c dX8_says_16 (g_c dX8_says_17 (g_c dX8_says_20 (g_c dX8_says_21 (g_c dX8_says_23 (g_c dX8_says_26 (g_c dX8_says_27 (g_c dX8_says_29 (g_c dX8_says_32 (g_c dX8_says_33 (g_c dX8_says_35 (g_c dX8_says_38 (g_c dX8_says_39 (g_c dX8_says_40 (g_c dX8_says_43 g_n)))))))))))))))))))) rfl rfl ?_
  refine V_gV C cv_X8_270 p1 ⟨_, _, _, _, rfl, rfl⟩ (by rfl) (by decide) (As := [.int (σ 63 4), .int wh]) (rest := []) rfl rfl (Nat.le_of_ble_eq_true rfl) dX8_says_44 (fun rv s5 hq => ?_)
  obtain ⟨r7, rfl, p6⟩ := hq
  refine V_blk C (pc' := 49) (σ' := s5) (L' := [some (.ref 63), some (.int wh), some (.int hr), some (.int pl), some (.int rt), some (.int sz), some (.int go)]) (st' := [.int wh, .int 0, .int r7]) (g_c dX8_says_47 (g_c dX8_says_48 g_n)) rfl rfl ?_
  refine V_join (P := (wh : Int32) = 0) (a := 99) (b := 999) (pcJ := 60) (rest := [.int 0, .int r7]) (fun x_ hx_ => ?_) (fun kT kF => ?_)
  · skip
    subst hx_
    refine V_callSI C cs_X8_277 (c_X8_within s5 r7 0 (if (wh : Int32) = 0 then 99 else 999)) (by omega) (by decide) (fun _ h => h) (As := [.int r7, .int 0, .int (if (wh : Int32) = 0 then 99 else 999)]) (rest := []) rfl rfl (Nat.le_of_ble_eq_true rfl) dX8_says_60 ?_
    refine V_iret C dX8_says_63 ?_
    exact p6
  · refine V_if_ne C (tgt := 57) dX8_says_49 (by decide) (fun h8 => ?_) (fun h8 => ?_)
    · skip
      refine V_blk C (pc' := 60) (σ' := s5) (L' := [some (.ref 63), some (.int wh), some (.int hr), some (.int pl), some (.int rt), some (.int sz), some (.int go)]) (st' := [.int 999, .int 0, .int r7]) (g_c dX8_says_57 g_n) rfl rfl ?_
      exact kF h8
    · skip
      refine V_blk C (pc' := 54) (σ' := s5) (L' := [some (.ref 63), some (.int wh), some (.int hr), some (.int pl), some (.int rt), some (.int sz), some (.int go)]) (st' := [.int 99, .int 0, .int r7]) (g_c dX8_says_52 g_n) rfl rfl ?_
      refine V_goto C (tgt := 60) dX8_says_54 (by decide) ?_
      exact kT h8
set_option maxRecDepth 100000 in
def P_X8_where (h : Nat) (d : Int32) (hr : Int32) (σ : gS) (Qp : Option Value → gS → Prop) : Prop :=
  (∃ j3 : Nat, d = nI j3 ∧ j3 < 6 ∧ ((((σ 68 j3) : Int32) = 4 → (Qp (some (.int ((σ 69 j3) - (σ 69 j3) / 8 * 8))) σ)) ∧ (¬ ((σ 68 j3) : Int32) = 4 → ((((σ 68 j3) : Int32) = 2 → (∃ j12 : Nat, hr = nI j12 ∧ j12 < 24 ∧ ((((σ 69 j3) : Int32) < (σ 67 j12) → (Qp (some (.int (((σ 71 j3) + 1) - ((σ 71 j3) + 1) / 8 * 8))) σ)) ∧ (¬ ((σ 69 j3) : Int32) < (σ 67 j12) → (Qp (some (.int (σ 71 j3))) σ))))) ∧ (¬ ((σ 68 j3) : Int32) = 2 → (Qp (some (.int (σ 71 j3))) σ))))))
set_option maxHeartbeats 4000000 in
set_option maxRecDepth 100000 in
theorem w_X8_where {h : Nat} (hh : 6 ≤ h) {d : Int32} {hr : Int32} {σ : gS} {Qp : Option Value → gS → Prop} (P : P_X8_where h d hr σ Qp) : g_Met yX8_where cX8_where 4 (some .int) h kM [.ref 63, .int d, .int hr] σ Qp := by
  unfold P_X8_where at P
  refine g_Met.of (own := 8) (L := [some (.ref 63), some (.int d), some (.int hr), none]) (by decide) rfl rfl (fun ad => Nat.le_of_ble_eq_true rfl) (fun ad => rfl) (fun X G K C => ?_)
  refine V_blk C (pc' := 5) (σ' := σ) (L' := [some (.ref 63), some (.int d), some (.int hr), none]) (st' := [.int d, .ref 68]) (g_c dX8_where_0 (g_c dX8_where_1 (g_c dX8_where_4 g_n))) rfl rfl ?_
  obtain ⟨j3, e4, l2, p1⟩ := P
  refine V_ialdJ C (j := j3) (k := 68) (n := 6) (by rfl) (by rfl) e4 ⟨(by omega), (by omega)⟩ dX8_where_5 ?_
  refine V_blk C (pc' := 9) (σ' := σ) (L' := [some (.ref 63), some (.int d), some (.int hr), some (.int (σ 68 j3))]) (st' := [.int 4, .int (σ 68 j3)]) (g_c dX8_where_6 (g_c dX8_where_7 (g_c dX8_where_8 g_n))) rfl rfl ?_
  refine V_icmp_ne C (tgt := 22) dX8_where_9 (by decide) (fun h5 => ?_) (fun h5 => ?_)
  · skip
    have p6 := p1.2 h5
    refine V_blk C (pc' := 24) (σ' := σ) (L' := [some (.ref 63), some (.int d), some (.int hr), some (.int (σ 68 j3))]) (st' := [.int 2, .int (σ 68 j3)]) (g_c dX8_where_22 (g_c dX8_where_23 g_n)) rfl rfl ?_
    refine V_icmp_ne C (tgt := 56) dX8_where_24 (by decide) (fun h7 => ?_) (fun h7 => ?_)
    · skip
      have p8 := p6.2 h7
      refine V_blk C (pc' := 61) (σ' := σ) (L' := [some (.ref 63), some (.int d), some (.int hr), some (.int (σ 68 j3))]) (st' := [.int d, .ref 71]) (g_c dX8_where_56 (g_c dX8_where_57 (g_c dX8_where_60 g_n))) rfl rfl ?_
      refine V_ialdJ C (j := j3) (k := 71) (n := 6) (by rfl) (by rfl) e4 ⟨(by omega), (by omega)⟩ dX8_where_61 ?_
      refine V_iret C dX8_where_62 ?_
      exact p8
    · skip
      have p9 := p6.1 h7
      refine V_blk C (pc' := 32) (σ' := σ) (L' := [some (.ref 63), some (.int d), some (.int hr), some (.int (σ 68 j3))]) (st' := [.int hr, .ref 67]) (g_c dX8_where_27 (g_c dX8_where_28 (g_c dX8_where_31 g_n))) rfl rfl ?_
      obtain ⟨j12, e13, l11, p10⟩ := p9
      refine V_ialdJ C (j := j12) (k := 67) (n := 24) (by rfl) (by rfl) e13 ⟨(by omega), (by omega)⟩ dX8_where_32 ?_
      refine V_blk C (pc' := 38) (σ' := σ) (L' := [some (.ref 63), some (.int d), some (.int hr), some (.int (σ 68 j3))]) (st' := [.int d, .ref 69, .int (σ 67 j12)]) (g_c dX8_where_33 (g_c dX8_where_34 (g_c dX8_where_37 g_n))) rfl rfl ?_
      refine V_ialdJ C (j := j3) (k := 69) (n := 6) (by rfl) (by rfl) e4 ⟨(by omega), (by omega)⟩ dX8_where_38 ?_
      refine V_icmp_le2 C (tgt := 56) dX8_where_39 (by decide) (fun h14 => ?_) (fun h14 => ?_)
      · skip
        have p15 := p10.2 h14
        refine V_blk C (pc' := 61) (σ' := σ) (L' := [some (.ref 63), some (.int d), some (.int hr), some (.int (σ 68 j3))]) (st' := [.int d, .ref 71]) (g_c dX8_where_56 (g_c dX8_where_57 (g_c dX8_where_60 g_n))) rfl rfl ?_
        refine V_ialdJ C (j := j3) (k := 71) (n := 6) (by rfl) (by rfl) e4 ⟨(by omega), (by omega)⟩ dX8_where_61 ?_
        refine V_iret C dX8_where_62 ?_
        exact p15
      · skip
        have p16 := p10.1 h14
        refine V_blk C (pc' := 47) (σ' := σ) (L' := [some (.ref 63), some (.int d), some (.int hr), some (.int (σ 68 j3))]) (st' := [.int d, .ref 71]) (g_c dX8_where_42 (g_c dX8_where_43 (g_c dX8_where_46 g_n))) rfl rfl ?_
        refine V_ialdJ C (j := j3) (k := 71) (n := 6) (by rfl) (by rfl) e4 ⟨(by omega), (by omega)⟩ dX8_where_47 ?_
        refine V_blk C (pc' := 52) (σ' := σ) (L' := [some (.ref 63), some (.int d), some (.int hr), some (.int (σ 68 j3))]) (st' := [.int 8, .int ((σ 71 j3) + 1)]) (g_c dX8_where_48 (g_c dX8_where_49 (g_c dX8_where_50 g_n))) rfl rfl ?_
        refine V_irem C (by decide) dX8_where_52 ?_
        refine V_goto C (tgt := 62) dX8_where_53 (by decide) ?_
        refine V_iret C dX8_where_62 ?_
        exact p16
  · skip
    have p17 := p1.1 h5
    refine V_blk C (pc' := 17) (σ' := σ) (L' := [some (.ref 63), some (.int d), some (.int hr), some (.int (σ 68 j3))]) (st' := [.int d, .ref 69]) (g_c dX8_where_12 (g_c dX8_where_13 (g_c dX8_where_16 g_n))) rfl rfl ?_
    refine V_ialdJ C (j := j3) (k := 69) (n := 6) (by rfl) (by rfl) e4 ⟨(by omega), (by omega)⟩ dX8_where_17 ?_
    refine V_blk C (pc' := 20) (σ' := σ) (L' := [some (.ref 63), some (.int d), some (.int hr), some (.int (σ 68 j3))]) (st' := [.int 8, .int (σ 69 j3)]) (g_c dX8_where_18 g_n) rfl rfl ?_
    refine V_irem C (by decide) dX8_where_20 ?_
    refine V_iret C dX8_where_21 ?_
    exact p17
set_option maxRecDepth 100000 in
def P_X8_fallsOn (h : Nat) (d : Int32) (hr : Int32) (pl : Int32) (σ : gS) (Qp : Option Value → gS → Prop) : Prop :=
  (∃ j3 : Nat, d = nI j3 ∧ j3 < 6 ∧ (g_call yX8_says cX8_says 7 (some .int) kM h [.ref 63, .int 0, .int hr, .int pl, .int (σ 70 j3), .int 0, .int 0] σ (fun rv s5 => ∃ r7 : Int32, rv = some (.int r7) ∧ ((((σ 68 j3) : Int32) = 1 → (Qp (some (.int (r7 + 1))) s5)) ∧ (¬ ((σ 68 j3) : Int32) = 1 → ((((σ 68 j3) : Int32) = 3 → (Qp (some (.int (if (hr : Int32) < (s5 69 j3) then 0 else (2 * (r7 + 1))))) s5)) ∧ (¬ ((σ 68 j3) : Int32) = 3 → ((((σ 68 j3) : Int32) = 5 → (Qp (some (.int (if (hr : Int32) < 12 then 0 else (r7 + 1)))) s5)) ∧ (¬ ((σ 68 j3) : Int32) = 5 → (∃ J14 : Prop, ((((σ 68 j3) : Int32) = 2 → (J14)) ∧ (¬ ((σ 68 j3) : Int32) = 2 → ((((σ 68 j3) : Int32) = 4 → (J14)) ∧ (¬ ((σ 68 j3) : Int32) = 4 → (Qp (some (.int r7)) s5))))) ∧ (J14 → (∃ j22 : Nat, hr = nI j22 ∧ j22 < 24 ∧ (∃ J25 : Int32 → Prop, ((((s5 69 j3) : Int32) < (s5 67 j22) → (J25 (r7 / 2))) ∧ (¬ ((s5 69 j3) : Int32) < (s5 67 j22) → (J25 r7))) ∧ ∀ (v24 : Int32), J25 v24 → ((((σ 68 j3) : Int32) = 4 → (Qp (some (.int (if (9 : Int32) < v24 then 9 else v24))) s5)) ∧ (¬ ((σ 68 j3) : Int32) = 4 → (Qp (some (.int v24)) s5))))))))))))))))
set_option maxHeartbeats 4000000 in
set_option maxRecDepth 100000 in
theorem w_X8_fallsOn {h : Nat} (hh : 6 ≤ h) {d : Int32} {hr : Int32} {pl : Int32} {σ : gS} {Qp : Option Value → gS → Prop} (P : P_X8_fallsOn h d hr pl σ Qp) : g_Met yX8_fallsOn cX8_fallsOn 7 (some .int) h kM [.ref 63, .int d, .int hr, .int pl] σ Qp := by
  unfold P_X8_fallsOn at P
  refine g_Met.of (own := 8) (L := [some (.ref 63), some (.int d), some (.int hr), some (.int pl), none, none, none]) (by decide) rfl rfl (fun ad => Nat.le_of_ble_eq_true rfl) (fun ad => rfl) (fun X G K C => ?_)
  refine V_blk C (pc' := 5) (σ' := σ) (L' := [some (.ref 63), some (.int d), some (.int hr), some (.int pl), none, none, none]) (st' := [.int d, .ref 68]) (g_c dX8_fallsOn_0 (g_c dX8_fallsOn_1 (g_c dX8_fallsOn_4 g_n))) rfl rfl ?_
  obtain ⟨j3, e4, l2, p1⟩ := P
  refine V_ialdJ C (j := j3) (k := 68) (n := 6) (by rfl) (by rfl) e4 ⟨(by omega), (by omega)⟩ dX8_fallsOn_5 ?_
  refine V_blk C (pc' := 17) (σ' := σ) (L' := [some (.ref 63), some (.int d), some (.int hr), some (.int pl), some (.int (σ 68 j3)), none, none]) (st' := [.int d, .ref 70, .int pl, .int hr, .int 0, .ref 63]) (g_c dX8_fallsOn_6 (g_c dX8_fallsOn_8 (g_c dX8_fallsOn_9 (g_c dX8_fallsOn_10 (g_c dX8_fallsOn_11 (g_c dX8_fallsOn_12 (g_c dX8_fallsOn_13 (g_c dX8_fallsOn_16 g_n)))))))) rfl rfl ?_
  refine V_ialdJ C (j := j3) (k := 70) (n := 6) (by rfl) (by rfl) e4 ⟨(by omega), (by omega)⟩ dX8_fallsOn_17 ?_
  refine V_blk C (pc' := 20) (σ' := σ) (L' := [some (.ref 63), some (.int d), some (.int hr), some (.int pl), some (.int (σ 68 j3)), none, none]) (st' := [.int 0, .int 0, .int (σ 70 j3), .int pl, .int hr, .int 0, .ref 63]) (g_c dX8_fallsOn_18 (g_c dX8_fallsOn_19 g_n)) rfl rfl ?_
  refine V_gV C cv_X8_281 p1 ⟨_, _, _, _, rfl, rfl⟩ (by rfl) (by decide) (As := [.int 0, .int hr, .int pl, .int (σ 70 j3), .int 0, .int 0]) (rest := []) rfl rfl (Nat.le_of_ble_eq_true rfl) dX8_fallsOn_20 (fun rv s5 hq => ?_)
  obtain ⟨r7, rfl, p6⟩ := hq
  refine V_blk C (pc' := 28) (σ' := s5) (L' := [some (.ref 63), some (.int d), some (.int hr), some (.int pl), some (.int (σ 68 j3)), some (.int r7), none]) (st' := [.int 1, .int (σ 68 j3)]) (g_c dX8_fallsOn_23 (g_c dX8_fallsOn_25 (g_c dX8_fallsOn_27 g_n))) rfl rfl ?_
  refine V_icmp_ne C (tgt := 36) dX8_fallsOn_28 (by decide) (fun h8 => ?_) (fun h8 => ?_)
  · skip
    have p9 := p6.2 h8
    refine V_blk C (pc' := 39) (σ' := s5) (L' := [some (.ref 63), some (.int d), some (.int hr), some (.int pl), some (.int (σ 68 j3)), some (.int r7), none]) (st' := [.int 3, .int (σ 68 j3)]) (g_c dX8_fallsOn_36 (g_c dX8_fallsOn_38 g_n)) rfl rfl ?_
    refine V_icmp_ne C (tgt := 63) dX8_fallsOn_39 (by decide) (fun h10 => ?_) (fun h10 => ?_)
    · skip
      have p11 := p9.2 h10
      refine V_blk C (pc' := 66) (σ' := s5) (L' := [some (.ref 63), some (.int d), some (.int hr), some (.int pl), some (.int (σ 68 j3)), some (.int r7), none]) (st' := [.int 5, .int (σ 68 j3)]) (g_c dX8_fallsOn_63 (g_c dX8_fallsOn_65 g_n)) rfl rfl ?_
      refine V_icmp_ne C (tgt := 84) dX8_fallsOn_66 (by decide) (fun h12 => ?_) (fun h12 => ?_)
      · skip
        have p13 := p11.2 h12
        refine V_blk C (pc' := 87) (σ' := s5) (L' := [some (.ref 63), some (.int d), some (.int hr), some (.int pl), some (.int (σ 68 j3)), some (.int r7), none]) (st' := [.int 2, .int (σ 68 j3)]) (g_c dX8_fallsOn_84 (g_c dX8_fallsOn_86 g_n)) rfl rfl ?_
        obtain ⟨J14, p16, p17⟩ := p13
        have jn15 : ∀ (_ : J14 ), gV X G K 7 Qp s5 [some (.ref 63), some (.int d), some (.int hr), none, some (.int (σ 68 j3)), some (.int r7), none] [] 96 := by
          intro  hJ18
          have p19 := p17  hJ18
          refine V_blk C (pc' := 101) (σ' := s5) (L' := [some (.ref 63), some (.int d), some (.int hr), none, some (.int (σ 68 j3)), some (.int r7), none]) (st' := [.int hr, .ref 67]) (g_c dX8_fallsOn_96 (g_c dX8_fallsOn_97 (g_c dX8_fallsOn_100 g_n))) rfl rfl ?_
          obtain ⟨j22, e23, l21, p20⟩ := p19
          refine V_ialdJ C (j := j22) (k := 67) (n := 24) (by rfl) (by rfl) e23 ⟨(by omega), (by omega)⟩ dX8_fallsOn_101 ?_
          refine V_blk C (pc' := 107) (σ' := s5) (L' := [some (.ref 63), some (.int d), some (.int hr), none, some (.int (σ 68 j3)), some (.int r7), none]) (st' := [.int d, .ref 69, .int (s5 67 j22)]) (g_c dX8_fallsOn_102 (g_c dX8_fallsOn_103 (g_c dX8_fallsOn_106 g_n))) rfl rfl ?_
          refine V_ialdJ C (j := j3) (k := 69) (n := 6) (by rfl) (by rfl) e4 ⟨(by omega), (by omega)⟩ dX8_fallsOn_107 ?_
          obtain ⟨J25, p27, p28⟩ := p20
          have jn26 : ∀ (v24 : Int32) (_ : J25 v24), gV X G K 7 Qp s5 [none, none, none, none, some (.int (σ 68 j3)), none, none] [.int v24] 120 := by
            intro v24 hJ29
            have p30 := p28 v24 hJ29
            refine V_blk C (pc' := 125) (σ' := s5) (L' := [none, none, none, none, some (.int (σ 68 j3)), none, some (.int v24)]) (st' := [.int 4, .int (σ 68 j3)]) (g_c dX8_fallsOn_120 (g_c dX8_fallsOn_122 (g_c dX8_fallsOn_124 g_n))) rfl rfl ?_
            refine V_icmp_ne C (tgt := 140) dX8_fallsOn_125 (by decide) (fun h31 => ?_) (fun h31 => ?_)
            · skip
              have p32 := p30.2 h31
              refine V_blk C (pc' := 142) (σ' := s5) (L' := [none, none, none, none, some (.int (σ 68 j3)), none, some (.int v24)]) (st' := [.int v24]) (g_c dX8_fallsOn_140 g_n) rfl rfl ?_
              refine V_iret C dX8_fallsOn_142 ?_
              exact p32
            · skip
              have p33 := p30.1 h31
              refine V_blk C (pc' := 132) (σ' := s5) (L' := [none, none, none, none, some (.int (σ 68 j3)), none, some (.int v24)]) (st' := [.int 9, .int v24]) (g_c dX8_fallsOn_128 (g_c dX8_fallsOn_130 g_n)) rfl rfl ?_
              refine V_join (P := (9 : Int32) < v24) (a := 9) (b := v24) (pcJ := 142) (rest := []) (fun x_ hx_ => ?_) (fun kT kF => ?_)
              · skip
                subst hx_
                refine V_iret C dX8_fallsOn_142 ?_
                exact p33
              · refine V_icmp_le2 C (tgt := 140) dX8_fallsOn_132 (by decide) (fun h34 => ?_) (fun h34 => ?_)
                · skip
                  refine V_blk C (pc' := 142) (σ' := s5) (L' := [none, none, none, none, some (.int (σ 68 j3)), none, some (.int v24)]) (st' := [.int v24]) (g_c dX8_fallsOn_140 g_n) rfl rfl ?_
                  exact kF h34
                · skip
                  refine V_blk C (pc' := 137) (σ' := s5) (L' := [none, none, none, none, some (.int (σ 68 j3)), none, some (.int v24)]) (st' := [.int 9]) (g_c dX8_fallsOn_135 g_n) rfl rfl ?_
                  refine V_goto C (tgt := 142) dX8_fallsOn_137 (by decide) ?_
                  exact kT h34
          refine V_icmp_le2 C (tgt := 118) dX8_fallsOn_108 (by decide) (fun h35 => ?_) (fun h35 => ?_)
          · skip
            have p36 := p27.2 h35
            refine V_blk C (pc' := 120) (σ' := s5) (L' := [some (.ref 63), some (.int d), some (.int hr), none, some (.int (σ 68 j3)), some (.int r7), none]) (st' := [.int r7]) (g_c dX8_fallsOn_118 g_n) rfl rfl ?_
            refine V_less (L' := [none, none, none, none, some (.int (σ 68 j3)), none, none]) (by simp [g_subL]) ?_
            exact jn26 r7 p36
          · skip
            have p37 := p27.1 h35
            refine V_blk C (pc' := 114) (σ' := s5) (L' := [some (.ref 63), some (.int d), some (.int hr), none, some (.int (σ 68 j3)), some (.int r7), none]) (st' := [.int 2, .int r7]) (g_c dX8_fallsOn_111 (g_c dX8_fallsOn_113 g_n)) rfl rfl ?_
            refine V_idiv C (by decide) dX8_fallsOn_114 ?_
            refine V_goto C (tgt := 120) dX8_fallsOn_115 (by decide) ?_
            refine V_less (L' := [none, none, none, none, some (.int (σ 68 j3)), none, none]) (by simp [g_subL]) ?_
            exact jn26 (r7 / 2) p37
        refine V_icmp_eq C (tgt := 96) dX8_fallsOn_87 (by decide) (fun h38 => ?_) (fun h38 => ?_)
        · skip
          have p39 := p16.1 h38
          refine V_less (L' := [some (.ref 63), some (.int d), some (.int hr), none, some (.int (σ 68 j3)), some (.int r7), none]) (by simp [g_subL]) ?_
          exact jn15 p39
        · skip
          have p40 := p16.2 h38
          refine V_blk C (pc' := 93) (σ' := s5) (L' := [some (.ref 63), some (.int d), some (.int hr), some (.int pl), some (.int (σ 68 j3)), some (.int r7), none]) (st' := [.int 4, .int (σ 68 j3)]) (g_c dX8_fallsOn_90 (g_c dX8_fallsOn_92 g_n)) rfl rfl ?_
          refine V_icmp_ne C (tgt := 143) dX8_fallsOn_93 (by decide) (fun h41 => ?_) (fun h41 => ?_)
          · skip
            have p42 := p40.2 h41
            refine V_blk C (pc' := 145) (σ' := s5) (L' := [some (.ref 63), some (.int d), some (.int hr), some (.int pl), some (.int (σ 68 j3)), some (.int r7), none]) (st' := [.int r7]) (g_c dX8_fallsOn_143 g_n) rfl rfl ?_
            refine V_iret C dX8_fallsOn_145 ?_
            exact p42
          · skip
            have p43 := p40.1 h41
            refine V_less (L' := [some (.ref 63), some (.int d), some (.int hr), none, some (.int (σ 68 j3)), some (.int r7), none]) (by simp [g_subL]) ?_
            exact jn15 p43
      · skip
        have p44 := p11.1 h12
        refine V_blk C (pc' := 72) (σ' := s5) (L' := [some (.ref 63), some (.int d), some (.int hr), some (.int pl), some (.int (σ 68 j3)), some (.int r7), none]) (st' := [.int 12, .int hr]) (g_c dX8_fallsOn_69 (g_c dX8_fallsOn_70 g_n)) rfl rfl ?_
        refine V_join (P := (hr : Int32) < 12) (a := 0) (b := (r7 + 1)) (pcJ := 83) (rest := []) (fun x_ hx_ => ?_) (fun kT kF => ?_)
        · skip
          subst hx_
          refine V_iret C dX8_fallsOn_83 ?_
          exact p44
        · refine V_icmp_ge2 C (tgt := 79) dX8_fallsOn_72 (by decide) (fun h45 => ?_) (fun h45 => ?_)
          · skip
            refine V_blk C (pc' := 83) (σ' := s5) (L' := [some (.ref 63), some (.int d), some (.int hr), some (.int pl), some (.int (σ 68 j3)), some (.int r7), none]) (st' := [.int (r7 + 1)]) (g_c dX8_fallsOn_79 (g_c dX8_fallsOn_81 (g_c dX8_fallsOn_82 g_n))) rfl rfl ?_
            exact kF h45
          · skip
            refine V_blk C (pc' := 76) (σ' := s5) (L' := [some (.ref 63), some (.int d), some (.int hr), some (.int pl), some (.int (σ 68 j3)), some (.int r7), none]) (st' := [.int 0]) (g_c dX8_fallsOn_75 g_n) rfl rfl ?_
            refine V_goto C (tgt := 83) dX8_fallsOn_76 (by decide) ?_
            exact kT h45
    · skip
      have p46 := p9.1 h10
      refine V_blk C (pc' := 48) (σ' := s5) (L' := [some (.ref 63), some (.int d), some (.int hr), some (.int pl), some (.int (σ 68 j3)), some (.int r7), none]) (st' := [.int d, .ref 69, .int hr]) (g_c dX8_fallsOn_42 (g_c dX8_fallsOn_43 (g_c dX8_fallsOn_44 (g_c dX8_fallsOn_47 g_n)))) rfl rfl ?_
      refine V_ialdJ C (j := j3) (k := 69) (n := 6) (by rfl) (by rfl) e4 ⟨(by omega), (by omega)⟩ dX8_fallsOn_48 ?_
      refine V_join (P := (hr : Int32) < (s5 69 j3)) (a := 0) (b := (2 * (r7 + 1))) (pcJ := 62) (rest := []) (fun x_ hx_ => ?_) (fun kT kF => ?_)
      · skip
        subst hx_
        refine V_iret C dX8_fallsOn_62 ?_
        exact p46
      · refine V_icmp_ge2 C (tgt := 56) dX8_fallsOn_49 (by decide) (fun h47 => ?_) (fun h47 => ?_)
        · skip
          refine V_blk C (pc' := 62) (σ' := s5) (L' := [some (.ref 63), some (.int d), some (.int hr), some (.int pl), some (.int (σ 68 j3)), some (.int r7), none]) (st' := [.int (2 * (r7 + 1))]) (g_c dX8_fallsOn_56 (g_c dX8_fallsOn_57 (g_c dX8_fallsOn_59 (g_c dX8_fallsOn_60 (g_c dX8_fallsOn_61 g_n))))) rfl rfl ?_
          exact kF h47
        · skip
          refine V_blk C (pc' := 53) (σ' := s5) (L' := [some (.ref 63), some (.int d), some (.int hr), some (.int pl), some (.int (σ 68 j3)), some (.int r7), none]) (st' := [.int 0]) (g_c dX8_fallsOn_52 g_n) rfl rfl ?_
          refine V_goto C (tgt := 62) dX8_fallsOn_53 (by decide) ?_
          exact kT h47
  · skip
    have p48 := p6.1 h8
    refine V_blk C (pc' := 35) (σ' := s5) (L' := [some (.ref 63), some (.int d), some (.int hr), some (.int pl), some (.int (σ 68 j3)), some (.int r7), none]) (st' := [.int (r7 + 1)]) (g_c dX8_fallsOn_31 (g_c dX8_fallsOn_33 (g_c dX8_fallsOn_34 g_n))) rfl rfl ?_
    refine V_iret C dX8_fallsOn_35 ?_
    exact p48
set_option maxRecDepth 100000 in
def P_X8_falls (h : Nat) (d : Int32) (hr : Int32) (wh : Int32) (σ : gS) (Qp : Option Value → gS → Prop) : Prop :=
  ((g_in d 0 ((σ 63 15) - 1) → ((g_in hr 0 23 → ((g_in wh 0 1 → (((wh : Int32) = 0 → (g_call yX8_where cX8_where 4 (some .int) kM h [.ref 63, .int d, .int hr] σ (fun rv s15 => ∃ r17 : Int32, rv = some (.int r17) ∧ (g_call yX8_fallsOn cX8_fallsOn 7 (some .int) kM h [.ref 63, .int d, .int hr, .int r17] s15 (fun rv s18 => ∃ r20 : Int32, rv = some (.int r20) ∧ (Qp (some (.int r20)) s18)))))) ∧ (¬ (wh : Int32) = 0 → (g_call yX8_where cX8_where 4 (some .int) kM h [.ref 63, .int d, .int hr] σ (fun rv s11 => ∃ r13 : Int32, rv = some (.int r13) ∧ (Qp (some (.int r13)) s11)))))) ∧ (¬ g_in wh 0 1 → (Qp (some (.int (-2))) σ)))) ∧ (¬ g_in hr 0 23 → (Qp (some (.int (-2))) σ)))) ∧ (¬ g_in d 0 ((σ 63 15) - 1) → (Qp (some (.int (-2))) σ)))
set_option maxHeartbeats 4000000 in
set_option maxRecDepth 100000 in
theorem w_X8_falls {h : Nat} (hh : 6 ≤ h) {d : Int32} {hr : Int32} {wh : Int32} {σ : gS} {Qp : Option Value → gS → Prop} (P : P_X8_falls h d hr wh σ Qp) : g_Met yX8_falls cX8_falls 4 (some .int) h kM [.ref 63, .int d, .int hr, .int wh] σ Qp := by
  unfold P_X8_falls at P
  refine g_Met.of (own := 8) (L := [some (.ref 63), some (.int d), some (.int hr), some (.int wh)]) (by decide) rfl rfl (fun ad => Nat.le_of_ble_eq_true rfl) (fun ad => rfl) (fun X G K C => ?_)
  refine V_blk C (pc' := 2) (σ' := σ) (L' := [some (.ref 63), some (.int d), some (.int hr), some (.int wh)]) (st' := [.int d, .ref 63]) (g_c dX8_falls_0 (g_c dX8_falls_1 g_n)) rfl rfl ?_
  refine V_callVI C cv_X8_127 (c_X8_isDrip σ d) ⟨_, _, _, _, rfl, rfl⟩ (by rfl) (by omega) (by decide) (fun _ h => h) (As := [.int d]) (rest := []) rfl rfl (Nat.le_of_ble_eq_true rfl) dX8_falls_2 ?_
  refine V_if_eq_b C (tgt := 25) dX8_falls_5 (by decide) (fun h1 => ?_) (fun h1 => ?_)
  · skip
    have p2 := P.2 h1
    refine V_blk C (pc' := 27) (σ' := σ) (L' := [some (.ref 63), some (.int d), some (.int hr), some (.int wh)]) (st' := [.int (-2)]) (g_c dX8_falls_25 g_n) rfl rfl ?_
    refine V_iret C dX8_falls_27 ?_
    exact p2
  · skip
    have p3 := P.1 h1
    refine V_blk C (pc' := 9) (σ' := σ) (L' := [some (.ref 63), some (.int d), some (.int hr), some (.int wh)]) (st' := [.int hr]) (g_c dX8_falls_8 g_n) rfl rfl ?_
    refine V_callSI C cs_X8_123 (c_X8_isHour σ hr) (by omega) (by decide) (fun _ h => h) (As := [.int hr]) (rest := []) rfl rfl (Nat.le_of_ble_eq_true rfl) dX8_falls_9 ?_
    refine V_if_eq_b C (tgt := 25) dX8_falls_12 (by decide) (fun h4 => ?_) (fun h4 => ?_)
    · skip
      have p5 := p3.2 h4
      refine V_blk C (pc' := 27) (σ' := σ) (L' := [some (.ref 63), some (.int d), some (.int hr), some (.int wh)]) (st' := [.int (-2)]) (g_c dX8_falls_25 g_n) rfl rfl ?_
      refine V_iret C dX8_falls_27 ?_
      exact p5
    · skip
      have p6 := p3.1 h4
      refine V_blk C (pc' := 19) (σ' := σ) (L' := [some (.ref 63), some (.int d), some (.int hr), some (.int wh)]) (st' := [.long 1, .long 0, .long (Int32.toInt64 wh)]) (g_c dX8_falls_15 (g_c dX8_falls_16 (g_c dX8_falls_17 (g_c dX8_falls_18 g_n)))) rfl rfl ?_
      refine V_callSI C cs_X8_110 (c_X8_in32 σ wh 0 1 (by decide) (by decide)) (by omega) (by decide) (fun _ h => h) (As := [.long (Int32.toInt64 wh), .long 0, .long 1]) (rest := []) rfl rfl (Nat.le_of_ble_eq_true rfl) dX8_falls_19 ?_
      refine V_if_ne_b C (tgt := 28) dX8_falls_22 (by decide) (fun h7 => ?_) (fun h7 => ?_)
      · skip
        have p8 := p6.1 h7
        refine V_blk C (pc' := 29) (σ' := σ) (L' := [some (.ref 63), some (.int d), some (.int hr), some (.int wh)]) (st' := [.int wh]) (g_c dX8_falls_28 g_n) rfl rfl ?_
        refine V_if_ne C (tgt := 47) dX8_falls_29 (by decide) (fun h9 => ?_) (fun h9 => ?_)
        · skip
          have p10 := p8.2 h9
          refine V_blk C (pc' := 50) (σ' := σ) (L' := [some (.ref 63), some (.int d), some (.int hr), some (.int wh)]) (st' := [.int hr, .int d, .ref 63]) (g_c dX8_falls_47 (g_c dX8_falls_48 (g_c dX8_falls_49 g_n))) rfl rfl ?_
          refine V_gV C cv_X8_285 p10 ⟨_, _, _, _, rfl, rfl⟩ (by rfl) (by decide) (As := [.int d, .int hr]) (rest := []) rfl rfl (Nat.le_of_ble_eq_true rfl) dX8_falls_50 (fun rv s11 hq => ?_)
          obtain ⟨r13, rfl, p12⟩ := hq
          refine V_iret C dX8_falls_53 ?_
          exact p12
        · skip
          have p14 := p8.1 h9
          refine V_blk C (pc' := 38) (σ' := σ) (L' := [some (.ref 63), some (.int d), some (.int hr), some (.int wh)]) (st' := [.int hr, .int d, .ref 63, .int hr, .int d, .ref 63]) (g_c dX8_falls_32 (g_c dX8_falls_33 (g_c dX8_falls_34 (g_c dX8_falls_35 (g_c dX8_falls_36 (g_c dX8_falls_37 g_n)))))) rfl rfl ?_
          refine V_gV C cv_X8_285 p14 ⟨_, _, _, _, rfl, rfl⟩ (by rfl) (by decide) (As := [.int d, .int hr]) (rest := [.int hr, .int d, .ref 63]) rfl rfl (Nat.le_of_ble_eq_true rfl) dX8_falls_38 (fun rv s15 hq => ?_)
          obtain ⟨r17, rfl, p16⟩ := hq
          refine V_gV C cv_X8_288 p16 ⟨_, _, _, _, rfl, rfl⟩ (by rfl) (by decide) (As := [.int d, .int hr, .int r17]) (rest := []) rfl rfl (Nat.le_of_ble_eq_true rfl) dX8_falls_41 (fun rv s18 hq => ?_)
          obtain ⟨r20, rfl, p19⟩ := hq
          refine V_goto C (tgt := 53) dX8_falls_44 (by decide) ?_
          refine V_iret C dX8_falls_53 ?_
          exact p19
      · skip
        have p21 := p6.2 h7
        refine V_blk C (pc' := 27) (σ' := σ) (L' := [some (.ref 63), some (.int d), some (.int hr), some (.int wh)]) (st' := [.int (-2)]) (g_c dX8_falls_25 g_n) rfl rfl ?_
        refine V_iret C dX8_falls_27 ?_
        exact p21
set_option maxRecDepth 100000 in
def P_X8_pour (h : Nat) (d : Int32) (pl : Int32) (ti : Int32) (σ : gS) (Qp : Option Value → gS → Prop) : Prop :=
  (∃ I2 : Nat → Int32 → gS → Prop, (∃ k7 : Nat, I2 k7 0 σ) ∧ ∀ (k4 : Nat) (v1 : Int32) (s10 : gS), I2 k4 v1 s10 → (((v1 : Int32) < 24 → (∃ J17 : Int32 → gS → Prop, (((pl : Int32) = (-1) → (g_call yX8_where cX8_where 4 (some .int) kM h [.ref 63, .int d, .int v1] s10 (fun rv s34 => ∃ r36 : Int32, rv = some (.int r36) ∧ (J17 r36 s34)))) ∧ (¬ (pl : Int32) = (-1) → (J17 pl s10))) ∧ ∀ (v15 : Int32) (s16 : gS), J17 v15 s16 → (∃ j25 : Nat, ((8 * v1) + v15) = nI j25 ∧ j25 < 192 ∧ (g_call yX8_fallsOn cX8_fallsOn 7 (some .int) kM h [.ref 63, .int d, .int v1, .int v15] s16 (fun rv s27 => ∃ r29 : Int32, rv = some (.int r29) ∧ (∃ k30 : Nat, k30 < k4 ∧ I2 k30 (v1 + 1) (g_up s27 75 j25 ((s16 75 j25) + (ti * r29))))))))) ∧ (¬ (v1 : Int32) < 24 → (Qp none s10))))
set_option maxHeartbeats 4000000 in
set_option maxRecDepth 100000 in
theorem w_X8_pour {h : Nat} (hh : 6 ≤ h) {d : Int32} {pl : Int32} {ti : Int32} {σ : gS} {Qp : Option Value → gS → Prop} (P : P_X8_pour h d pl ti σ Qp) : g_Met yX8_pour cX8_pour 6 none h kM [.ref 63, .int d, .int pl, .int ti] σ Qp := by
  unfold P_X8_pour at P
  refine g_Met.of (own := 8) (L := [some (.ref 63), some (.int d), some (.int pl), some (.int ti), none, none]) (by decide) rfl rfl (fun ad => Nat.le_of_ble_eq_true rfl) (fun ad => rfl) (fun X G K C => ?_)
  refine V_blk C (pc' := 3) (σ' := σ) (L' := [some (.ref 63), some (.int d), some (.int pl), some (.int ti), some (.int 0), none]) (st' := []) (g_c dX8_pour_0 (g_c dX8_pour_1 g_n)) rfl rfl ?_
  obtain ⟨I2, ⟨k7, hI9⟩, hS6⟩ := P
  have lp8 : ∀ (k4 : Nat) (v1 : Int32) (s10 : gS), I2 k4 v1 s10 → gV X G K 6 Qp s10 [some (.ref 63), some (.int d), some (.int pl), some (.int ti), some (.int v1), none] [] 3 := by
    intro k4
    induction k4 using Nat.strongRecOn with
    | ind k4 ih3 =>
      intro v1 s10 hI5
      have p11 := hS6 k4 v1 s10 hI5
      refine V_blk C (pc' := 7) (σ' := s10) (L' := [some (.ref 63), some (.int d), some (.int pl), some (.int ti), some (.int v1), none]) (st' := [.int 24, .int v1]) (g_c dX8_pour_3 (g_c dX8_pour_5 g_n)) rfl rfl ?_
      refine V_icmp_ge2 C (tgt := 61) dX8_pour_7 (by decide) (fun h12 => ?_) (fun h12 => ?_)
      · skip
        have p13 := p11.2 h12
        refine V_vret C dX8_pour_61 ?_
        exact p13
      · skip
        have p14 := p11.1 h12
        refine V_blk C (pc' := 12) (σ' := s10) (L' := [some (.ref 63), some (.int d), some (.int pl), some (.int ti), some (.int v1), none]) (st' := [.int (-1), .int pl]) (g_c dX8_pour_10 (g_c dX8_pour_11 g_n)) rfl rfl ?_
        obtain ⟨J17, p19, p20⟩ := p14
        have jn18 : ∀ (v15 : Int32) (s16 : gS) (_ : J17 v15 s16), gV X G K 6 Qp s16 [some (.ref 63), some (.int d), some (.int pl), some (.int ti), some (.int v1), none] [.int v15] 26 := by
          intro v15 s16 hJ21
          have p22 := p20 v15 s16 hJ21
          refine V_blk C (pc' := 41) (σ' := s16) (L' := [some (.ref 63), some (.int d), some (.int pl), some (.int ti), some (.int v1), some (.int v15)]) (st' := [.int ((8 * v1) + v15), .ref 75, .int ((8 * v1) + v15), .ref 75]) (g_c dX8_pour_26 (g_c dX8_pour_28 (g_c dX8_pour_29 (g_c dX8_pour_32 (g_c dX8_pour_34 (g_c dX8_pour_36 (g_c dX8_pour_37 (g_c dX8_pour_39 (g_c dX8_pour_40 g_n))))))))) rfl rfl ?_
          obtain ⟨j25, e26, l24, p23⟩ := p22
          refine V_ialdJ C (j := j25) (k := 75) (n := 192) (by rfl) (by rfl) e26 ⟨(by omega), (by omega)⟩ dX8_pour_41 ?_
          refine V_blk C (pc' := 49) (σ' := s16) (L' := [some (.ref 63), some (.int d), some (.int pl), some (.int ti), some (.int v1), some (.int v15)]) (st' := [.int v15, .int v1, .int d, .ref 63, .int ti, .int (s16 75 j25), .int ((8 * v1) + v15), .ref 75]) (g_c dX8_pour_42 (g_c dX8_pour_43 (g_c dX8_pour_44 (g_c dX8_pour_45 (g_c dX8_pour_47 g_n))))) rfl rfl ?_
          refine V_gV C cv_X8_288 p23 ⟨_, _, _, _, rfl, rfl⟩ (by rfl) (by decide) (As := [.int d, .int v1, .int v15]) (rest := [.int ti, .int (s16 75 j25), .int ((8 * v1) + v15), .ref 75]) rfl rfl (Nat.le_of_ble_eq_true rfl) dX8_pour_49 (fun rv s27 hq => ?_)
          obtain ⟨r29, rfl, p28⟩ := hq
          refine V_blk C (pc' := 54) (σ' := s27) (L' := [some (.ref 63), some (.int d), some (.int pl), some (.int ti), some (.int v1), some (.int v15)]) (st' := [.int ((s16 75 j25) + (ti * r29)), .int ((8 * v1) + v15), .ref 75]) (g_c dX8_pour_52 (g_c dX8_pour_53 g_n)) rfl rfl ?_
          refine V_iastJ C (j := j25) (k := 75) (n := 192) (by rfl) (by rfl) e26 ⟨(by omega), (by omega)⟩ dX8_pour_54 ?_
          refine V_blk C (pc' := 58) (σ' := (g_up s27 75 j25 ((s16 75 j25) + (ti * r29)))) (L' := [some (.ref 63), some (.int d), some (.int pl), some (.int ti), some (.int (v1 + 1)), some (.int v15)]) (st' := []) (g_c dX8_pour_55 g_n) rfl rfl ?_
          refine V_goto C (tgt := 3) dX8_pour_58 (by decide) ?_
          refine V_less (L' := [some (.ref 63), some (.int d), some (.int pl), some (.int ti), some (.int (v1 + 1)), none]) (by simp [g_subL]) ?_
          obtain ⟨k30, hkk30, hIk30⟩ := p28
          exact ih3 k30 hkk30 (v1 + 1) (g_up s27 75 j25 ((s16 75 j25) + (ti * r29))) hIk30
        refine V_icmp_ne C (tgt := 25) dX8_pour_12 (by decide) (fun h31 => ?_) (fun h31 => ?_)
        · skip
          have p32 := p19.2 h31
          refine V_blk C (pc' := 26) (σ' := s10) (L' := [some (.ref 63), some (.int d), some (.int pl), some (.int ti), some (.int v1), none]) (st' := [.int pl]) (g_c dX8_pour_25 g_n) rfl rfl ?_
          exact jn18 pl s10 p32
        · skip
          have p33 := p19.1 h31
          refine V_blk C (pc' := 19) (σ' := s10) (L' := [some (.ref 63), some (.int d), some (.int pl), some (.int ti), some (.int v1), none]) (st' := [.int v1, .int d, .ref 63]) (g_c dX8_pour_15 (g_c dX8_pour_16 (g_c dX8_pour_17 g_n))) rfl rfl ?_
          refine V_gV C cv_X8_285 p33 ⟨_, _, _, _, rfl, rfl⟩ (by rfl) (by decide) (As := [.int d, .int v1]) (rest := []) rfl rfl (Nat.le_of_ble_eq_true rfl) dX8_pour_19 (fun rv s34 hq => ?_)
          obtain ⟨r36, rfl, p35⟩ := hq
          refine V_goto C (tgt := 26) dX8_pour_22 (by decide) ?_
          exact jn18 r36 s34 p35
  exact lp8 k7 0 σ hI9
