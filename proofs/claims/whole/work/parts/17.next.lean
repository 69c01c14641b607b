/-! THE SIGNS' indexOf; next() -/
theorem c_lenS {KR : Nat → Bool} (σ : gS) : g_Met yJ0_length_8abf5 cJ0_length_8abf5 1 (some .int) 2 KR [.ref (100 + 2)] σ (fun rv s => rv = some (.int 8) ∧ s = σ) := c_length σ (i := 2) (by decide)
set_option maxHeartbeats 4000000 in
set_option maxRecDepth 100000 in
theorem c_indexOfChar {KR : Nat → Bool} (σ : gS) {q : Nat} (hq : q < 256) : g_Met yJ1_indexOfChar_4cfef cJ1_indexOfChar_4cfef 6 (some .int) 1 KR [.ref (103 + 2), .int (nI q), .int 0, .int 8] σ (fun rv s => rv = some (.int (g_six (nI q))) ∧ s = σ) := by
  refine g_Met.of (own := 11) (L := [some (.ref (103 + 2)), some (.int (nI q)), some (.int 0), some (.int 8), none, none]) (by decide) rfl rfl (fun ad => Nat.le_of_ble_eq_true rfl) (fun ad => rfl) (fun X G K C => ?_)
  refine V_blk C (pc' := 10) (σ' := σ) (L' := [some (.ref (103 + 2)), some (.int (nI q)), some (.int 0), some (.int 8), some (.int (Int8.toInt32 (Int32.toInt8 (nI q)))), some (.int 0)]) (st' := [.int 8, .int 0]) (g_c dJ1_indexOfChar_4cfef_0 (g_c dJ1_indexOfChar_4cfef_1 (g_c dJ1_indexOfChar_4cfef_2 (g_c dJ1_indexOfChar_4cfef_4 (g_c dJ1_indexOfChar_4cfef_5 (g_c dJ1_indexOfChar_4cfef_7 (g_c dJ1_indexOfChar_4cfef_9 g_n))))))) rfl rfl ?_
  refine V_icmp_ge2 C (tgt := 31) dJ1_indexOfChar_4cfef_10 (by decide) (fun z => absurd z (by decide)) (fun _ => ?_)
  refine V_blk C (pc' := 16) (σ' := σ) (L' := [some (.ref (103 + 2)), some (.int (nI q)), some (.int 0), some (.int 8), some (.int (Int8.toInt32 (Int32.toInt8 (nI q)))), some (.int 0)]) (st' := [.int 0, .ref (103 + 2)]) (g_c dJ1_indexOfChar_4cfef_13 (g_c dJ1_indexOfChar_4cfef_14 g_n)) rfl rfl ?_
  refine V_bldS C (i := 2) (j := 0) (by decide) (by decide) dJ1_indexOfChar_4cfef_16 ?_
  refine V_eq rfl rfl (st' := [.int 40]) (by rfl) ?_
  refine V_blk C (pc' := 19) (σ' := σ) (L' := [some (.ref (103 + 2)), some (.int (nI q)), some (.int 0), some (.int 8), some (.int (Int8.toInt32 (Int32.toInt8 (nI q)))), some (.int 0)]) (st' := [.int (Int8.toInt32 (Int32.toInt8 (nI q))), .int 40]) (g_c dJ1_indexOfChar_4cfef_17 g_n) rfl rfl ?_
  refine V_icmp_ne C (tgt := 25) dJ1_indexOfChar_4cfef_19 (by decide) (fun h19 => ?_) (fun h19 => ?_)
  · skip
    refine V_blk C (pc' := 28) (σ' := σ) (L' := [some (.ref (103 + 2)), some (.int (nI q)), some (.int 0), some (.int 8), some (.int (Int8.toInt32 (Int32.toInt8 (nI q)))), some (.int 1)]) (st' := []) (g_c dJ1_indexOfChar_4cfef_25 g_n) rfl rfl ?_
    refine V_goto C (tgt := 7) dJ1_indexOfChar_4cfef_28 (by decide) ?_
    refine V_blk C (pc' := 10) (σ' := σ) (L' := [some (.ref (103 + 2)), some (.int (nI q)), some (.int 0), some (.int 8), some (.int (Int8.toInt32 (Int32.toInt8 (nI q)))), some (.int 1)]) (st' := [.int 8, .int 1]) (g_c dJ1_indexOfChar_4cfef_7 (g_c dJ1_indexOfChar_4cfef_9 g_n)) rfl rfl ?_
    refine V_icmp_ge2 C (tgt := 31) dJ1_indexOfChar_4cfef_10 (by decide) (fun z => absurd z (by decide)) (fun _ => ?_)
    refine V_blk C (pc' := 16) (σ' := σ) (L' := [some (.ref (103 + 2)), some (.int (nI q)), some (.int 0), some (.int 8), some (.int (Int8.toInt32 (Int32.toInt8 (nI q)))), some (.int 1)]) (st' := [.int 1, .ref (103 + 2)]) (g_c dJ1_indexOfChar_4cfef_13 (g_c dJ1_indexOfChar_4cfef_14 g_n)) rfl rfl ?_
    refine V_bldS C (i := 2) (j := 1) (by decide) (by decide) dJ1_indexOfChar_4cfef_16 ?_
    refine V_eq rfl rfl (st' := [.int 41]) (by rfl) ?_
    refine V_blk C (pc' := 19) (σ' := σ) (L' := [some (.ref (103 + 2)), some (.int (nI q)), some (.int 0), some (.int 8), some (.int (Int8.toInt32 (Int32.toInt8 (nI q)))), some (.int 1)]) (st' := [.int (Int8.toInt32 (Int32.toInt8 (nI q))), .int 41]) (g_c dJ1_indexOfChar_4cfef_17 g_n) rfl rfl ?_
    refine V_icmp_ne C (tgt := 25) dJ1_indexOfChar_4cfef_19 (by decide) (fun h19_1 => ?_) (fun h19_1 => ?_)
    · skip
      refine V_blk C (pc' := 28) (σ' := σ) (L' := [some (.ref (103 + 2)), some (.int (nI q)), some (.int 0), some (.int 8), some (.int (Int8.toInt32 (Int32.toInt8 (nI q)))), some (.int 2)]) (st' := []) (g_c dJ1_indexOfChar_4cfef_25 g_n) rfl rfl ?_
      refine V_goto C (tgt := 7) dJ1_indexOfChar_4cfef_28 (by decide) ?_
      refine V_blk C (pc' := 10) (σ' := σ) (L' := [some (.ref (103 + 2)), some (.int (nI q)), some (.int 0), some (.int 8), some (.int (Int8.toInt32 (Int32.toInt8 (nI q)))), some (.int 2)]) (st' := [.int 8, .int 2]) (g_c dJ1_indexOfChar_4cfef_7 (g_c dJ1_indexOfChar_4cfef_9 g_n)) rfl rfl ?_
      refine V_icmp_ge2 C (tgt := 31) dJ1_indexOfChar_4cfef_10 (by decide) (fun z => absurd z (by decide)) (fun _ => ?_)
      refine V_blk C (pc' := 16) (σ' := σ) (L' := [some (.ref (103 + 2)), some (.int (nI q)), some (.int 0), some (.int 8), some (.int (Int8.toInt32 (Int32.toInt8 (nI q)))), some (.int 2)]) (st' := [.int 2, .ref (103 + 2)]) (g_c dJ1_indexOfChar_4cfef_13 (g_c dJ1_indexOfChar_4cfef_14 g_n)) rfl rfl ?_
      refine V_bldS C (i := 2) (j := 2) (by decide) (by decide) dJ1_indexOfChar_4cfef_16 ?_
      refine V_eq rfl rfl (st' := [.int 59]) (by rfl) ?_
      refine V_blk C (pc' := 19) (σ' := σ) (L' := [some (.ref (103 + 2)), some (.int (nI q)), some (.int 0), some (.int 8), some (.int (Int8.toInt32 (Int32.toInt8 (nI q)))), some (.int 2)]) (st' := [.int (Int8.toInt32 (Int32.toInt8 (nI q))), .int 59]) (g_c dJ1_indexOfChar_4cfef_17 g_n) rfl rfl ?_
      refine V_icmp_ne C (tgt := 25) dJ1_indexOfChar_4cfef_19 (by decide) (fun h19_2 => ?_) (fun h19_2 => ?_)
      · skip
        refine V_blk C (pc' := 28) (σ' := σ) (L' := [some (.ref (103 + 2)), some (.int (nI q)), some (.int 0), some (.int 8), some (.int (Int8.toInt32 (Int32.toInt8 (nI q)))), some (.int 3)]) (st' := []) (g_c dJ1_indexOfChar_4cfef_25 g_n) rfl rfl ?_
        refine V_goto C (tgt := 7) dJ1_indexOfChar_4cfef_28 (by decide) ?_
        refine V_blk C (pc' := 10) (σ' := σ) (L' := [some (.ref (103 + 2)), some (.int (nI q)), some (.int 0), some (.int 8), some (.int (Int8.toInt32 (Int32.toInt8 (nI q)))), some (.int 3)]) (st' := [.int 8, .int 3]) (g_c dJ1_indexOfChar_4cfef_7 (g_c dJ1_indexOfChar_4cfef_9 g_n)) rfl rfl ?_
        refine V_icmp_ge2 C (tgt := 31) dJ1_indexOfChar_4cfef_10 (by decide) (fun z => absurd z (by decide)) (fun _ => ?_)
        refine V_blk C (pc' := 16) (σ' := σ) (L' := [some (.ref (103 + 2)), some (.int (nI q)), some (.int 0), some (.int 8), some (.int (Int8.toInt32 (Int32.toInt8 (nI q)))), some (.int 3)]) (st' := [.int 3, .ref (103 + 2)]) (g_c dJ1_indexOfChar_4cfef_13 (g_c dJ1_indexOfChar_4cfef_14 g_n)) rfl rfl ?_
        refine V_bldS C (i := 2) (j := 3) (by decide) (by decide) dJ1_indexOfChar_4cfef_16 ?_
        refine V_eq rfl rfl (st' := [.int 43]) (by rfl) ?_
        refine V_blk C (pc' := 19) (σ' := σ) (L' := [some (.ref (103 + 2)), some (.int (nI q)), some (.int 0), some (.int 8), some (.int (Int8.toInt32 (Int32.toInt8 (nI q)))), some (.int 3)]) (st' := [.int (Int8.toInt32 (Int32.toInt8 (nI q))), .int 43]) (g_c dJ1_indexOfChar_4cfef_17 g_n) rfl rfl ?_
        refine V_icmp_ne C (tgt := 25) dJ1_indexOfChar_4cfef_19 (by decide) (fun h19_3 => ?_) (fun h19_3 => ?_)
        · skip
          refine V_blk C (pc' := 28) (σ' := σ) (L' := [some (.ref (103 + 2)), some (.int (nI q)), some (.int 0), some (.int 8), some (.int (Int8.toInt32 (Int32.toInt8 (nI q)))), some (.int 4)]) (st' := []) (g_c dJ1_indexOfChar_4cfef_25 g_n) rfl rfl ?_
          refine V_goto C (tgt := 7) dJ1_indexOfChar_4cfef_28 (by decide) ?_
          refine V_blk C (pc' := 10) (σ' := σ) (L' := [some (.ref (103 + 2)), some (.int (nI q)), some (.int 0), some (.int 8), some (.int (Int8.toInt32 (Int32.toInt8 (nI q)))), some (.int 4)]) (st' := [.int 8, .int 4]) (g_c dJ1_indexOfChar_4cfef_7 (g_c dJ1_indexOfChar_4cfef_9 g_n)) rfl rfl ?_
          refine V_icmp_ge2 C (tgt := 31) dJ1_indexOfChar_4cfef_10 (by decide) (fun z => absurd z (by decide)) (fun _ => ?_)
          refine V_blk C (pc' := 16) (σ' := σ) (L' := [some (.ref (103 + 2)), some (.int (nI q)), some (.int 0), some (.int 8), some (.int (Int8.toInt32 (Int32.toInt8 (nI q)))), some (.int 4)]) (st' := [.int 4, .ref (103 + 2)]) (g_c dJ1_indexOfChar_4cfef_13 (g_c dJ1_indexOfChar_4cfef_14 g_n)) rfl rfl ?_
          refine V_bldS C (i := 2) (j := 4) (by decide) (by decide) dJ1_indexOfChar_4cfef_16 ?_
          refine V_eq rfl rfl (st' := [.int 45]) (by rfl) ?_
          refine V_blk C (pc' := 19) (σ' := σ) (L' := [some (.ref (103 + 2)), some (.int (nI q)), some (.int 0), some (.int 8), some (.int (Int8.toInt32 (Int32.toInt8 (nI q)))), some (.int 4)]) (st' := [.int (Int8.toInt32 (Int32.toInt8 (nI q))), .int 45]) (g_c dJ1_indexOfChar_4cfef_17 g_n) rfl rfl ?_
          refine V_icmp_ne C (tgt := 25) dJ1_indexOfChar_4cfef_19 (by decide) (fun h19_4 => ?_) (fun h19_4 => ?_)
          · skip
            refine V_blk C (pc' := 28) (σ' := σ) (L' := [some (.ref (103 + 2)), some (.int (nI q)), some (.int 0), some (.int 8), some (.int (Int8.toInt32 (Int32.toInt8 (nI q)))), some (.int 5)]) (st' := []) (g_c dJ1_indexOfChar_4cfef_25 g_n) rfl rfl ?_
            refine V_goto C (tgt := 7) dJ1_indexOfChar_4cfef_28 (by decide) ?_
            refine V_blk C (pc' := 10) (σ' := σ) (L' := [some (.ref (103 + 2)), some (.int (nI q)), some (.int 0), some (.int 8), some (.int (Int8.toInt32 (Int32.toInt8 (nI q)))), some (.int 5)]) (st' := [.int 8, .int 5]) (g_c dJ1_indexOfChar_4cfef_7 (g_c dJ1_indexOfChar_4cfef_9 g_n)) rfl rfl ?_
            refine V_icmp_ge2 C (tgt := 31) dJ1_indexOfChar_4cfef_10 (by decide) (fun z => absurd z (by decide)) (fun _ => ?_)
            refine V_blk C (pc' := 16) (σ' := σ) (L' := [some (.ref (103 + 2)), some (.int (nI q)), some (.int 0), some (.int 8), some (.int (Int8.toInt32 (Int32.toInt8 (nI q)))), some (.int 5)]) (st' := [.int 5, .ref (103 + 2)]) (g_c dJ1_indexOfChar_4cfef_13 (g_c dJ1_indexOfChar_4cfef_14 g_n)) rfl rfl ?_
            refine V_bldS C (i := 2) (j := 5) (by decide) (by decide) dJ1_indexOfChar_4cfef_16 ?_
            refine V_eq rfl rfl (st' := [.int 42]) (by rfl) ?_
            refine V_blk C (pc' := 19) (σ' := σ) (L' := [some (.ref (103 + 2)), some (.int (nI q)), some (.int 0), some (.int 8), some (.int (Int8.toInt32 (Int32.toInt8 (nI q)))), some (.int 5)]) (st' := [.int (Int8.toInt32 (Int32.toInt8 (nI q))), .int 42]) (g_c dJ1_indexOfChar_4cfef_17 g_n) rfl rfl ?_
            refine V_icmp_ne C (tgt := 25) dJ1_indexOfChar_4cfef_19 (by decide) (fun h19_5 => ?_) (fun h19_5 => ?_)
            · skip
              refine V_blk C (pc' := 28) (σ' := σ) (L' := [some (.ref (103 + 2)), some (.int (nI q)), some (.int 0), some (.int 8), some (.int (Int8.toInt32 (Int32.toInt8 (nI q)))), some (.int 6)]) (st' := []) (g_c dJ1_indexOfChar_4cfef_25 g_n) rfl rfl ?_
              refine V_goto C (tgt := 7) dJ1_indexOfChar_4cfef_28 (by decide) ?_
              refine V_blk C (pc' := 10) (σ' := σ) (L' := [some (.ref (103 + 2)), some (.int (nI q)), some (.int 0), some (.int 8), some (.int (Int8.toInt32 (Int32.toInt8 (nI q)))), some (.int 6)]) (st' := [.int 8, .int 6]) (g_c dJ1_indexOfChar_4cfef_7 (g_c dJ1_indexOfChar_4cfef_9 g_n)) rfl rfl ?_
              refine V_icmp_ge2 C (tgt := 31) dJ1_indexOfChar_4cfef_10 (by decide) (fun z => absurd z (by decide)) (fun _ => ?_)
              refine V_blk C (pc' := 16) (σ' := σ) (L' := [some (.ref (103 + 2)), some (.int (nI q)), some (.int 0), some (.int 8), some (.int (Int8.toInt32 (Int32.toInt8 (nI q)))), some (.int 6)]) (st' := [.int 6, .ref (103 + 2)]) (g_c dJ1_indexOfChar_4cfef_13 (g_c dJ1_indexOfChar_4cfef_14 g_n)) rfl rfl ?_
              refine V_bldS C (i := 2) (j := 6) (by decide) (by decide) dJ1_indexOfChar_4cfef_16 ?_
              refine V_eq rfl rfl (st' := [.int 60]) (by rfl) ?_
              refine V_blk C (pc' := 19) (σ' := σ) (L' := [some (.ref (103 + 2)), some (.int (nI q)), some (.int 0), some (.int 8), some (.int (Int8.toInt32 (Int32.toInt8 (nI q)))), some (.int 6)]) (st' := [.int (Int8.toInt32 (Int32.toInt8 (nI q))), .int 60]) (g_c dJ1_indexOfChar_4cfef_17 g_n) rfl rfl ?_
              refine V_icmp_ne C (tgt := 25) dJ1_indexOfChar_4cfef_19 (by decide) (fun h19_6 => ?_) (fun h19_6 => ?_)
              · skip
                refine V_blk C (pc' := 28) (σ' := σ) (L' := [some (.ref (103 + 2)), some (.int (nI q)), some (.int 0), some (.int 8), some (.int (Int8.toInt32 (Int32.toInt8 (nI q)))), some (.int 7)]) (st' := []) (g_c dJ1_indexOfChar_4cfef_25 g_n) rfl rfl ?_
                refine V_goto C (tgt := 7) dJ1_indexOfChar_4cfef_28 (by decide) ?_
                refine V_blk C (pc' := 10) (σ' := σ) (L' := [some (.ref (103 + 2)), some (.int (nI q)), some (.int 0), some (.int 8), some (.int (Int8.toInt32 (Int32.toInt8 (nI q)))), some (.int 7)]) (st' := [.int 8, .int 7]) (g_c dJ1_indexOfChar_4cfef_7 (g_c dJ1_indexOfChar_4cfef_9 g_n)) rfl rfl ?_
                refine V_icmp_ge2 C (tgt := 31) dJ1_indexOfChar_4cfef_10 (by decide) (fun z => absurd z (by decide)) (fun _ => ?_)
                refine V_blk C (pc' := 16) (σ' := σ) (L' := [some (.ref (103 + 2)), some (.int (nI q)), some (.int 0), some (.int 8), some (.int (Int8.toInt32 (Int32.toInt8 (nI q)))), some (.int 7)]) (st' := [.int 7, .ref (103 + 2)]) (g_c dJ1_indexOfChar_4cfef_13 (g_c dJ1_indexOfChar_4cfef_14 g_n)) rfl rfl ?_
                refine V_bldS C (i := 2) (j := 7) (by decide) (by decide) dJ1_indexOfChar_4cfef_16 ?_
                refine V_eq rfl rfl (st' := [.int 61]) (by rfl) ?_
                refine V_blk C (pc' := 19) (σ' := σ) (L' := [some (.ref (103 + 2)), some (.int (nI q)), some (.int 0), some (.int 8), some (.int (Int8.toInt32 (Int32.toInt8 (nI q)))), some (.int 7)]) (st' := [.int (Int8.toInt32 (Int32.toInt8 (nI q))), .int 61]) (g_c dJ1_indexOfChar_4cfef_17 g_n) rfl rfl ?_
                refine V_icmp_ne C (tgt := 25) dJ1_indexOfChar_4cfef_19 (by decide) (fun h19_7 => ?_) (fun h19_7 => ?_)
                · skip
                  refine V_blk C (pc' := 28) (σ' := σ) (L' := [some (.ref (103 + 2)), some (.int (nI q)), some (.int 0), some (.int 8), some (.int (Int8.toInt32 (Int32.toInt8 (nI q)))), some (.int 8)]) (st' := []) (g_c dJ1_indexOfChar_4cfef_25 g_n) rfl rfl ?_
                  refine V_goto C (tgt := 7) dJ1_indexOfChar_4cfef_28 (by decide) ?_
                  refine V_blk C (pc' := 10) (σ' := σ) (L' := [some (.ref (103 + 2)), some (.int (nI q)), some (.int 0), some (.int 8), some (.int (Int8.toInt32 (Int32.toInt8 (nI q)))), some (.int 8)]) (st' := [.int 8, .int 8]) (g_c dJ1_indexOfChar_4cfef_7 (g_c dJ1_indexOfChar_4cfef_9 g_n)) rfl rfl ?_
                  refine V_icmp_ge2 C (tgt := 31) dJ1_indexOfChar_4cfef_10 (by decide) (fun _ => ?_) (fun z => absurd z (by decide))
                  refine V_blk C (pc' := 32) (σ' := σ) (L' := [some (.ref (103 + 2)), some (.int (nI q)), some (.int 0), some (.int 8), some (.int (Int8.toInt32 (Int32.toInt8 (nI q)))), some (.int 8)]) (st' := [.int (-1)]) (g_c dJ1_indexOfChar_4cfef_31 g_n) rfl rfl ?_
                  refine V_iret C dJ1_indexOfChar_4cfef_32 ?_
                  exact ⟨by rw [g_six, if_neg (show ¬ 40 = nI q from fun z => h19 ((g_i2b q hq ⟨0, by decide⟩).mpr z)), if_neg (show ¬ 41 = nI q from fun z => h19_1 ((g_i2b q hq ⟨1, by decide⟩).mpr z)), if_neg (show ¬ 59 = nI q from fun z => h19_2 ((g_i2b q hq ⟨2, by decide⟩).mpr z)), if_neg (show ¬ 43 = nI q from fun z => h19_3 ((g_i2b q hq ⟨3, by decide⟩).mpr z)), if_neg (show ¬ 45 = nI q from fun z => h19_4 ((g_i2b q hq ⟨4, by decide⟩).mpr z)), if_neg (show ¬ 42 = nI q from fun z => h19_5 ((g_i2b q hq ⟨5, by decide⟩).mpr z)), if_neg (show ¬ 60 = nI q from fun z => h19_6 ((g_i2b q hq ⟨6, by decide⟩).mpr z)), if_neg (show ¬ 61 = nI q from fun z => h19_7 ((g_i2b q hq ⟨7, by decide⟩).mpr z))], rfl⟩
                · skip
                  refine V_blk C (pc' := 24) (σ' := σ) (L' := [some (.ref (103 + 2)), some (.int (nI q)), some (.int 0), some (.int 8), some (.int (Int8.toInt32 (Int32.toInt8 (nI q)))), some (.int 7)]) (st' := [.int 7]) (g_c dJ1_indexOfChar_4cfef_22 g_n) rfl rfl ?_
                  refine V_iret C dJ1_indexOfChar_4cfef_24 ?_
                  exact ⟨by rw [g_six, if_neg (show ¬ 40 = nI q from fun z => h19 ((g_i2b q hq ⟨0, by decide⟩).mpr z)), if_neg (show ¬ 41 = nI q from fun z => h19_1 ((g_i2b q hq ⟨1, by decide⟩).mpr z)), if_neg (show ¬ 59 = nI q from fun z => h19_2 ((g_i2b q hq ⟨2, by decide⟩).mpr z)), if_neg (show ¬ 43 = nI q from fun z => h19_3 ((g_i2b q hq ⟨3, by decide⟩).mpr z)), if_neg (show ¬ 45 = nI q from fun z => h19_4 ((g_i2b q hq ⟨4, by decide⟩).mpr z)), if_neg (show ¬ 42 = nI q from fun z => h19_5 ((g_i2b q hq ⟨5, by decide⟩).mpr z)), if_neg (show ¬ 60 = nI q from fun z => h19_6 ((g_i2b q hq ⟨6, by decide⟩).mpr z)), if_pos (show 61 = nI q from (g_i2b q hq ⟨7, by decide⟩).mp h19_7)], rfl⟩
              · skip
                refine V_blk C (pc' := 24) (σ' := σ) (L' := [some (.ref (103 + 2)), some (.int (nI q)), some (.int 0), some (.int 8), some (.int (Int8.toInt32 (Int32.toInt8 (nI q)))), some (.int 6)]) (st' := [.int 6]) (g_c dJ1_indexOfChar_4cfef_22 g_n) rfl rfl ?_
                refine V_iret C dJ1_indexOfChar_4cfef_24 ?_
                exact ⟨by rw [g_six, if_neg (show ¬ 40 = nI q from fun z => h19 ((g_i2b q hq ⟨0, by decide⟩).mpr z)), if_neg (show ¬ 41 = nI q from fun z => h19_1 ((g_i2b q hq ⟨1, by decide⟩).mpr z)), if_neg (show ¬ 59 = nI q from fun z => h19_2 ((g_i2b q hq ⟨2, by decide⟩).mpr z)), if_neg (show ¬ 43 = nI q from fun z => h19_3 ((g_i2b q hq ⟨3, by decide⟩).mpr z)), if_neg (show ¬ 45 = nI q from fun z => h19_4 ((g_i2b q hq ⟨4, by decide⟩).mpr z)), if_neg (show ¬ 42 = nI q from fun z => h19_5 ((g_i2b q hq ⟨5, by decide⟩).mpr z)), if_pos (show 60 = nI q from (g_i2b q hq ⟨6, by decide⟩).mp h19_6)], rfl⟩
            · skip
              refine V_blk C (pc' := 24) (σ' := σ) (L' := [some (.ref (103 + 2)), some (.int (nI q)), some (.int 0), some (.int 8), some (.int (Int8.toInt32 (Int32.toInt8 (nI q)))), some (.int 5)]) (st' := [.int 5]) (g_c dJ1_indexOfChar_4cfef_22 g_n) rfl rfl ?_
              refine V_iret C dJ1_indexOfChar_4cfef_24 ?_
              exact ⟨by rw [g_six, if_neg (show ¬ 40 = nI q from fun z => h19 ((g_i2b q hq ⟨0, by decide⟩).mpr z)), if_neg (show ¬ 41 = nI q from fun z => h19_1 ((g_i2b q hq ⟨1, by decide⟩).mpr z)), if_neg (show ¬ 59 = nI q from fun z => h19_2 ((g_i2b q hq ⟨2, by decide⟩).mpr z)), if_neg (show ¬ 43 = nI q from fun z => h19_3 ((g_i2b q hq ⟨3, by decide⟩).mpr z)), if_neg (show ¬ 45 = nI q from fun z => h19_4 ((g_i2b q hq ⟨4, by decide⟩).mpr z)), if_pos (show 42 = nI q from (g_i2b q hq ⟨5, by decide⟩).mp h19_5)], rfl⟩
          · skip
            refine V_blk C (pc' := 24) (σ' := σ) (L' := [some (.ref (103 + 2)), some (.int (nI q)), some (.int 0), some (.int 8), some (.int (Int8.toInt32 (Int32.toInt8 (nI q)))), some (.int 4)]) (st' := [.int 4]) (g_c dJ1_indexOfChar_4cfef_22 g_n) rfl rfl ?_
            refine V_iret C dJ1_indexOfChar_4cfef_24 ?_
            exact ⟨by rw [g_six, if_neg (show ¬ 40 = nI q from fun z => h19 ((g_i2b q hq ⟨0, by decide⟩).mpr z)), if_neg (show ¬ 41 = nI q from fun z => h19_1 ((g_i2b q hq ⟨1, by decide⟩).mpr z)), if_neg (show ¬ 59 = nI q from fun z => h19_2 ((g_i2b q hq ⟨2, by decide⟩).mpr z)), if_neg (show ¬ 43 = nI q from fun z => h19_3 ((g_i2b q hq ⟨3, by decide⟩).mpr z)), if_pos (show 45 = nI q from (g_i2b q hq ⟨4, by decide⟩).mp h19_4)], rfl⟩
        · skip
          refine V_blk C (pc' := 24) (σ' := σ) (L' := [some (.ref (103 + 2)), some (.int (nI q)), some (.int 0), some (.int 8), some (.int (Int8.toInt32 (Int32.toInt8 (nI q)))), some (.int 3)]) (st' := [.int 3]) (g_c dJ1_indexOfChar_4cfef_22 g_n) rfl rfl ?_
          refine V_iret C dJ1_indexOfChar_4cfef_24 ?_
          exact ⟨by rw [g_six, if_neg (show ¬ 40 = nI q from fun z => h19 ((g_i2b q hq ⟨0, by decide⟩).mpr z)), if_neg (show ¬ 41 = nI q from fun z => h19_1 ((g_i2b q hq ⟨1, by decide⟩).mpr z)), if_neg (show ¬ 59 = nI q from fun z => h19_2 ((g_i2b q hq ⟨2, by decide⟩).mpr z)), if_pos (show 43 = nI q from (g_i2b q hq ⟨3, by decide⟩).mp h19_3)], rfl⟩
      · skip
        refine V_blk C (pc' := 24) (σ' := σ) (L' := [some (.ref (103 + 2)), some (.int (nI q)), some (.int 0), some (.int 8), some (.int (Int8.toInt32 (Int32.toInt8 (nI q)))), some (.int 2)]) (st' := [.int 2]) (g_c dJ1_indexOfChar_4cfef_22 g_n) rfl rfl ?_
        refine V_iret C dJ1_indexOfChar_4cfef_24 ?_
        exact ⟨by rw [g_six, if_neg (show ¬ 40 = nI q from fun z => h19 ((g_i2b q hq ⟨0, by decide⟩).mpr z)), if_neg (show ¬ 41 = nI q from fun z => h19_1 ((g_i2b q hq ⟨1, by decide⟩).mpr z)), if_pos (show 59 = nI q from (g_i2b q hq ⟨2, by decide⟩).mp h19_2)], rfl⟩
    · skip
      refine V_blk C (pc' := 24) (σ' := σ) (L' := [some (.ref (103 + 2)), some (.int (nI q)), some (.int 0), some (.int 8), some (.int (Int8.toInt32 (Int32.toInt8 (nI q)))), some (.int 1)]) (st' := [.int 1]) (g_c dJ1_indexOfChar_4cfef_22 g_n) rfl rfl ?_
      refine V_iret C dJ1_indexOfChar_4cfef_24 ?_
      exact ⟨by rw [g_six, if_neg (show ¬ 40 = nI q from fun z => h19 ((g_i2b q hq ⟨0, by decide⟩).mpr z)), if_pos (show 41 = nI q from (g_i2b q hq ⟨1, by decide⟩).mp h19_1)], rfl⟩
  · skip
    refine V_blk C (pc' := 24) (σ' := σ) (L' := [some (.ref (103 + 2)), some (.int (nI q)), some (.int 0), some (.int 8), some (.int (Int8.toInt32 (Int32.toInt8 (nI q)))), some (.int 0)]) (st' := [.int 0]) (g_c dJ1_indexOfChar_4cfef_22 g_n) rfl rfl ?_
    refine V_iret C dJ1_indexOfChar_4cfef_24 ?_
    exact ⟨by rw [g_six, if_pos (show 40 = nI q from (g_i2b q hq ⟨0, by decide⟩).mp h19)], rfl⟩
set_option maxHeartbeats 4000000 in
set_option maxRecDepth 100000 in
theorem c_indexOf1 {KR : Nat → Bool} (σ : gS) {q : Nat} (hq : q < 256) : g_Met yJ1_indexOf_4cfef cJ1_indexOf_4cfef 4 (some .int) 2 KR [.ref (103 + 2), .int (nI q), .int 0, .int 8] σ (fun rv s => rv = some (.int (g_six (nI q))) ∧ s = σ) := by
  have hc0 : ¬ nI q < 0 := nI_pos (by omega)
  have hc1 : ¬ 255 < nI q := nI_nltL (a := 255) (by omega) (by omega)
  refine g_Met.of (own := 11) (L := [some (.ref (103 + 2)), some (.int (nI q)), some (.int 0), some (.int 8)]) (by decide) rfl rfl (fun ad => Nat.le_of_ble_eq_true rfl) (fun ad => rfl) (fun X G K C => ?_)
  refine V_blk C (pc' := 1) (σ' := σ) (L' := [some (.ref (103 + 2)), some (.int (nI q)), some (.int 0), some (.int 8)]) (st' := [.int (nI q)]) (g_c dJ1_indexOf_4cfef_0 g_n) rfl rfl ?_
  refine V_callSI C cs_X11_88 (c_canEncode σ (nI q) hc0 hc1) (by decide) (by decide) (fun _ h => h) (As := [.int (nI q)]) (rest := []) rfl rfl (Nat.le_of_ble_eq_true rfl) dJ1_indexOf_4cfef_1 ?_
  refine V_if_ne C (tgt := 9) dJ1_indexOf_4cfef_4 (by decide) (fun _ => ?_) (fun z => absurd z (by decide))
  refine V_blk C (pc' := 11) (σ' := σ) (L' := [some (.ref (103 + 2)), some (.int (nI q)), some (.int 0), some (.int 8)]) (st' := [.int 0, .int 0]) (g_c dJ1_indexOf_4cfef_9 (g_c dJ1_indexOf_4cfef_10 g_n)) rfl rfl ?_
  refine V_mmax C cM_X11_92 (by decide) (by decide) dJ1_indexOf_4cfef_11 ?_
  refine V_eq rfl rfl (st' := [.int 0]) (by rfl) ?_
  refine V_blk C (pc' := 17) (σ' := σ) (L' := [some (.ref (103 + 2)), some (.int (nI q)), some (.int 0), some (.int 8)]) (st' := [.ref (103 + 2), .int 8]) (g_c dJ1_indexOf_4cfef_14 (g_c dJ1_indexOf_4cfef_15 (g_c dJ1_indexOf_4cfef_16 g_n))) rfl rfl ?_
  refine V_blen C (i := 2) (by decide) dJ1_indexOf_4cfef_17 ?_
  refine V_eq rfl rfl (st' := [.int 8, .int 8]) (by rfl) ?_
  refine V_mmin C cm_X11_38 (by decide) (by decide) dJ1_indexOf_4cfef_18 ?_
  refine V_eq rfl rfl (st' := [.int 8]) (by rfl) ?_
  refine V_blk C (pc' := 24) (σ' := σ) (L' := [some (.ref (103 + 2)), some (.int (nI q)), some (.int 0), some (.int 8)]) (st' := [.int 8, .int 0]) (g_c dJ1_indexOf_4cfef_21 (g_c dJ1_indexOf_4cfef_22 (g_c dJ1_indexOf_4cfef_23 g_n))) rfl rfl ?_
  refine V_icmp_lt C (tgt := 29) dJ1_indexOf_4cfef_24 (by decide) (fun _ => ?_) (fun z => absurd z (by decide))
  refine V_blk C (pc' := 33) (σ' := σ) (L' := [some (.ref (103 + 2)), some (.int (nI q)), some (.int 0), some (.int 8)]) (st' := [.int 8, .int 0, .int (nI q), .ref (103 + 2)]) (g_c dJ1_indexOf_4cfef_29 (g_c dJ1_indexOf_4cfef_30 (g_c dJ1_indexOf_4cfef_31 (g_c dJ1_indexOf_4cfef_32 g_n)))) rfl rfl ?_
  refine V_callSI C cs_X11_95 (c_indexOfChar σ hq) (by decide) (by decide) (fun _ h => h) (As := [.ref (103 + 2), .int (nI q), .int 0, .int 8]) (rest := []) rfl rfl (Nat.le_of_ble_eq_true rfl) dJ1_indexOf_4cfef_33 ?_
  refine V_iret C dJ1_indexOf_4cfef_36 ?_
  exact ⟨rfl, rfl⟩
set_option maxHeartbeats 4000000 in
set_option maxRecDepth 100000 in
theorem c_indexOf2 {KR : Nat → Bool} (σ : gS) {q : Nat} (hq : q < 256) : g_Met yJ0_indexOf_7cf53 cJ0_indexOf_7cf53 3 (some .int) 3 KR [.ref (100 + 2), .int (nI q), .int 0] σ (fun rv s => rv = some (.int (g_six (nI q))) ∧ s = σ) := by
  refine g_Met.of (own := 10) (L := [some (.ref (100 + 2)), some (.int (nI q)), some (.int 0)]) (by decide) rfl rfl (fun ad => Nat.le_of_ble_eq_true rfl) (fun ad => rfl) (fun X G K C => ?_)
  refine V_blk C (pc' := 1) (σ' := σ) (L' := [some (.ref (100 + 2)), some (.int (nI q)), some (.int 0)]) (st' := [.ref (100 + 2)]) (g_c dJ0_indexOf_7cf53_0 g_n) rfl rfl ?_
  refine V_callVs C (i := 2) cv_X10_492 (c_isLatin1 σ (i := 2) (by decide)) (by decide) rfl (by decide) (by decide) (fun _ h => h) (As := []) (rest := []) rfl rfl (Nat.le_of_ble_eq_true rfl) dJ0_indexOf_7cf53_1 ?_
  refine V_if_eq C (tgt := 23) dJ0_indexOf_7cf53_4 (by decide) (fun z => absurd z (by decide)) (fun _ => ?_)
  refine V_blk C (pc' := 8) (σ' := σ) (L' := [some (.ref (100 + 2)), some (.int (nI q)), some (.int 0)]) (st' := [.ref (100 + 2)]) (g_c dJ0_indexOf_7cf53_7 g_n) rfl rfl ?_
  refine V_sval C (i := 2) (by decide) dJ0_indexOf_7cf53_8 ?_
  refine V_blk C (pc' := 14) (σ' := σ) (L' := [some (.ref (100 + 2)), some (.int (nI q)), some (.int 0)]) (st' := [.ref (100 + 2), .int 0, .int (nI q), .ref (103 + 2)]) (g_c dJ0_indexOf_7cf53_11 (g_c dJ0_indexOf_7cf53_12 (g_c dJ0_indexOf_7cf53_13 g_n))) rfl rfl ?_
  refine V_callVs C (i := 2) cv_X10_505 (c_lenS σ) (by decide) rfl (by decide) (by decide) (fun _ h => h) (As := []) (rest := [.int 0, .int (nI q), .ref (103 + 2)]) rfl rfl (Nat.le_of_ble_eq_true rfl) dJ0_indexOf_7cf53_14 ?_
  refine V_callSI C cs_X10_637 (c_indexOf1 σ hq) (by decide) (by decide) (fun _ h => h) (As := [.ref (103 + 2), .int (nI q), .int 0, .int 8]) (rest := []) rfl rfl (Nat.le_of_ble_eq_true rfl) dJ0_indexOf_7cf53_17 ?_
  refine V_goto C (tgt := 36) dJ0_indexOf_7cf53_20 (by decide) ?_
  refine V_iret C dJ0_indexOf_7cf53_36 ?_
  exact ⟨rfl, rfl⟩
set_option maxHeartbeats 4000000 in
set_option maxRecDepth 100000 in
theorem c_indexOf {KR : Nat → Bool} (σ : gS) {q : Nat} (hq : q < 256) : g_Met yJ0_indexOf_0f7a4 cJ0_indexOf_0f7a4 2 (some .int) 4 KR [.ref (100 + 2), .int (nI q)] σ (fun rv s => rv = some (.int (g_six (nI q))) ∧ s = σ) := by
  refine g_Met.of (own := 10) (L := [some (.ref (100 + 2)), some (.int (nI q))]) (by decide) rfl rfl (fun ad => Nat.le_of_ble_eq_true rfl) (fun ad => rfl) (fun X G K C => ?_)
  refine V_blk C (pc' := 3) (σ' := σ) (L' := [some (.ref (100 + 2)), some (.int (nI q))]) (st' := [.int 0, .int (nI q), .ref (100 + 2)]) (g_c dJ0_indexOf_0f7a4_0 (g_c dJ0_indexOf_0f7a4_1 (g_c dJ0_indexOf_0f7a4_2 g_n))) rfl rfl ?_
  refine V_callVs C (i := 2) cv_X10_633 (c_indexOf2 σ hq) (by decide) rfl (by decide) (by decide) (fun _ h => h) (As := [.int (nI q), .int 0]) (rest := []) rfl rfl (Nat.le_of_ble_eq_true rfl) dJ0_indexOf_0f7a4_3 ?_
  refine V_iret C dJ0_indexOf_0f7a4_6 ?_
  exact ⟨rfl, rfl⟩
/-- what next() does to the reader's memory: the token from place i on -/
def r_lex (l : Nat → Int32) (i : Nat) (σ s : gS) : Prop := s 19 5 = (q_lex l i).1 ∧ s 19 6 = nI (q_lex l i).2.2.1 ∧ ((q_lex l i).1 = 3 → s 19 7 = (q_lex l i).2.1) ∧ (∃ a, s 19 4 = nI a ∧ a ≤ 170 ∧ (¬ (q_lex l i).1 = 2 → a = (q_lex l i).2.2.2)) ∧ (∀ a, a ≠ 19 → s a = σ a) ∧ ∀ j, j ≠ 4 → j ≠ 5 → j ≠ 6 → j ≠ 7 → s 19 j = σ 19 j
theorem q_lex_end {l : Nat → Int32} {i S : Nat} (hS : q_run (q_blank l) 160 i = S) (h : l S = -1) : q_lex l i = (1, 0, S, S) := by
  subst hS; simp only [q_lex]; rw [if_pos h]
theorem q_lex_word {l : Nat → Int32} {i S : Nat} (hS : q_run (q_blank l) 160 i = S) (h : ¬ l S = -1) (h2 : g_in (l S) 97 122) : q_lex l i = (q_wc l S (q_run (q_let l) 160 S) q_words 0 2, 0, S, q_run (q_let l) 160 S) := by
  have e2 : q_let l S = true := decide_eq_true h2
  subst hS; simp only [q_lex]; rw [if_neg h, if_pos e2]
theorem q_lex_num {l : Nat → Int32} {i S : Nat} (hS : q_run (q_blank l) 160 i = S) (h : ¬ l S = -1) (h2 : ¬ g_in (l S) 97 122) (h3 : g_in (l S) 48 57) : q_lex l i = (if q_run (q_dig l) 160 S - S ≤ 4 then 3 else 2, q_val l (q_run (q_dig l) 160 S - S) S 0, S, q_run (q_dig l) 160 S) := by
  have e2 : ¬ q_let l S = true := fun z => h2 (of_decide_eq_true z)
  have e3 : q_dig l S = true := decide_eq_true h3
  subst hS; simp only [q_lex]; rw [if_neg h, if_neg e2, if_pos e3]
theorem q_lex_sign {l : Nat → Int32} {i S : Nat} (hS : q_run (q_blank l) 160 i = S) (h : ¬ l S = -1) (h2 : ¬ g_in (l S) 97 122) (h3 : ¬ g_in (l S) 48 57) (h4 : q_sign (l S) = true) : q_lex l i = (l S, 0, S, S + 1) := by
  have e2 : ¬ q_let l S = true := fun z => h2 (of_decide_eq_true z)
  have e3 : ¬ q_dig l S = true := fun z => h3 (of_decide_eq_true z)
  subst hS; simp only [q_lex]; rw [if_neg h, if_neg e2, if_neg e3, if_pos h4]
theorem q_lex_wrong {l : Nat → Int32} {i S : Nat} (hS : q_run (q_blank l) 160 i = S) (h : ¬ l S = -1) (h2 : ¬ g_in (l S) 97 122) (h3 : ¬ g_in (l S) 48 57) (h4 : ¬ q_sign (l S) = true) : q_lex l i = (2, 0, S, S) := by
  have e2 : ¬ q_let l S = true := fun z => h2 (of_decide_eq_true z)
  have e3 : ¬ q_dig l S = true := fun z => h3 (of_decide_eq_true z)
  subst hS; simp only [q_lex]; rw [if_neg h, if_neg e2, if_neg e3, if_neg h4]
theorem g_six_sign : ∀ q, q < 256 → (g_six (nI q) < 0 ↔ ¬ q_sign (nI q) = true) := by
  intro q hq
  have h : ∀ q : Fin 256, (g_six (nI q.val) < 0 ↔ ¬ q_sign (nI q.val) = true) := by decide +kernel
  exact h ⟨q, hq⟩
theorem g_byte {x : Int32} (h : g_in x 0 255) : ∃ q, q < 256 ∧ x = nI q := by
  obtain ⟨a, ha, e⟩ := g_natc (n := 255) h rfl
  exact ⟨a, by omega, e⟩
set_option maxHeartbeats 4000000 in
set_option maxRecDepth 100000 in
theorem lp_next {X : gX} {G : gG} {K : List Nat} {Qp : Option Value → gS → Prop} {σ : gS} {n : Nat} (hn : σ 19 1 = nI n) (hn160 : n ≤ 160) {E : Nat} (hx : gV X G K 2 Qp (g_up σ 19 4 (nI E)) [some (.ref 19), none] [] 51) (C : gC X G K kR 2 cX2_next (g_RX 2) none 7) : ∀ (k : Nat) (v : Nat) (a : Nat), (v + k = 160) → (a ≤ n) → (q_run (q_blank (q_l (σ 20) n)) k a = E) → gV X G K 2 (Qp) (g_up σ 19 4 (nI a)) [some (.ref 19), some (.int (nI v))] [] 2 := by
  intro k
  induction k with
  | zero =>
    intro v a hk ha hE
    have hvn : v = 160 := by omega
    have hlt : ¬ nI v < 160 := by rw [hvn]; decide
    have hEa : a = E := hE
    subst hEa
    refine V_blk C (pc' := 6) (σ' := (g_up σ 19 4 (nI a))) (L' := [some (.ref 19), some (.int (nI v))]) (st' := [.int 160, .int (nI v)]) (g_c dX2_next_2 (g_c dX2_next_3 g_n)) rfl rfl ?_
    refine V_icmp_ge2 C (tgt := 51) dX2_next_6 (by decide) (fun h6 => ?_) (fun h6 => absurd h6 hlt)
    exact V_less (L' := [some (.ref 19), none]) (by simp [g_subL]) hx
  | succ k ih =>
    intro v a hk ha hE
    have hlt : nI v < 160 := nI_ltL (b := 160) (by omega) (by omega)
    refine V_blk C (pc' := 6) (σ' := (g_up σ 19 4 (nI a))) (L' := [some (.ref 19), some (.int (nI v))]) (st' := [.int 160, .int (nI v)]) (g_c dX2_next_2 (g_c dX2_next_3 g_n)) rfl rfl ?_
    refine V_icmp_ge2 C (tgt := 51) dX2_next_6 (by decide) (fun h6 => absurd hlt h6) (fun h6 => ?_)
    refine V_blk C (pc' := 14) (σ' := (g_up σ 19 4 (nI a))) (L' := [some (.ref 19), some (.int (nI v))]) (st' := [.int (nI a), .ref 19]) (g_c dX2_next_9 (g_c dX2_next_10 (g_c dX2_next_11 g_n))) rfl rfl ?_
    refine V_callVI C cv_X2_91 (c_X2_letterAt (g_up σ 19 4 (nI a)) (i := a) (by omega) hn hn160) ⟨_, _, _, _, rfl, rfl⟩ (by rfl) (by decide) (by decide) (fun _ h => h) (As := [.int (nI a)]) (rest := []) rfl rfl (Nat.le_of_ble_eq_true rfl) dX2_next_14 ?_
    refine V_blk C (pc' := 19) (σ' := (g_up σ 19 4 (nI a))) (L' := [some (.ref 19), some (.int (nI v))]) (st' := [.int 32, .int (q_l (σ 20) n a)]) (g_c dX2_next_17 g_n) rfl rfl ?_
    refine V_icmp_eq C (tgt := 35) dX2_next_19 (by decide) (fun h19 => ?_) (fun h19 => ?_)
    · skip
      have hbl : q_blank (q_l (σ 20) n) a = true := by first | exact decide_eq_true (Or.inl h19) | exact decide_eq_true (Or.inr h32)
      have han : a < n := by
        rcases Nat.lt_or_ge a n with q | q
        · exact q
        · rw [q_blank_out q] at hbl; cases hbl
      rw [q_run, if_pos hbl] at hE
      refine V_blk C (pc' := 48) (σ' := (g_up (g_up σ 19 4 (nI a)) 19 4 ((nI a) + 1))) (L' := [some (.ref 19), some (.int ((nI v) + 1))]) (st' := []) (g_c dX2_next_35 (g_c dX2_next_36 (g_c dX2_next_37 (g_c dX2_next_40 (g_c dX2_next_41 (g_c dX2_next_42 (g_c dX2_next_45 g_n))))))) rfl rfl ?_
      refine V_goto C (tgt := 2) dX2_next_48 (by decide) ?_
      refine V_eq ((g_up_tw σ 19 4 _ _).trans (by rw [nI_1])) (by rw [nI_1]) rfl (ih (v + 1) (a + 1) (by omega) (by omega) hE)
    · skip
      refine V_blk C (pc' := 27) (σ' := (g_up σ 19 4 (nI a))) (L' := [some (.ref 19), some (.int (nI v))]) (st' := [.int (nI a), .ref 19]) (g_c dX2_next_22 (g_c dX2_next_23 (g_c dX2_next_24 g_n))) rfl rfl ?_
      refine V_callVI C cv_X2_91 (c_X2_letterAt (g_up σ 19 4 (nI a)) (i := a) (by omega) hn hn160) ⟨_, _, _, _, rfl, rfl⟩ (by rfl) (by decide) (by decide) (fun _ h => h) (As := [.int (nI a)]) (rest := []) rfl rfl (Nat.le_of_ble_eq_true rfl) dX2_next_27 ?_
      refine V_blk C (pc' := 32) (σ' := (g_up σ 19 4 (nI a))) (L' := [some (.ref 19), some (.int (nI v))]) (st' := [.int 10, .int (q_l (σ 20) n a)]) (g_c dX2_next_30 g_n) rfl rfl ?_
      refine V_icmp_ne C (tgt := 51) dX2_next_32 (by decide) (fun h32 => ?_) (fun h32 => ?_)
      · skip
        have hd : ¬ q_blank (q_l (σ 20) n) a = true := fun z => (of_decide_eq_true z).elim h19 h32
        rw [q_run, if_neg hd] at hE
        subst hE
        exact V_less (L' := [some (.ref 19), none]) (by simp [g_subL]) hx
      · skip
        have hbl : q_blank (q_l (σ 20) n) a = true := by first | exact decide_eq_true (Or.inl h19) | exact decide_eq_true (Or.inr h32)
        have han : a < n := by
          rcases Nat.lt_or_ge a n with q | q
          · exact q
          · rw [q_blank_out q] at hbl; cases hbl
        rw [q_run, if_pos hbl] at hE
        refine V_blk C (pc' := 48) (σ' := (g_up (g_up σ 19 4 (nI a)) 19 4 ((nI a) + 1))) (L' := [some (.ref 19), some (.int ((nI v) + 1))]) (st' := []) (g_c dX2_next_35 (g_c dX2_next_36 (g_c dX2_next_37 (g_c dX2_next_40 (g_c dX2_next_41 (g_c dX2_next_42 (g_c dX2_next_45 g_n))))))) rfl rfl ?_
        refine V_goto C (tgt := 2) dX2_next_48 (by decide) ?_
        refine V_eq ((g_up_tw σ 19 4 _ _).trans (by rw [nI_1])) (by rw [nI_1]) rfl (ih (v + 1) (a + 1) (by omega) (by omega) hE)
theorem q_wc_ne (l : Nat → Int32) (i e : Nat) : ∀ (ws : List (List Int32)) (j : Nat) (t : Int32), ws.length + j ≤ 20 → ¬ t = 3 → ¬ q_wc l i e ws j t = 3
  | [], _, _, _, h => h
  | w :: ws, j, t, hl, h => by
    rw [q_wc]
    refine q_wc_ne l i e ws (j + 1) _ (by rw [List.length_cons] at hl; omega) ?_
    split
    · exact fun z => absurd ((nI_eq (a := 97 + j) (b := 3) (by rw [List.length_cons] at hl; omega) (by decide)).mp z) (by omega)
    · exact h
theorem q_wc_ne3 (l : Nat → Int32) (i e : Nat) : ¬ q_wc l i e q_words 0 2 = 3 := q_wc_ne l i e q_words 0 2 (by decide) (by decide)
set_option maxHeartbeats 4000000 in
set_option maxRecDepth 100000 in
theorem c_X2_next0 (σ : gS) {n : Nat} (hn : σ 19 1 = nI n) (hn160 : n ≤ 160) (hb : ∀ k, k < n → g_in (σ 20 k) 0 255) {i : Nat} (hi : i ≤ n) (h4 : σ 19 4 = nI i) : g_Met yX2_next cX2_next 2 none 7 kR [.ref 19] σ (fun rv s => rv = none ∧ r_lex (q_l (σ 20) n) i σ s) := by
  refine g_Met.of (own := 2) (L := [some (.ref 19), none]) (by decide) rfl rfl (fun ad => Nat.le_of_ble_eq_true rfl) (fun ad => rfl) (fun X G K C => ?_)
  refine V_blk C (pc' := 2) (σ' := σ) (L' := [some (.ref 19), some (.int 0)]) (st' := []) (g_c dX2_next_0 (g_c dX2_next_1 g_n)) rfl rfl ?_
  obtain ⟨S, hS⟩ : ∃ S, q_run (q_blank (q_l (σ 20) n)) 160 i = S := ⟨_, rfl⟩
  have hSn : S ≤ n := by rw [← hS]; exact q_run_le (fun j => q_blank_out) 160 i hi
  refine V_eq (σ' := g_up σ 19 4 (nI i)) (g_up_id h4).symm rfl rfl (lp_next hn hn160 ?_ C 160 0 i (by omega) hi hS)
  refine V_blk C (pc' := 64) (σ' := (g_up (g_up σ 19 4 (nI S)) 19 6 (nI S))) (L' := [some (.ref 19), none]) (st' := [.int (nI S), .ref 19]) (g_c dX2_next_51 (g_c dX2_next_52 (g_c dX2_next_53 (g_c dX2_next_56 (g_c dX2_next_59 (g_c dX2_next_60 (g_c dX2_next_61 g_n))))))) rfl rfl ?_
  refine V_callVI C cv_X2_91 (c_X2_letterAt (g_up (g_up σ 19 4 (nI S)) 19 6 (nI S)) (i := S) (by omega) hn hn160) ⟨_, _, _, _, rfl, rfl⟩ (by rfl) (by decide) (by decide) (fun _ h => h) (As := [.int (nI S)]) (rest := []) rfl rfl (Nat.le_of_ble_eq_true rfl) dX2_next_64 ?_
  refine V_blk C (pc' := 70) (σ' := (g_up (g_up σ 19 4 (nI S)) 19 6 (nI S))) (L' := [some (.ref 19), some (.int (q_l (σ 20) n S))]) (st' := [.int (-1), .int (q_l (σ 20) n S)]) (g_c dX2_next_67 (g_c dX2_next_68 (g_c dX2_next_69 g_n))) rfl rfl ?_
  refine V_icmp_ne C (tgt := 81) dX2_next_70 (by decide) (fun h70 => ?_) (fun h70 => ?_)
  · skip
    refine V_blk C (pc' := 86) (σ' := (g_up (g_up σ 19 4 (nI S)) 19 6 (nI S))) (L' := [some (.ref 19), some (.int (q_l (σ 20) n S))]) (st' := [.int 122, .int 97, .int (q_l (σ 20) n S)]) (g_c dX2_next_81 (g_c dX2_next_82 (g_c dX2_next_84 g_n))) rfl rfl ?_
    refine V_callNI C cn_X2_21 (c_X7_isIn (g_up (g_up σ 19 4 (nI S)) 19 6 (nI S)) (q_l (σ 20) n S) 97 122) (by decide) (by decide) (fun _ h => h) (As := [.int (q_l (σ 20) n S), .int 97, .int 122]) (rest := []) rfl rfl (Nat.le_of_ble_eq_true rfl) dX2_next_86 ?_
    refine V_if_eq_b C (tgt := 99) dX2_next_89 (by decide) (fun h89 => ?_) (fun h89 => ?_)
    · skip
      refine V_blk C (pc' := 104) (σ' := (g_up (g_up σ 19 4 (nI S)) 19 6 (nI S))) (L' := [some (.ref 19), some (.int (q_l (σ 20) n S))]) (st' := [.int 57, .int 48, .int (q_l (σ 20) n S)]) (g_c dX2_next_99 (g_c dX2_next_100 (g_c dX2_next_102 g_n))) rfl rfl ?_
      refine V_callNI C cn_X2_21 (c_X7_isIn (g_up (g_up σ 19 4 (nI S)) 19 6 (nI S)) (q_l (σ 20) n S) 48 57) (by decide) (by decide) (fun _ h => h) (As := [.int (q_l (σ 20) n S), .int 48, .int 57]) (rest := []) rfl rfl (Nat.le_of_ble_eq_true rfl) dX2_next_104 ?_
      refine V_if_eq_b C (tgt := 117) dX2_next_107 (by decide) (fun h107 => ?_) (fun h107 => ?_)
      · skip
        have hSlt : S < n := q_l_in h70
        obtain ⟨q, hq, hqe⟩ := g_byte (show g_in (q_l (σ 20) n S) 0 255 by rw [q_l, if_pos hSlt]; exact hb S hSlt)
        refine V_eq rfl (L' := [some (.ref 19), some (.int (nI q))]) (by rw [hqe]) rfl ?_
        refine V_blk C (pc' := 118) (σ' := (g_up (g_up σ 19 4 (nI S)) 19 6 (nI S))) (L' := [some (.ref 19), some (.int (nI q))]) (st' := [.ref 19]) (g_c dX2_next_117 g_n) rfl rfl ?_
        refine V_ldcS2 C dX2_next_118 ?_
        refine V_eq rfl rfl (st' := [.ref (100 + 2), .ref 19]) rfl ?_
        refine V_blk C (pc' := 122) (σ' := (g_up (g_up σ 19 4 (nI S)) 19 6 (nI S))) (L' := [some (.ref 19), some (.int (nI q))]) (st' := [.int (((Int32.toUInt32 (nI q)) % 65536).toInt32), .ref (100 + 2), .ref 19]) (g_c dX2_next_120 (g_c dX2_next_121 g_n)) rfl rfl ?_
        refine V_eq rfl rfl (st' := [.int (nI q), .ref (100 + 2), .ref 19]) (by rw [(sb_byte q hq).2.1]) ?_
        refine V_callVs C (i := 2) cv_X2_103 (c_indexOf (g_up (g_up σ 19 4 (nI S)) 19 6 (nI S)) hq) (by decide) rfl (by decide) (by decide) (fun _ h => h) (As := [.int (nI q)]) (rest := [.ref 19]) rfl rfl (Nat.le_of_ble_eq_true rfl) dX2_next_122 ?_
        refine V_if_lt C (tgt := 132) dX2_next_125 (by decide) (fun h125 => ?_) (fun h125 => ?_)
        · skip
          refine V_blk C (pc' := 146) (σ' := (g_up (g_up (g_up (g_up σ 19 4 (nI S)) 19 6 (nI S)) 19 5 2) 19 4 ((nI S) + 1))) (L' := [some (.ref 19), some (.int (nI q))]) (st' := []) (g_c dX2_next_132 (g_c dX2_next_133 (g_c dX2_next_136 (g_c dX2_next_137 (g_c dX2_next_138 (g_c dX2_next_141 (g_c dX2_next_142 (g_c dX2_next_143 g_n)))))))) rfl rfl ?_
          refine V_vret C dX2_next_146 ?_
          have hsg : ¬ q_sign (q_l (σ 20) n S) = true := by rw [hqe]; exact (g_six_sign q hq).mp h125
          refine ⟨rfl, ?_⟩
          rw [r_lex, q_lex_wrong hS h70 h89 h107 hsg]
          exact ⟨rfl, rfl, fun z => absurd (show (2 : Int32) = 3 from z) (by decide), ⟨S + 1, nI_1 S, by omega, fun z => absurd rfl z⟩, fun a ha => by simp only [g_up, if_neg ha], fun j e4 e5 e6 e7 => by simp only [g_up, if_true, if_neg e4, if_neg e5, if_neg e6, if_neg e7]⟩
        · skip
          refine V_blk C (pc' := 129) (σ' := (g_up (g_up σ 19 4 (nI S)) 19 6 (nI S))) (L' := [some (.ref 19), some (.int (nI q))]) (st' := [.int (nI q), .ref 19]) (g_c dX2_next_128 g_n) rfl rfl ?_
          refine V_goto C (tgt := 133) dX2_next_129 (by decide) ?_
          refine V_blk C (pc' := 146) (σ' := (g_up (g_up (g_up (g_up σ 19 4 (nI S)) 19 6 (nI S)) 19 5 (nI q)) 19 4 ((nI S) + 1))) (L' := [some (.ref 19), some (.int (nI q))]) (st' := []) (g_c dX2_next_133 (g_c dX2_next_136 (g_c dX2_next_137 (g_c dX2_next_138 (g_c dX2_next_141 (g_c dX2_next_142 (g_c dX2_next_143 g_n))))))) rfl rfl ?_
          refine V_vret C dX2_next_146 ?_
          have hsg : q_sign (q_l (σ 20) n S) = true := by rw [hqe]; exact Decidable.of_not_not (fun z => h125 ((g_six_sign q hq).mpr z))
          refine ⟨rfl, ?_⟩
          rw [r_lex, q_lex_sign hS h70 h89 h107 hsg]
          exact ⟨hqe.symm, rfl, fun z => absurd (show q_l (σ 20) n S = 3 from z) (fun y => by rw [y] at hsg; exact absurd hsg (by decide)), ⟨S + 1, nI_1 S, by omega, fun _ => rfl⟩, fun a ha => by simp only [g_up, if_neg ha], fun j e4 e5 e6 e7 => by simp only [g_up, if_true, if_neg e4, if_neg e5, if_neg e6, if_neg e7]⟩
      · skip
        refine V_blk C (pc' := 111) (σ' := (g_up (g_up σ 19 4 (nI S)) 19 6 (nI S))) (L' := [some (.ref 19), some (.int (q_l (σ 20) n S))]) (st' := [.ref 19]) (g_c dX2_next_110 g_n) rfl rfl ?_
        refine V_callVV C cv_X2_98 (c_X2_nextNumber (g_up (g_up σ 19 4 (nI S)) 19 6 (nI S)) hn hn160 hSn rfl rfl) ⟨_, _, _, _, rfl, rfl⟩ (by rfl) (by decide) (by decide) (fun _ h => h) (As := []) (rest := []) rfl rfl (Nat.le_of_ble_eq_true rfl) dX2_next_111 ?_
        refine V_goto C (tgt := 146) dX2_next_114 (by decide) ?_
        refine V_vret C dX2_next_146 ?_
        have hle : (q_run (q_dig (q_l (σ 20) n)) 160 S) ≤ n := q_run_le (fun j => q_dig_out) 160 S hSn
        refine ⟨rfl, ?_⟩
        rw [r_lex, q_lex_num hS h70 h89 h107]
        exact ⟨rfl, rfl, fun _ => rfl, ⟨(q_run (q_dig (q_l (σ 20) n)) 160 S), rfl, by omega, fun _ => rfl⟩, fun a ha => by simp only [g_up, if_neg ha], fun j e4 e5 e6 e7 => by simp only [g_up, if_true, if_neg e4, if_neg e5, if_neg e6, if_neg e7]⟩
    · skip
      refine V_blk C (pc' := 93) (σ' := (g_up (g_up σ 19 4 (nI S)) 19 6 (nI S))) (L' := [some (.ref 19), some (.int (q_l (σ 20) n S))]) (st' := [.ref 19]) (g_c dX2_next_92 g_n) rfl rfl ?_
      refine V_callVV C cv_X2_95 (c_X2_nextWord (g_up (g_up σ 19 4 (nI S)) 19 6 (nI S)) hn hn160 hSn rfl rfl) ⟨_, _, _, _, rfl, rfl⟩ (by rfl) (by decide) (by decide) (fun _ h => h) (As := []) (rest := []) rfl rfl (Nat.le_of_ble_eq_true rfl) dX2_next_93 ?_
      refine V_goto C (tgt := 146) dX2_next_96 (by decide) ?_
      refine V_vret C dX2_next_146 ?_
      have hle : q_run (q_let (q_l (σ 20) n)) 160 S ≤ n := q_run_le (fun j => q_let_out) 160 S hSn
      refine ⟨rfl, ?_⟩
      rw [r_lex, q_lex_word hS h70 h89]
      exact ⟨rfl, rfl, fun z => absurd z (q_wc_ne3 _ _ _), ⟨q_run (q_let (q_l (σ 20) n)) 160 S, rfl, by omega, fun _ => rfl⟩, fun a ha => by simp only [g_up, if_neg ha], fun j e4 e5 e6 e7 => by simp only [g_up, if_true, if_neg e4, if_neg e5, if_neg e6, if_neg e7]⟩
  · skip
    refine V_blk C (pc' := 78) (σ' := (g_up (g_up (g_up σ 19 4 (nI S)) 19 6 (nI S)) 19 5 1)) (L' := [some (.ref 19), some (.int (q_l (σ 20) n S))]) (st' := []) (g_c dX2_next_73 (g_c dX2_next_74 (g_c dX2_next_75 g_n))) rfl rfl ?_
    refine V_goto C (tgt := 146) dX2_next_78 (by decide) ?_
    refine V_vret C dX2_next_146 ?_
    refine ⟨rfl, ?_⟩
    rw [r_lex, q_lex_end hS h70]
    exact ⟨rfl, rfl, fun z => absurd (show (1 : Int32) = 3 from z) (by decide), ⟨S, rfl, by omega, fun _ => rfl⟩, fun a ha => by simp only [g_up, if_neg ha], fun j e4 e5 e6 e7 => by simp only [g_up, if_true, if_neg e4, if_neg e5, if_neg e6, if_neg e7]⟩
