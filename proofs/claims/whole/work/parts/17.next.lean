/-! THE SIGNS' indexOf; next() -/
theorem c_lenS {KR : Nat → Bool} (σ : gS) : g_Met yJ0_length_8abf5 cJ0_length_8abf5 1 (some .int) 2 KR [.ref (100 + 2)] σ (fun rv s => rv = some (.int 8) ∧ s = σ) := c_length σ (i := 2) (by decide)
set_option maxHeartbeats 4000000 in
set_option maxRecDepth 100000 in
theorem c_indexOfChar {KR : Nat → Bool} (σ : gS) {q : Nat} (hq : q < 256) : g_Met yJ1_indexOfChar_4cfef cJ1_indexOfChar_4cfef 6 (some .int) 1 KR [.ref (103 + 2), .int (nI q), .int 0, .int 8] σ (fun rv s => rv = some (.int (g_six (nI q))) ∧ s = σ) := by
  refine g_Met.of (own := 11) (L := [some (.ref (103 + 2)), some (.int (nI q)), some (.int 0), some (.int 8), none, none]) (by decide) rfl rfl (fun ad => Nat.le_of_ble_eq_true rfl) (fun ad => rfl) (fun X G K C => ?_)
  refine V_blk C (pc' := 10) (σ' := σ) (L' := [some (.ref (103 + 2)), some (.int (nI q)), some (.int 0), some (.int 8), some (.int (Int8.toInt32 (Int32.toInt8 (nI q)))), some (.int 0)]) (st' := [.int 8, .int 0]) (g_c dJ1_indexOfChar_4cfef_0 (g_c dJ1_indexOfChar_4cfef_1 (g_c dJ1_indexOfChar_4cfef_2 (g_c dJ1_indexOfChar_4cfef_4 (g_c dJ1_indexOfChar_4cfef_5 (g_c dJ1_indexOfChar_4cfef_7 (g_c dJ1_indexOfChar_4cfef_9 g_n))))))) rfl rfl ?_
  refine V_icmp_ge2 C (tgt := 31) dJ1_indexOfChar_4cfef_10 (by decide) (fun z => absurd z (by decide)) (fun _ => ?_)
  refine V_blk C (pc' := 16) (σ' := σ) (L' := [some (.ref (103 + 2)), some (.int (nI q)), some (.int 0), some (.int 8), some (.int (Int8.toInt32 (Int32.toInt8 (nI q)))), some (.int 0)]) (st' := [.int 0, .ref (103 + 2)]) (g_c dJ1_indexOfChar_4cfef_13 (g_c dJ1_indexOfChar_4cfef_14 g_n)) rfl rfl ?_
  refine V_bldS C (i := 2) (j := 0) (by decide) (by decide) dJ1_indexOfChar_4cfef_16 ?_
  refine V_eq rfl rfl (st' := [.int 40]) (by rfl) ?_
  refine V_blk C (pc' := 19) (σ' := σ) (L' := [some (.ref (103 + 2)), some (.int (nI q)), some (.int 0), some (.int 8), some (.int (Int8.toInt32 (Int32.toInt8 (nI q)))), some (.int 0)]) (st' := [.int (Int8.toInt32 (Int32.toInt8 (nI q))), .int 40]) (g_c dJ1_indexOfChar_4cfef_17 g_n) rfl rfl ?_
  refine V_icmp_ne C (tgt := 25) dJ1_indexOfChar_4cfef_19 (by decide) (fun h19 => ?_) (fun h19 => ?_)
  · skip
    refine V_blk C (pc' := 28) (σ' := σ) (L' := [some (.ref (103 + 2)), some (.int (nI q)), some (.int 0), some (.int 8), some (.int (Int8.toInt32 (Int32.toInt8 (nI q)))), some (.int 1)]) (st' := []) (g_c dJ1_indexOfChar_4cfef_25 g_n) rfl rfl ?_
    refine V_goto C (tgt := 7) dJ1_indexOfChar_4cfef_28 (by decide) ?_
    refine V_blk C (pc' := 10) (σ' := σ) (L' := [some (.ref (103 + 2)), some (.int (nI q)), some (.int 0), some (.int 8), some (.int (Int8.toInt32 (Int32.toInt8 (nI q)))), some (.int 1)]) (st' := [.int 8, .int 1]) (g_c dJ1_indexOfChar_4cfef_7 (g_c dJ1_indexOfChar_4cfef_9 g_n)) rfl rfl ?_
    refine V_icmp_ge2 C (tgt := 31) dJ1_indexOfChar_4cfef_10 (by decide) (fun z => absurd z (by decide)) (fun _ => ?_)
    refine V_blk C (pc' := 16) (σ' := σ) (L' := [some (.ref (103 + 2)), some (.int (nI q)), some (.int 0), some (.int 8), some (.int (Int8.toInt32 (Int32.toInt8 (nI q)))), some (.int 1)]) (st' := [.int 1, .ref (103 + 2)]) (g_c dJ1_indexOfChar_4cfef_13 (g_c dJ1_indexOfChar_4cfef_14 g_n)) rfl rfl ?_
    refine V_bldS C (i := 2) (j := 1) (by decide) (by decide) dJ1_indexOfChar_4cfef_16 ?_
    refine V_eq rfl rfl (st' := [.int 41]) (by rfl) ?_
    refine V_blk C (pc' := 19) (σ' := σ) (L' := [some (.ref (103 + 2)), some (.int (nI q)), some (.int 0), some (.int 8), some (.int (Int8.toInt32 (Int32.toInt8 (nI q)))), some (.int 1)]) (st' := [.int (Int8.toInt32 (Int32.toInt8 (nI q))), .int 41]) (g_c dJ1_indexOfChar_4cfef_17 g_n) rfl rfl ?_
    refine V_icmp_ne C (tgt := 25) dJ1_indexOfChar_4cfef_19 (by decide) (fun h19_1 => ?_) (fun h19_1 => ?_)
    · skip
      refine V_blk C (pc' := 28) (σ' := σ) (L' := [some (.ref (103 + 2)), some (.int (nI q)), some (.int 0), some (.int 8), some (.int (Int8.toInt32 (Int32.toInt8 (nI q)))), some (.int 2)]) (st' := []) (g_c dJ1_indexOfChar_4cfef_25 g_n) rfl rfl ?_
      refine V_goto C (tgt := 7) dJ1_indexOfChar_4cfef_28 (by decide) ?_
      refine V_blk C (pc' := 10) (σ' := σ) (L' := [some (.ref (103 + 2)), some (.int (nI q)), some (.int 0), some (.int 8), some (.int (Int8.toInt32 (Int32.toInt8 (nI q)))), some (.int 2)]) (st' := [.int 8, .int 2]) (g_c dJ1_indexOfChar_4cfef_7 (g_c dJ1_indexOfChar_4cfef_9 g_n)) rfl rfl ?_
      refine V_icmp_ge2 C (tgt := 31) dJ1_indexOfChar_4cfef_10 (by decide) (fun z => absurd z (by decide)) (fun _ => ?_)
      refine V_blk C (pc' := 16) (σ' := σ) (L' := [some (.ref (103 + 2)), some (.int (nI q)), some (.int 0), some (.int 8), some (.int (Int8.toInt32 (Int32.toInt8 (nI q)))), some (.int 2)]) (st' := [.int 2, .ref (103 + 2)]) (g_c dJ1_indexOfChar_4cfef_13 (g_c dJ1_indexOfChar_4cfef_14 g_n)) rfl rfl ?_
      refine V_bldS C (i := 2) (j := 2) (by decide) (by decide) dJ1_indexOfChar_4cfef_16 ?_
      refine V_eq rfl rfl (st' := [.int 59]) (by rfl) ?_
      refine V_blk C (pc' := 19) (σ' := σ) (L' := [some (.ref (103 + 2)), some (.int (nI q)), some (.int 0), some (.int 8), some (.int (Int8.toInt32 (Int32.toInt8 (nI q)))), some (.int 2)]) (st' := [.int (Int8.toInt32 (Int32.toInt8 (nI q))), .int 59]) (g_c dJ1_indexOfChar_4cfef_17 g_n) rfl rfl ?_
      refine V_icmp_ne C (tgt := 25) dJ1_indexOfChar_4cfef_19 (by decide) (fun h19_2 => ?_) (fun h19_2 => ?_)
      · skip
        refine V_blk C (pc' := 28) (σ' := σ) (L' := [some (.ref (103 + 2)), some (.int (nI q)), some (.int 0), some (.int 8), some (.int (Int8.toInt32 (Int32.toInt8 (nI q)))), some (.int 3)]) (st' := []) (g_c dJ1_indexOfChar_4cfef_25 g_n) rfl rfl ?_
        refine V_goto C (tgt := 7) dJ1_indexOfChar_4cfef_28 (by decide) ?_
        refine V_blk C (pc' := 10) (σ' := σ) (L' := [some (.ref (103 + 2)), some (.int (nI q)), some (.int 0), some (.int 8), some (.int (Int8.toInt32 (Int32.toInt8 (nI q)))), some (.int 3)]) (st' := [.int 8, .int 3]) (g_c dJ1_indexOfChar_4cfef_7 (g_c dJ1_indexOfChar_4cfef_9 g_n)) rfl rfl ?_
        refine V_icmp_ge2 C (tgt := 31) dJ1_indexOfChar_4cfef_10 (by decide) (fun z => absurd z (by decide)) (fun _ => ?_)
        refine V_blk C (pc' := 16) (σ' := σ) (L' := [some (.ref (103 + 2)), some (.int (nI q)), some (.int 0), some (.int 8), some (.int (Int8.toInt32 (Int32.toInt8 (nI q)))), some (.int 3)]) (st' := [.int 3, .ref (103 + 2)]) (g_c dJ1_indexOfChar_4cfef_13 (g_c dJ1_indexOfChar_4cfef_14 g_n)) rfl rfl ?_
        refine V_bldS C (i := 2) (j := 3) (by decide) (by decide) dJ1_indexOfChar_4cfef_16 ?_
        refine V_eq rfl rfl (st' := [.int 43]) (by rfl) ?_
        refine V_blk C (pc' := 19) (σ' := σ) (L' := [some (.ref (103 + 2)), some (.int (nI q)), some (.int 0), some (.int 8), some (.int (Int8.toInt32 (Int32.toInt8 (nI q)))), some (.int 3)]) (st' := [.int (Int8.toInt32 (Int32.toInt8 (nI q))), .int 43]) (g_c dJ1_indexOfChar_4cfef_17 g_n) rfl rfl ?_
        refine V_icmp_ne C (tgt := 25) dJ1_indexOfChar_4cfef_19 (by decide) (fun h19_3 => ?_) (fun h19_3 => ?_)
        · skip
          refine V_blk C (pc' := 28) (σ' := σ) (L' := [some (.ref (103 + 2)), some (.int (nI q)), some (.int 0), some (.int 8), some (.int (Int8.toInt32 (Int32.toInt8 (nI q)))), some (.int 4)]) (st' := []) (g_c dJ1_indexOfChar_4cfef_25 g_n) rfl rfl ?_
          refine V_goto C (tgt := 7) dJ1_indexOfChar_4cfef_28 (by decide) ?_
          refine V_blk C (pc' := 10) (σ' := σ) (L' := [some (.ref (103 + 2)), some (.int (nI q)), some (.int 0), some (.int 8), some (.int (Int8.toInt32 (Int32.toInt8 (nI q)))), some (.int 4)]) (st' := [.int 8, .int 4]) (g_c dJ1_indexOfChar_4cfef_7 (g_c dJ1_indexOfChar_4cfef_9 g_n)) rfl rfl ?_
          refine V_icmp_ge2 C (tgt := 31) dJ1_indexOfChar_4cfef_10 (by decide) (fun z => absurd z (by decide)) (fun _ => ?_)
          refine V_blk C (pc' := 16) (σ' := σ) (L' := [some (.ref (103 + 2)), some (.int (nI q)), some (.int 0), some (.int 8), some (.int (Int8.toInt32 (Int32.toInt8 (nI q)))), some (.int 4)]) (st' := [.int 4, .ref (103 + 2)]) (g_c dJ1_indexOfChar_4cfef_13 (g_c dJ1_indexOfChar_4cfef_14 g_n)) rfl rfl ?_
          refine V_bldS C (i := 2) (j := 4) (by decide) (by decide) dJ1_indexOfChar_4cfef_16 ?_
          refine V_eq rfl rfl (st' := [.int 45]) (by rfl) ?_
          refine V_blk C (pc' := 19) (σ' := σ) (L' := [some (.ref (103 + 2)), some (.int (nI q)), some (.int 0), some (.int 8), some (.int (Int8.toInt32 (Int32.toInt8 (nI q)))), some (.int 4)]) (st' := [.int (Int8.toInt32 (Int32.toInt8 (nI q))), .int 45]) (g_c dJ1_indexOfChar_4cfef_17 g_n) rfl rfl ?_
          refine V_icmp_ne C (tgt := 25) dJ1_indexOfChar_4cfef_19 (by decide) (fun h19_4 => ?_) (fun h19_4 => ?_)
          · skip
            refine V_blk C (pc' := 28) (σ' := σ) (L' := [some (.ref (103 + 2)), some (.int (nI q)), some (.int 0), some (.int 8), some (.int (Int8.toInt32 (Int32.toInt8 (nI q)))), some (.int 5)]) (st' := []) (g_c dJ1_indexOfChar_4cfef_25 g_n) rfl rfl ?_
            refine V_goto C (tgt := 7) dJ1_indexOfChar_4cfef_28 (by decide) ?_
            refine V_blk C (pc' := 10) (σ' := σ) (L' := [some (.ref (103 + 2)), some (.int (nI q)), some (.int 0), some (.int 8), some (.int (Int8.toInt32 (Int32.toInt8 (nI q)))), some (.int 5)]) (st' := [.int 8, .int 5]) (g_c dJ1_indexOfChar_4cfef_7 (g_c dJ1_indexOfChar_4cfef_9 g_n)) rfl rfl ?_
            refine V_icmp_ge2 C (tgt := 31) dJ1_indexOfChar_4cfef_10 (by decide) (fun z => absurd z (by decide)) (fun _ => ?_)
            refine V_blk C (pc' := 16) (σ' := σ) (L' := [some (.ref (103 + 2)), some (.int (nI q)), some (.int 0), some (.int 8), some (.int (Int8.toInt32 (Int32.toInt8 (nI q)))), some (.int 5)]) (st' := [.int 5, .ref (103 + 2)]) (g_c dJ1_indexOfChar_4cfef_13 (g_c dJ1_indexOfChar_4cfef_14 g_n)) rfl rfl ?_
            refine V_bldS C (i := 2) (j := 5) (by decide) (by decide) dJ1_indexOfChar_4cfef_16 ?_
            refine V_eq rfl rfl (st' := [.int 42]) (by rfl) ?_
            refine V_blk C (pc' := 19) (σ' := σ) (L' := [some (.ref (103 + 2)), some (.int (nI q)), some (.int 0), some (.int 8), some (.int (Int8.toInt32 (Int32.toInt8 (nI q)))), some (.int 5)]) (st' := [.int (Int8.toInt32 (Int32.toInt8 (nI q))), .int 42]) (g_c dJ1_indexOfChar_4cfef_17 g_n) rfl rfl ?_
            refine V_icmp_ne C (tgt := 25) dJ1_indexOfChar_4cfef_19 (by decide) (fun h19_5 => ?_) (fun h19_5 => ?_)
            · skip
              refine V_blk C (pc' := 28) (σ' := σ) (L' := [some (.ref (103 + 2)), some (.int (nI q)), some (.int 0), some (.int 8), some (.int (Int8.toInt32 (Int32.toInt8 (nI q)))), some (.int 6)]) (st' := []) (g_c dJ1_indexOfChar_4cfef_25 g_n) rfl rfl ?_
              refine V_goto C (tgt := 7) dJ1_indexOfChar_4cfef_28 (by decide) ?_
              refine V_blk C (pc' := 10) (σ' := σ) (L' := [some (.ref (103 + 2)), some (.int (nI q)), some (.int 0), some (.int 8), some (.int (Int8.toInt32 (Int32.toInt8 (nI q)))), some (.int 6)]) (st' := [.int 8, .int 6]) (g_c dJ1_indexOfChar_4cfef_7 (g_c dJ1_indexOfChar_4cfef_9 g_n)) rfl rfl ?_
              refine V_icmp_ge2 C (tgt := 31) dJ1_indexOfChar_4cfef_10 (by decide) (fun z => absurd z (by decide)) (fun _ => ?_)
              refine V_blk C (pc' := 16) (σ' := σ) (L' := [some (.ref (103 + 2)), some (.int (nI q)), some (.int 0), some (.int 8), some (.int (Int8.toInt32 (Int32.toInt8 (nI q)))), some (.int 6)]) (st' := [.int 6, .ref (103 + 2)]) (g_c dJ1_indexOfChar_4cfef_13 (g_c dJ1_indexOfChar_4cfef_14 g_n)) rfl rfl ?_
              refine V_bldS C (i := 2) (j := 6) (by decide) (by decide) dJ1_indexOfChar_4cfef_16 ?_
              refine V_eq rfl rfl (st' := [.int 60]) (by rfl) ?_
              refine V_blk C (pc' := 19) (σ' := σ) (L' := [some (.ref (103 + 2)), some (.int (nI q)), some (.int 0), some (.int 8), some (.int (Int8.toInt32 (Int32.toInt8 (nI q)))), some (.int 6)]) (st' := [.int (Int8.toInt32 (Int32.toInt8 (nI q))), .int 60]) (g_c dJ1_indexOfChar_4cfef_17 g_n) rfl rfl ?_
              refine V_icmp_ne C (tgt := 25) dJ1_indexOfChar_4cfef_19 (by decide) (fun h19_6 => ?_) (fun h19_6 => ?_)
              · skip
                refine V_blk C (pc' := 28) (σ' := σ) (L' := [some (.ref (103 + 2)), some (.int (nI q)), some (.int 0), some (.int 8), some (.int (Int8.toInt32 (Int32.toInt8 (nI q)))), some (.int 7)]) (st' := []) (g_c dJ1_indexOfChar_4cfef_25 g_n) rfl rfl ?_
                refine V_goto C (tgt := 7) dJ1_indexOfChar_4cfef_28 (by decide) ?_
                refine V_blk C (pc' := 10) (σ' := σ) (L' := [some (.ref (103 + 2)), some (.int (nI q)), some (.int 0), some (.int 8), some (.int (Int8.toInt32 (Int32.toInt8 (nI q)))), some (.int 7)]) (st' := [.int 8, .int 7]) (g_c dJ1_indexOfChar_4cfef_7 (g_c dJ1_indexOfChar_4cfef_9 g_n)) rfl rfl ?_
                refine V_icmp_ge2 C (tgt := 31) dJ1_indexOfChar_4cfef_10 (by decide) (fun z => absurd z (by decide)) (fun _ => ?_)
                refine V_blk C (pc' := 16) (σ' := σ) (L' := [some (.ref (103 + 2)), some (.int (nI q)), some (.int 0), some (.int 8), some (.int (Int8.toInt32 (Int32.toInt8 (nI q)))), some (.int 7)]) (st' := [.int 7, .ref (103 + 2)]) (g_c dJ1_indexOfChar_4cfef_13 (g_c dJ1_indexOfChar_4cfef_14 g_n)) rfl rfl ?_
                refine V_bldS C (i := 2) (j := 7) (by decide) (by decide) dJ1_indexOfChar_4cfef_16 ?_
                refine V_eq rfl rfl (st' := [.int 61]) (by rfl) ?_
                refine V_blk C (pc' := 19) (σ' := σ) (L' := [some (.ref (103 + 2)), some (.int (nI q)), some (.int 0), some (.int 8), some (.int (Int8.toInt32 (Int32.toInt8 (nI q)))), some (.int 7)]) (st' := [.int (Int8.toInt32 (Int32.toInt8 (nI q))), .int 61]) (g_c dJ1_indexOfChar_4cfef_17 g_n) rfl rfl ?_
                refine V_icmp_ne C (tgt := 25) dJ1_indexOfChar_4cfef_19 (by decide) (fun h19_7 => ?_) (fun h19_7 => ?_)
                · skip
                  refine V_blk C (pc' := 28) (σ' := σ) (L' := [some (.ref (103 + 2)), some (.int (nI q)), some (.int 0), some (.int 8), some (.int (Int8.toInt32 (Int32.toInt8 (nI q)))), some (.int 8)]) (st' := []) (g_c dJ1_indexOfChar_4cfef_25 g_n) rfl rfl ?_
                  refine V_goto C (tgt := 7) dJ1_indexOfChar_4cfef_28 (by decide) ?_
                  refine V_blk C (pc' := 10) (σ' := σ) (L' := [some (.ref (103 + 2)), some (.int (nI q)), some (.int 0), some (.int 8), some (.int (Int8.toInt32 (Int32.toInt8 (nI q)))), some (.int 8)]) (st' := [.int 8, .int 8]) (g_c dJ1_indexOfChar_4cfef_7 (g_c dJ1_indexOfChar_4cfef_9 g_n)) rfl rfl ?_
                  refine V_icmp_ge2 C (tgt := 31) dJ1_indexOfChar_4cfef_10 (by decide) (fun _ => ?_) (fun z => absurd z (by decide))
                  refine V_blk C (pc' := 32) (σ' := σ) (L' := [some (.ref (103 + 2)), some (.int (nI q)), some (.int 0), some (.int 8), some (.int (Int8.toInt32 (Int32.toInt8 (nI q)))), some (.int 8)]) (st' := [.int (-1)]) (g_c dJ1_indexOfChar_4cfef_31 g_n) rfl rfl ?_
                  refine V_iret C dJ1_indexOfChar_4cfef_32 ?_
                  exact ⟨by rw [g_six, if_neg (show ¬ 40 = nI q from fun z => h19 ((g_i2b q hq ⟨0, by decide⟩).mpr z)), if_neg (show ¬ 41 = nI q from fun z => h19_1 ((g_i2b q hq ⟨1, by decide⟩).mpr z)), if_neg (show ¬ 59 = nI q from fun z => h19_2 ((g_i2b q hq ⟨2, by decide⟩).mpr z)), if_neg (show ¬ 43 = nI q from fun z => h19_3 ((g_i2b q hq ⟨3, by decide⟩).mpr z)), if_neg (show ¬ 45 = nI q from fun z => h19_4 ((g_i2b q hq ⟨4, by decide⟩).mpr z)), if_neg (show ¬ 42 = nI q from fun z => h19_5 ((g_i2b q hq ⟨5, by decide⟩).mpr z)), if_neg (show ¬ 60 = nI q from fun z => h19_6 ((g_i2b q hq ⟨6, by decide⟩).mpr z)), if_neg (show ¬ 61 = nI q from fun z => h19_7 ((g_i2b q hq ⟨7, by decide⟩).mpr z))], rfl⟩
                · skip
                  refine V_blk C (pc' := 24) (σ' := σ) (L' := [some (.ref (103 + 2)), some (.int (nI q)), some (.int 0), some (.int 8), some (.int (Int8.toInt32 (Int32.toInt8 (nI q)))), some (.int 7)]) (st' := [.int 7]) (g_c dJ1_indexOfChar_4cfef_22 g_n) rfl rfl ?_
                  refine V_iret C dJ1_indexOfChar_4cfef_24 ?_
                  exact ⟨by rw [g_six, if_neg (show ¬ 40 = nI q from fun z => h19 ((g_i2b q hq ⟨0, by decide⟩).mpr z)), if_neg (show ¬ 41 = nI q from fun z => h19_1 ((g_i2b q hq ⟨1, by decide⟩).mpr z)), if_neg (show ¬ 59 = nI q from fun z => h19_2 ((g_i2b q hq ⟨2, by decide⟩).mpr z)), if_neg (show ¬ 43 = nI q from fun z => h19_3 ((g_i2b q hq ⟨3, by decide⟩).mpr z)), if_neg (show ¬ 45 = nI q from fun z => h19_4 ((g_i2b q hq ⟨4, by decide⟩).mpr z)), if_neg (show ¬ 42 = nI q from fun z => h19_5 ((g_i2b q hq ⟨5, by decide⟩).mpr z)), if_neg (show ¬ 60 = nI q from fun z => h19_6 ((g_i2b q hq ⟨6, by decide⟩).mpr z)), if_pos (show 61 = nI q from (g_i2b q hq ⟨7, by decide⟩).mp h19_7)], rfl⟩
              · skip
                refine V_blk C (pc' := 24) (σ' := σ) (L' := [some (.ref (103 + 2)), some (.int (nI q)), some (.int 0), some (.int 8), some (.int (Int8.toInt32 (Int32.toInt8 (nI q)))), some (.int 6)]) (st' := [.int 6]) (g_c dJ1_indexOfChar_4cfef_22 g_n) rfl rfl ?_
                refine V_iret C dJ1_indexOfChar_4cfef_24 ?_
                exact ⟨by rw [g_six, if_neg (show ¬ 40 = nI q from fun z => h19 ((g_i2b q hq ⟨0, by decide⟩).mpr z)), if_neg (show ¬ 41 = nI q from fun z => h19_1 ((g_i2b q hq ⟨1, by decide⟩).mpr z)), if_neg (show ¬ 59 = nI q from fun z => h19_2 ((g_i2b q hq ⟨2, by decide⟩).mpr z)), if_neg (show ¬ 43 = nI q from fun z => h19_3 ((g_i2b q hq ⟨3, by decide⟩).mpr z)), if_neg (show ¬ 45 = nI q from fun z => h19_4 ((g_i2b q hq ⟨4, by decide⟩).mpr z)), if_neg (show ¬ 42 = nI q from fun z => h19_5 ((g_i2b q hq ⟨5, by decide⟩).mpr z)), if_pos (show 60 = nI q from (g_i2b q hq ⟨6, by decide⟩).mp h19_6)], rfl⟩
            · skip
              refine V_blk C (pc' := 24) (σ' := σ) (L' := [some (.ref (103 + 2)), some (.int (nI q)), some (.int 0), some (.int 8), some (.int (Int8.toInt32 (Int32.toInt8 (nI q)))), some (.int 5)]) (st' := [.int 5]) (g_c dJ1_indexOfChar_4cfef_22 g_n) rfl rfl ?_
              refine V_iret C dJ1_indexOfChar_4cfef_24 ?_
              exact ⟨by rw [g_six, if_neg (show ¬ 40 = nI q from fun z => h19 ((g_i2b q hq ⟨0, by decide⟩).mpr z)), if_neg (show ¬ 41 = nI q from fun z => h19_1 ((g_i2b q hq ⟨1, by decide⟩).mpr z)), if_neg (show ¬ 59 = nI q from fun z => h19_2 ((g_i2b q hq ⟨2, by decide⟩).mpr z)), if_neg (show ¬ 43 = nI q from fun z => h19_3 ((g_i2b q hq ⟨3, by decide⟩).mpr z)), if_neg (show ¬ 45 = nI q from fun z => h19_4 ((g_i2b q hq ⟨4, by decide⟩).mpr z)), if_pos (show 42 = nI q from (g_i2b q hq ⟨5, by decide⟩).mp h19_5)], rfl⟩
          · skip
            refine V_blk C (pc' := 24) (σ' := σ) (L' := [some (.ref (103 + 2)), some (.int (nI q)), some (.int 0), some (.int 8), some (.int (Int8.toInt32 (Int32.toInt8 (nI q)))), some (.int 4)]) (st' := [.int 4]) (g_c dJ1_indexOfChar_4cfef_22 g_n) rfl rfl ?_
            refine V_iret C dJ1_indexOfChar_4cfef_24 ?_
            exact ⟨by rw [g_six, if_neg (show ¬ 40 = nI q from fun z => h19 ((g_i2b q hq ⟨0, by decide⟩).mpr z)), if_neg (show ¬ 41 = nI q from fun z => h19_1 ((g_i2b q hq ⟨1, by decide⟩).mpr z)), if_neg (show ¬ 59 = nI q from fun z => h19_2 ((g_i2b q hq ⟨2, by decide⟩).mpr z)), if_neg (show ¬ 43 = nI q from fun z => h19_3 ((g_i2b q hq ⟨3, by decide⟩).mpr z)), if_pos (show 45 = nI q from (g_i2b q hq ⟨4, by decide⟩).mp h19_4)], rfl⟩
        · skip
          refine V_blk C (pc' := 24) (σ' := σ) (L' := [some (.ref (103 + 2)), some (.int (nI q)), some (.int 0), some (.int 8), some (.int (Int8.toInt32 (Int32.toInt8 (nI q)))), some (.int 3)]) (st' := [.int 3]) (g_c dJ1_indexOfChar_4cfef_22 g_n) rfl rfl ?_
          refine V_iret C dJ1_indexOfChar_4cfef_24 ?_
          exact ⟨by rw [g_six, if_neg (show ¬ 40 = nI q from fun z => h19 ((g_i2b q hq ⟨0, by decide⟩).mpr z)), if_neg (show ¬ 41 = nI q from fun z => h19_1 ((g_i2b q hq ⟨1, by decide⟩).mpr z)), if_neg (show ¬ 59 = nI q from fun z => h19_2 ((g_i2b q hq ⟨2, by decide⟩).mpr z)), if_pos (show 43 = nI q from (g_i2b q hq ⟨3, by decide⟩).mp h19_3)], rfl⟩
      · skip
        refine V_blk C (pc' := 24) (σ' := σ) (L' := [some (.ref (103 + 2)), some (.int (nI q)), some (.int 0), some (.int 8), some (.int (Int8.toInt32 (Int32.toInt8 (nI q)))), some (.int 2)]) (st' := [.int 2]) (g_c dJ1_indexOfChar_4cfef_22 g_n) rfl rfl ?_
        refine V_iret C dJ1_indexOfChar_4cfef_24 ?_
        exact ⟨by rw [g_six, if_neg (show ¬ 40 = nI q from fun z => h19 ((g_i2b q hq ⟨0, by decide⟩).mpr z)), if_neg (show ¬ 41 = nI q from fun z => h19_1 ((g_i2b q hq ⟨1, by decide⟩).mpr z)), if_pos (show 59 = nI q from (g_i2b q hq ⟨2, by decide⟩).mp h19_2)], rfl⟩
    · skip
      refine V_blk C (pc' := 24) (σ' := σ) (L' := [some (.ref (103 + 2)), some (.int (nI q)), some (.int 0), some (.int 8), some (.int (Int8.toInt32 (Int32.toInt8 (nI q)))), some (.int 1)]) (st' := [.int 1]) (g_c dJ1_indexOfChar_4cfef_22 g_n) rfl rfl ?_
      refine V_iret C dJ1_indexOfChar_4cfef_24 ?_
      exact ⟨by rw [g_six, if_neg (show ¬ 40 = nI q from fun z => h19 ((g_i2b q hq ⟨0, by decide⟩).mpr z)), if_pos (show 41 = nI q from (g_i2b q hq ⟨1, by decide⟩).mp h19_1)], rfl⟩
  · skip
    refine V_blk C (pc' := 24) (σ' := σ) (L' := [some (.ref (103 + 2)), some (.int (nI q)), some (.int 0), some (.int 8), some (.int (Int8.toInt32 (Int32.toInt8 (nI q)))), some (.int 0)]) (st' := [.int 0]) (g_c dJ1_indexOfChar_4cfef_22 g_n) rfl rfl ?_
    refine V_iret C dJ1_indexOfChar_4cfef_24 ?_
    exact ⟨by rw [g_six, if_pos (show 40 = nI q from (g_i2b q hq ⟨0, by decide⟩).mp h19)], rfl⟩
set_option maxHeartbeats 4000000 in
set_option maxRecDepth 100000 in
theorem c_indexOf1 {KR : Nat → Bool} (σ : gS) {q : Nat} (hq : q < 256) : g_Met yJ1_indexOf_4cfef cJ1_indexOf_4cfef 4 (some .int) 2 KR [.ref (103 + 2), .int (nI q), .int 0, .int 8] σ (fun rv s => rv = some (.int (g_six (nI q))) ∧ s = σ) := by
  have hc0 : ¬ nI q < 0 := nI_pos (by omega)
  have hc1 : ¬ 255 < nI q := nI_nltL (a := 255) (by omega) (by omega)
  refine g_Met.of (own := 11) (L := [some (.ref (103 + 2)), some (.int (nI q)), some (.int 0), some (.int 8)]) (by decide) rfl rfl (fun ad => Nat.le_of_ble_eq_true rfl) (fun ad => rfl) (fun X G K C => ?_)
  refine V_blk C (pc' := 1) (σ' := σ) (L' := [some (.ref (103 + 2)), some (.int (nI q)), some (.int 0), some (.int 8)]) (st' := [.int (nI q)]) (g_c dJ1_indexOf_4cfef_0 g_n) rfl rfl ?_
  refine V_callSI C cs_X11_88 (c_canEncode σ (nI q) hc0 hc1) (by decide) (by decide) (fun _ h => h) (As := [.int (nI q)]) (rest := []) rfl rfl (Nat.le_of_ble_eq_true rfl) dJ1_indexOf_4cfef_1 ?_
  refine V_if_ne C (tgt := 9) dJ1_indexOf_4cfef_4 (by decide) (fun _ => ?_) (fun z => absurd z (by decide))
  refine V_blk C (pc' := 11) (σ' := σ) (L' := [some (.ref (103 + 2)), some (.int (nI q)), some (.int 0), some (.int 8)]) (st' := [.int 0, .int 0]) (g_c dJ1_indexOf_4cfef_9 (g_c dJ1_indexOf_4cfef_10 g_n)) rfl rfl ?_
  refine V_mmax C cM_X11_92 (by decide) (by decide) dJ1_indexOf_4cfef_11 ?_
  refine V_eq rfl rfl (st' := [.int 0]) (by rfl) ?_
  refine V_blk C (pc' := 17) (σ' := σ) (L' := [some (.ref (103 + 2)), some (.int (nI q)), some (.int 0), some (.int 8)]) (st' := [.ref (103 + 2), .int 8]) (g_c dJ1_indexOf_4cfef_14 (g_c dJ1_indexOf_4cfef_15 (g_c dJ1_indexOf_4cfef_16 g_n))) rfl rfl ?_
  refine V_blen C (i := 2) (by decide) dJ1_indexOf_4cfef_17 ?_
  refine V_eq rfl rfl (st' := [.int 8, .int 8]) (by rfl) ?_
  refine V_mmin C cm_X11_38 (by decide) (by decide) dJ1_indexOf_4cfef_18 ?_
  refine V_eq rfl rfl (st' := [.int 8]) (by rfl) ?_
  refine V_blk C (pc' := 24) (σ' := σ) (L' := [some (.ref (103 + 2)), some (.int (nI q)), some (.int 0), some (.int 8)]) (st' := [.int 8, .int 0]) (g_c dJ1_indexOf_4cfef_21 (g_c dJ1_indexOf_4cfef_22 (g_c dJ1_indexOf_4cfef_23 g_n))) rfl rfl ?_
  refine V_icmp_lt C (tgt := 29) dJ1_indexOf_4cfef_24 (by decide) (fun _ => ?_) (fun z => absurd z (by decide))
  refine V_blk C (pc' := 33) (σ' := σ) (L' := [some (.ref (103 + 2)), some (.int (nI q)), some (.int 0), some (.int 8)]) (st' := [.int 8, .int 0, .int (nI q), .ref (103 + 2)]) (g_c dJ1_indexOf_4cfef_29 (g_c dJ1_indexOf_4cfef_30 (g_c dJ1_indexOf_4cfef_31 (g_c dJ1_indexOf_4cfef_32 g_n)))) rfl rfl ?_
  refine V_callSI C cs_X11_95 (c_indexOfChar σ hq) (by decide) (by decide) (fun _ h => h) (As := [.ref (103 + 2), .int (nI q), .int 0, .int 8]) (rest := []) rfl rfl (Nat.le_of_ble_eq_true rfl) dJ1_indexOf_4cfef_33 ?_
  refine V_iret C dJ1_indexOf_4cfef_36 ?_
  exact ⟨rfl, rfl⟩
set_option maxHeartbeats 4000000 in
set_option maxRecDepth 100000 in
theorem c_indexOf2 {KR : Nat → Bool} (σ : gS) {q : Nat} (hq : q < 256) : g_Met yJ0_indexOf_7cf53 cJ0_indexOf_7cf53 3 (some .int) 3 KR [.ref (100 + 2), .int (nI q), .int 0] σ (fun rv s => rv = some (.int (g_six (nI q))) ∧ s = σ) := by
  refine g_Met.of (own := 10) (L := [some (.ref (100 + 2)), some (.int (nI q)), some (.int 0)]) (by decide) rfl rfl (fun ad => Nat.le_of_ble_eq_true rfl) (fun ad => rfl) (fun X G K C => ?_)
  refine V_blk C (pc' := 1) (σ' := σ) (L' := [some (.ref (100 + 2)), some (.int (nI q)), some (.int 0)]) (st' := [.ref (100 + 2)]) (g_c dJ0_indexOf_7cf53_0 g_n) rfl rfl ?_
  refine V_callVs C (i := 2) cv_X10_492 (c_isLatin1 σ (i := 2) (by decide)) (by decide) rfl (by decide) (by decide) (fun _ h => h) (As := []) (rest := []) rfl rfl (Nat.le_of_ble_eq_true rfl) dJ0_indexOf_7cf53_1 ?_
  refine V_if_eq C (tgt := 23) dJ0_indexOf_7cf53_4 (by decide) (fun z => absurd z (by decide)) (fun _ => ?_)
  refine V_blk C (pc' := 8) (σ' := σ) (L' := [some (.ref (100 + 2)), some (.int (nI q)), some (.int 0)]) (st' := [.ref (100 + 2)]) (g_c dJ0_indexOf_7cf53_7 g_n) rfl rfl ?_
  refine V_sval C (i := 2) (by decide) dJ0_indexOf_7cf53_8 ?_
  refine V_blk C (pc' := 14) (σ' := σ) (L' := [some (.ref (100 + 2)), some (.int (nI q)), some (.int 0)]) (st' := [.ref (100 + 2), .int 0, .int (nI q), .ref (103 + 2)]) (g_c dJ0_indexOf_7cf53_11 (g_c dJ0_indexOf_7cf53_12 (g_c dJ0_indexOf_7cf53_13 g_n))) rfl rfl ?_
  refine V_callVs C (i := 2) cv_X10_505 (c_lenS σ) (by decide) rfl (by decide) (by decide) (fun _ h => h) (As := []) (rest := [.int 0, .int (nI q), .ref (103 + 2)]) rfl rfl (Nat.le_of_ble_eq_true rfl) dJ0_indexOf_7cf53_14 ?_
  refine V_callSI C cs_X10_637 (c_indexOf1 σ hq) (by decide) (by decide) (fun _ h => h) (As := [.ref (103 + 2), .int (nI q), .int 0, .int 8]) (rest := []) rfl rfl (Nat.le_of_ble_eq_true rfl) dJ0_indexOf_7cf53_17 ?_
  refine V_goto C (tgt := 36) dJ0_indexOf_7cf53_20 (by decide) ?_
  refine V_iret C dJ0_indexOf_7cf53_36 ?_
  exact ⟨rfl, rfl⟩
set_option maxHeartbeats 4000000 in
set_option maxRecDepth 100000 in
theorem c_indexOf {KR : Nat → Bool} (σ : gS) {q : Nat} (hq : q < 256) : g_Met yJ0_indexOf_0f7a4 cJ0_indexOf_0f7a4 2 (some .int) 4 KR [.ref (100 + 2), .int (nI q)] σ (fun rv s => rv = some (.int (g_six (nI q))) ∧ s = σ) := by
  refine g_Met.of (own := 10) (L := [some (.ref (100 + 2)), some (.int (nI q))]) (by decide) rfl rfl (fun ad => Nat.le_of_ble_eq_true rfl) (fun ad => rfl) (fun X G K C => ?_)
  refine V_blk C (pc' := 3) (σ' := σ) (L' := [some (.ref (100 + 2)), some (.int (nI q))]) (st' := [.int 0, .int (nI q), .ref (100 + 2)]) (g_c dJ0_indexOf_0f7a4_0 (g_c dJ0_indexOf_0f7a4_1 (g_c dJ0_indexOf_0f7a4_2 g_n))) rfl rfl ?_
  refine V_callVs C (i := 2) cv_X10_633 (c_indexOf2 σ hq) (by decide) rfl (by decide) (by decide) (fun _ h => h) (As := [.int (nI q), .int 0]) (rest := []) rfl rfl (Nat.le_of_ble_eq_true rfl) dJ0_indexOf_0f7a4_3 ?_
  refine V_iret C dJ0_indexOf_0f7a4_6 ?_
  exact ⟨rfl, rfl⟩
