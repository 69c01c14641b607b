/-! THE SMALL METHODS -/
abbrev g_in (v a b : Int32) : Prop := ¬ v < a ∧ ¬ b < v
abbrev g_in64 (v a b : Int64) : Prop := ¬ v < a ∧ ¬ b < v
set_option maxHeartbeats 4000000 in
set_option maxRecDepth 100000 in
theorem c_X7_isIn {KR : Nat → Bool} (σ : gS) (v a b : Int32) : g_Met yX7_isIn cX7_isIn 3 (some .boolean) 1 KR [.int v, .int a, .int b] σ (fun rv s => rv = some (.int (if g_in v a b then 1 else 0)) ∧ s = σ) := by
  refine g_Met.of (own := 7) (L := [some (.int v), some (.int a), some (.int b)]) (by decide) rfl rfl (fun ad => Nat.le_of_ble_eq_true rfl) (fun ad => rfl) (fun X G K C => ?_)
  refine V_blk C (pc' := 2) (σ' := σ) (L' := [some (.int v), some (.int a), some (.int b)]) (st' := [.int a, .int v]) (g_c dX7_isIn_0 (g_c dX7_isIn_1 g_n)) rfl rfl ?_
  refine V_icmp_lt C (tgt := 14) dX7_isIn_2 (by decide) (fun h2 => ?_) (fun h2 => ?_)
  · skip
    refine V_blk C (pc' := 15) (σ' := σ) (L' := [some (.int v), some (.int a), some (.int b)]) (st' := [.int 0]) (g_c dX7_isIn_14 g_n) rfl rfl ?_
    refine V_zret C (by decide) dX7_isIn_15 ?_
    first | exact ⟨rfl, rfl⟩ | exact ⟨by simp [g_in, *], rfl⟩
  · skip
    refine V_blk C (pc' := 7) (σ' := σ) (L' := [some (.int v), some (.int a), some (.int b)]) (st' := [.int b, .int v]) (g_c dX7_isIn_5 (g_c dX7_isIn_6 g_n)) rfl rfl ?_
    refine V_icmp_gt C (tgt := 14) dX7_isIn_7 (by decide) (fun h7 => ?_) (fun h7 => ?_)
    · skip
      refine V_blk C (pc' := 15) (σ' := σ) (L' := [some (.int v), some (.int a), some (.int b)]) (st' := [.int 0]) (g_c dX7_isIn_14 g_n) rfl rfl ?_
      refine V_zret C (by decide) dX7_isIn_15 ?_
      first | exact ⟨rfl, rfl⟩ | exact ⟨by simp [g_in, *], rfl⟩
    · skip
      refine V_blk C (pc' := 11) (σ' := σ) (L' := [some (.int v), some (.int a), some (.int b)]) (st' := [.int 1]) (g_c dX7_isIn_10 g_n) rfl rfl ?_
      refine V_goto C (tgt := 15) dX7_isIn_11 (by decide) ?_
      refine V_zret C (by decide) dX7_isIn_15 ?_
      first | exact ⟨rfl, rfl⟩ | exact ⟨by simp [g_in, *], rfl⟩
set_option maxHeartbeats 4000000 in
set_option maxRecDepth 100000 in
theorem c_X7_isHour {KR : Nat → Bool} (σ : gS) (v : Int32) : g_Met yX7_isHour cX7_isHour 1 (some .boolean) 2 KR [.int v] σ (fun rv s => rv = some (.int (if g_in v 0 23 then 1 else 0)) ∧ s = σ) := by
  refine g_Met.of (own := 7) (L := [some (.int v)]) (by decide) rfl rfl (fun ad => Nat.le_of_ble_eq_true rfl) (fun ad => rfl) (fun X G K C => ?_)
  refine V_blk C (pc' := 4) (σ' := σ) (L' := [some (.int v)]) (st' := [.int 23, .int 0, .int v]) (g_c dX7_isHour_0 (g_c dX7_isHour_1 (g_c dX7_isHour_2 g_n))) rfl rfl ?_
  refine V_callSI C cs_X7_85 (c_X7_isIn σ v 0 23) (by decide) (by decide) (fun _ h => h) (As := [.int v, .int 0, .int 23]) (rest := []) rfl rfl (Nat.le_of_ble_eq_true rfl) dX7_isHour_4 ?_
  refine V_zret C (by split <;> simp) dX7_isHour_7 ?_
  first | exact ⟨rfl, rfl⟩ | exact ⟨by simp [g_in, *], rfl⟩
set_option maxHeartbeats 4000000 in
set_option maxRecDepth 100000 in
theorem c_X7_isPlace {KR : Nat → Bool} (σ : gS) (v : Int32) : g_Met yX7_isPlace cX7_isPlace 1 (some .boolean) 2 KR [.int v] σ (fun rv s => rv = some (.int (if g_in v 0 7 then 1 else 0)) ∧ s = σ) := by
  refine g_Met.of (own := 7) (L := [some (.int v)]) (by decide) rfl rfl (fun ad => Nat.le_of_ble_eq_true rfl) (fun ad => rfl) (fun X G K C => ?_)
  refine V_blk C (pc' := 4) (σ' := σ) (L' := [some (.int v)]) (st' := [.int 7, .int 0, .int v]) (g_c dX7_isPlace_0 (g_c dX7_isPlace_1 (g_c dX7_isPlace_2 g_n))) rfl rfl ?_
  refine V_callSI C cs_X7_85 (c_X7_isIn σ v 0 7) (by decide) (by decide) (fun _ h => h) (As := [.int v, .int 0, .int 7]) (rest := []) rfl rfl (Nat.le_of_ble_eq_true rfl) dX7_isPlace_4 ?_
  refine V_zret C (by split <;> simp) dX7_isPlace_7 ?_
  first | exact ⟨rfl, rfl⟩ | exact ⟨by simp [g_in, *], rfl⟩
set_option maxHeartbeats 4000000 in
set_option maxRecDepth 100000 in
theorem c_X7_isSheet {KR : Nat → Bool} (σ : gS) (v : Int32) : g_Met yX7_isSheet cX7_isSheet 1 (some .boolean) 2 KR [.int v] σ (fun rv s => rv = some (.int (if g_in v 0 3 then 1 else 0)) ∧ s = σ) := by
  refine g_Met.of (own := 7) (L := [some (.int v)]) (by decide) rfl rfl (fun ad => Nat.le_of_ble_eq_true rfl) (fun ad => rfl) (fun X G K C => ?_)
  refine V_blk C (pc' := 3) (σ' := σ) (L' := [some (.int v)]) (st' := [.int 3, .int 0, .int v]) (g_c dX7_isSheet_0 (g_c dX7_isSheet_1 (g_c dX7_isSheet_2 g_n))) rfl rfl ?_
  refine V_callSI C cs_X7_85 (c_X7_isIn σ v 0 3) (by decide) (by decide) (fun _ h => h) (As := [.int v, .int 0, .int 3]) (rest := []) rfl rfl (Nat.le_of_ble_eq_true rfl) dX7_isSheet_3 ?_
  refine V_zret C (by split <;> simp) dX7_isSheet_6 ?_
  first | exact ⟨rfl, rfl⟩ | exact ⟨by simp [g_in, *], rfl⟩
set_option maxHeartbeats 4000000 in
set_option maxRecDepth 100000 in
theorem c_X7_isDrip (σ : gS) (v : Int32) : g_Met yX7_isDrip cX7_isDrip 2 (some .boolean) 2 kX [.ref 0, .int v] σ (fun rv s => rv = some (.int (if g_in v 0 (σ 1 8 - 1) then 1 else 0)) ∧ s = σ) := by
  refine g_Met.of (own := 7) (L := [some (.ref 0), some (.int v)]) (by decide) rfl rfl (fun ad => Nat.le_of_ble_eq_true rfl) (fun ad => rfl) (fun X G K C => ?_)
  refine V_blk C (pc' := 11) (σ' := σ) (L' := [some (.ref 0), some (.int v)]) (st' := [.int ((σ 1 8) - 1), .int 0, .int v]) (g_c dX7_isDrip_0 (g_c dX7_isDrip_1 (g_c dX7_isDrip_2 (g_c dX7_isDrip_3 (g_c dX7_isDrip_6 (g_c dX7_isDrip_9 (g_c dX7_isDrip_10 g_n))))))) rfl rfl ?_
  refine V_callSI C cs_X7_85 (c_X7_isIn σ v 0 ((σ 1 8) - 1)) (by decide) (by decide) (fun _ h => h) (As := [.int v, .int 0, .int ((σ 1 8) - 1)]) (rest := []) rfl rfl (Nat.le_of_ble_eq_true rfl) dX7_isDrip_11 ?_
  refine V_zret C (by split <;> simp) dX7_isDrip_14 ?_
  first | exact ⟨rfl, rfl⟩ | exact ⟨by simp [g_in, *], rfl⟩
set_option maxHeartbeats 4000000 in
set_option maxRecDepth 100000 in
theorem c_X7_isVessel (σ : gS) (v : Int32) : g_Met yX7_isVessel cX7_isVessel 2 (some .boolean) 2 kX [.ref 0, .int v] σ (fun rv s => rv = some (.int (if g_in v 0 (σ 1 9 - 1) then 1 else 0)) ∧ s = σ) := by
  refine g_Met.of (own := 7) (L := [some (.ref 0), some (.int v)]) (by decide) rfl rfl (fun ad => Nat.le_of_ble_eq_true rfl) (fun ad => rfl) (fun X G K C => ?_)
  refine V_blk C (pc' := 11) (σ' := σ) (L' := [some (.ref 0), some (.int v)]) (st' := [.int ((σ 1 9) - 1), .int 0, .int v]) (g_c dX7_isVessel_0 (g_c dX7_isVessel_1 (g_c dX7_isVessel_2 (g_c dX7_isVessel_3 (g_c dX7_isVessel_6 (g_c dX7_isVessel_9 (g_c dX7_isVessel_10 g_n))))))) rfl rfl ?_
  refine V_callSI C cs_X7_85 (c_X7_isIn σ v 0 ((σ 1 9) - 1)) (by decide) (by decide) (fun _ h => h) (As := [.int v, .int 0, .int ((σ 1 9) - 1)]) (rest := []) rfl rfl (Nat.le_of_ble_eq_true rfl) dX7_isVessel_11 ?_
  refine V_zret C (by split <;> simp) dX7_isVessel_14 ?_
  first | exact ⟨rfl, rfl⟩ | exact ⟨by simp [g_in, *], rfl⟩
set_option maxHeartbeats 4000000 in
set_option maxRecDepth 100000 in
theorem c_X7_costOf {KR : Nat → Bool} (σ : gS) (b : Int64) : g_Met yX7_costOf cX7_costOf 2 (some .int) 1 KR [.long b] σ (fun rv s => rv = some (.int (Int64.toInt32 (b >>> (Int32.toInt64 32 &&& 63)))) ∧ s = σ) := by
  refine g_Met.of (own := 7) (L := [some (.long b), none]) (by decide) rfl rfl (fun ad => Nat.le_of_ble_eq_true rfl) (fun ad => rfl) (fun X G K C => ?_)
  refine V_blk C (pc' := 5) (σ' := σ) (L' := [some (.long b), none]) (st' := [.int (Int64.toInt32 (b >>> (Int32.toInt64 32 &&& 63)))]) (g_c dX7_costOf_0 (g_c dX7_costOf_1 (g_c dX7_costOf_3 (g_c dX7_costOf_4 g_n)))) rfl rfl ?_
  refine V_iret C dX7_costOf_5 ?_
  exact ⟨rfl, rfl⟩
set_option maxHeartbeats 4000000 in
set_option maxRecDepth 100000 in
theorem c_X7_choiceOf {KR : Nat → Bool} (σ : gS) (b : Int64) : g_Met yX7_choiceOf cX7_choiceOf 2 (some .int) 1 KR [.long b] σ (fun rv s => rv = some (.int (Int64.toInt32 b)) ∧ s = σ) := by
  refine g_Met.of (own := 7) (L := [some (.long b), none]) (by decide) rfl rfl (fun ad => Nat.le_of_ble_eq_true rfl) (fun ad => rfl) (fun X G K C => ?_)
  refine V_blk C (pc' := 2) (σ' := σ) (L' := [some (.long b), none]) (st' := [.int (Int64.toInt32 b)]) (g_c dX7_choiceOf_0 (g_c dX7_choiceOf_1 g_n)) rfl rfl ?_
  refine V_iret C dX7_choiceOf_2 ?_
  exact ⟨rfl, rfl⟩
set_option maxHeartbeats 4000000 in
set_option maxRecDepth 100000 in
theorem c_X8_in {KR : Nat → Bool} (σ : gS) (v a b : Int64) : g_Met yX8_in cX8_in 6 (some .boolean) 1 KR [.long v, .long a, .long b] σ (fun rv s => rv = some (.int (if g_in64 v a b then 1 else 0)) ∧ s = σ) := by
  refine g_Met.of (own := 8) (L := [some (.long v), none, some (.long a), none, some (.long b), none]) (by decide) rfl rfl (fun ad => Nat.le_of_ble_eq_true rfl) (fun ad => rfl) (fun X G K C => ?_)
  refine V_blk C (pc' := 2) (σ' := σ) (L' := [some (.long v), none, some (.long a), none, some (.long b), none]) (st' := [.long a, .long v]) (g_c dX8_in_0 (g_c dX8_in_1 g_n)) rfl rfl ?_
  refine V_lcmp_lt C (tgt := 17) dX8_in_2 dX8_in_3 (by decide) (fun h2 => ?_) (fun h2 => ?_)
  · skip
    refine V_blk C (pc' := 18) (σ' := σ) (L' := [some (.long v), none, some (.long a), none, some (.long b), none]) (st' := [.int 0]) (g_c dX8_in_17 g_n) rfl rfl ?_
    refine V_zret C (by decide) dX8_in_18 ?_
    first | exact ⟨rfl, rfl⟩ | exact ⟨by simp [g_in64, *], rfl⟩
  · skip
    refine V_blk C (pc' := 9) (σ' := σ) (L' := [some (.long v), none, some (.long a), none, some (.long b), none]) (st' := [.long b, .long v]) (g_c dX8_in_6 (g_c dX8_in_7 g_n)) rfl rfl ?_
    refine V_lcmp_gt C (tgt := 17) dX8_in_9 dX8_in_10 (by decide) (fun h9 => ?_) (fun h9 => ?_)
    · skip
      refine V_blk C (pc' := 18) (σ' := σ) (L' := [some (.long v), none, some (.long a), none, some (.long b), none]) (st' := [.int 0]) (g_c dX8_in_17 g_n) rfl rfl ?_
      refine V_zret C (by decide) dX8_in_18 ?_
      first | exact ⟨rfl, rfl⟩ | exact ⟨by simp [g_in64, *], rfl⟩
    · skip
      refine V_blk C (pc' := 14) (σ' := σ) (L' := [some (.long v), none, some (.long a), none, some (.long b), none]) (st' := [.int 1]) (g_c dX8_in_13 g_n) rfl rfl ?_
      refine V_goto C (tgt := 18) dX8_in_14 (by decide) ?_
      refine V_zret C (by decide) dX8_in_18 ?_
      first | exact ⟨rfl, rfl⟩ | exact ⟨by simp [g_in64, *], rfl⟩
set_option maxHeartbeats 4000000 in
set_option maxRecDepth 100000 in
theorem c_X8_within {KR : Nat → Bool} (σ : gS) (v a b : Int32) : g_Met yX8_within cX8_within 3 (some .int) 1 KR [.int v, .int a, .int b] σ (fun rv s => rv = some (.int (if v < a then a else if b < v then b else v)) ∧ s = σ) := by
  refine g_Met.of (own := 8) (L := [some (.int v), some (.int a), some (.int b)]) (by decide) rfl rfl (fun ad => Nat.le_of_ble_eq_true rfl) (fun ad => rfl) (fun X G K C => ?_)
  refine V_blk C (pc' := 2) (σ' := σ) (L' := [some (.int v), some (.int a), some (.int b)]) (st' := [.int a, .int v]) (g_c dX8_within_0 (g_c dX8_within_1 g_n)) rfl rfl ?_
  refine V_icmp_ge2 C (tgt := 9) dX8_within_2 (by decide) (fun h2 => ?_) (fun h2 => ?_)
  · skip
    refine V_blk C (pc' := 11) (σ' := σ) (L' := [some (.int v), some (.int a), some (.int b)]) (st' := [.int b, .int v]) (g_c dX8_within_9 (g_c dX8_within_10 g_n)) rfl rfl ?_
    refine V_icmp_le2 C (tgt := 18) dX8_within_11 (by decide) (fun h11 => ?_) (fun h11 => ?_)
    · skip
      refine V_blk C (pc' := 19) (σ' := σ) (L' := [some (.int v), some (.int a), some (.int b)]) (st' := [.int v]) (g_c dX8_within_18 g_n) rfl rfl ?_
      refine V_iret C dX8_within_19 ?_
      first | exact ⟨rfl, rfl⟩ | exact ⟨by simp [g_in, *], rfl⟩
    · skip
      refine V_blk C (pc' := 15) (σ' := σ) (L' := [some (.int v), some (.int a), some (.int b)]) (st' := [.int b]) (g_c dX8_within_14 g_n) rfl rfl ?_
      refine V_goto C (tgt := 19) dX8_within_15 (by decide) ?_
      refine V_iret C dX8_within_19 ?_
      first | exact ⟨rfl, rfl⟩ | exact ⟨by simp [g_in, *], rfl⟩
  · skip
    refine V_blk C (pc' := 6) (σ' := σ) (L' := [some (.int v), some (.int a), some (.int b)]) (st' := [.int a]) (g_c dX8_within_5 g_n) rfl rfl ?_
    refine V_goto C (tgt := 19) dX8_within_6 (by decide) ?_
    refine V_iret C dX8_within_19 ?_
    first | exact ⟨rfl, rfl⟩ | exact ⟨by simp [g_in, *], rfl⟩
