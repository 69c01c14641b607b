/-! SET, DRIP, VESSEL, FILL, TOLD, FEED, FORCE, COUNT, CELL -/
abbrev ix (i : Int32) : Nat := i.toNatClampNeg
theorem g_in64_iff {v a b : Int32} : g_in64 v.toInt64 a.toInt64 b.toInt64 ↔ g_in v a b := by
  simp only [g_in64, g_in, Int64.lt_iff_toInt_lt, Int32.lt_iff_toInt_lt, Int32.toInt_toInt64]
theorem c_X8_in32 {KR : Nat → Bool} (σ : gS) (v a b : Int32) {A B : Int64} (hA : A = a.toInt64) (hB : B = b.toInt64) : g_Met yX8_in cX8_in 6 (some .boolean) 1 KR [.long v.toInt64, .long A, .long B] σ (fun rv s => rv = some (.int (if g_in v a b then 1 else 0)) ∧ s = σ) := by
  subst hA hB
  have h := c_X8_in (KR := KR) σ v.toInt64 a.toInt64 b.toInt64
  simp only [g_in64_iff] at h
  exact h
theorem g_in_toInt {v a b : Int32} : g_in v a b ↔ a.toInt ≤ v.toInt ∧ v.toInt ≤ b.toInt := by
  simp only [g_in, Int32.lt_iff_toInt_lt]
  omega
theorem g_nIp {n : Nat} (hn : n ≤ 1000000) : (nI n - 1).toInt = (n : Int) - 1 := by
  have h := pk_sub_toInt (a := n) (b := 1) (by omega) (by decide)
  exact h
theorem g_vp {i x : Int32} {n N : Nat} (h : g_in i 0 (x - 1)) (hx : x = nI n) (hn : n ≤ N) (hN : N ≤ 1000000) : vp_in i N := by
  subst hx
  rw [g_in_toInt, g_nIp (by omega)] at h
  rw [vp_in_iff]
  have h0 : (0 : Int32).toInt = 0 := rfl
  omega
theorem g_vpc {i M : Int32} {N : Nat} (h : g_in i 0 M) (hM : M.toInt + 1 ≤ (N : Int)) : vp_in i N := by
  rw [g_in_toInt] at h
  rw [vp_in_iff]
  have h0 : (0 : Int32).toInt = 0 := rfl
  omega
theorem g_tso2 {x : Int32} {lo hi : Int} {a b : Int32} (h : ¬ g_in x a b) (ha : a.toInt = lo) (hb : b.toInt = hi) : x.toInt < lo ∨ hi < x.toInt := by
  rw [g_in_toInt] at h
  omega
theorem g_in_vp {i M : Int32} {N : Nat} (h : vp_in i N) (hM : (N : Int) ≤ M.toInt + 1) : g_in i 0 M := by
  rw [g_in_toInt]
  rw [vp_in_iff] at h
  have h0 : (0 : Int32).toInt = 0 := rfl
  omega
set_option maxHeartbeats 4000000 in
set_option maxRecDepth 100000 in
theorem c_X8_isHour {KR : Nat → Bool} (σ : gS) (v : Int32) : g_Met yX8_isHour cX8_isHour 1 (some .boolean) 2 KR [.int v] σ (fun rv s => rv = some (.int (if g_in v 0 23 then 1 else 0)) ∧ s = σ) := by
  refine g_Met.of (own := 8) (L := [some (.int v)]) (by decide) rfl rfl (fun ad => Nat.le_of_ble_eq_true rfl) (fun ad => rfl) (fun X G K C => ?_)
  refine V_blk C (pc' := 6) (σ' := σ) (L' := [some (.int v)]) (st' := [.long 23, .long 0, .long (Int32.toInt64 v)]) (g_c dX8_isHour_0 (g_c dX8_isHour_1 (g_c dX8_isHour_2 (g_c dX8_isHour_3 g_n)))) rfl rfl ?_
  refine V_callSI C cs_X8_110 (c_X8_in32 σ v 0 23 (by decide) (by decide)) (by decide) (by decide) (fun _ h => h) (As := [.long (Int32.toInt64 v), .long 0, .long 23]) (rest := []) rfl rfl (by decide) dX8_isHour_6 ?_
  refine V_zret C (by split <;> simp) dX8_isHour_9 ?_
  first | exact ⟨rfl, rfl⟩ | exact ⟨by simp [g_in, *], rfl⟩
set_option maxHeartbeats 4000000 in
set_option maxRecDepth 100000 in
theorem c_X8_isPlace {KR : Nat → Bool} (σ : gS) (v : Int32) : g_Met yX8_isPlace cX8_isPlace 1 (some .boolean) 2 KR [.int v] σ (fun rv s => rv = some (.int (if g_in v 0 7 then 1 else 0)) ∧ s = σ) := by
  refine g_Met.of (own := 8) (L := [some (.int v)]) (by decide) rfl rfl (fun ad => Nat.le_of_ble_eq_true rfl) (fun ad => rfl) (fun X G K C => ?_)
  refine V_blk C (pc' := 6) (σ' := σ) (L' := [some (.int v)]) (st' := [.long 7, .long 0, .long (Int32.toInt64 v)]) (g_c dX8_isPlace_0 (g_c dX8_isPlace_1 (g_c dX8_isPlace_2 (g_c dX8_isPlace_3 g_n)))) rfl rfl ?_
  refine V_callSI C cs_X8_110 (c_X8_in32 σ v 0 7 (by decide) (by decide)) (by decide) (by decide) (fun _ h => h) (As := [.long (Int32.toInt64 v), .long 0, .long 7]) (rest := []) rfl rfl (by decide) dX8_isPlace_6 ?_
  refine V_zret C (by split <;> simp) dX8_isPlace_9 ?_
  first | exact ⟨rfl, rfl⟩ | exact ⟨by simp [g_in, *], rfl⟩
set_option maxHeartbeats 4000000 in
set_option maxRecDepth 100000 in
theorem c_X8_isSheet {KR : Nat → Bool} (σ : gS) (v : Int32) : g_Met yX8_isSheet cX8_isSheet 1 (some .boolean) 2 KR [.int v] σ (fun rv s => rv = some (.int (if g_in v 0 3 then 1 else 0)) ∧ s = σ) := by
  refine g_Met.of (own := 8) (L := [some (.int v)]) (by decide) rfl rfl (fun ad => Nat.le_of_ble_eq_true rfl) (fun ad => rfl) (fun X G K C => ?_)
  refine V_blk C (pc' := 6) (σ' := σ) (L' := [some (.int v)]) (st' := [.long 3, .long 0, .long (Int32.toInt64 v)]) (g_c dX8_isSheet_0 (g_c dX8_isSheet_1 (g_c dX8_isSheet_2 (g_c dX8_isSheet_3 g_n)))) rfl rfl ?_
  refine V_callSI C cs_X8_110 (c_X8_in32 σ v 0 3 (by decide) (by decide)) (by decide) (by decide) (fun _ h => h) (As := [.long (Int32.toInt64 v), .long 0, .long 3]) (rest := []) rfl rfl (by decide) dX8_isSheet_6 ?_
  refine V_zret C (by split <;> simp) dX8_isSheet_9 ?_
  first | exact ⟨rfl, rfl⟩ | exact ⟨by simp [g_in, *], rfl⟩
set_option maxHeartbeats 4000000 in
set_option maxRecDepth 100000 in
theorem c_X8_isDrip (σ : gS) (v : Int32) : g_Met yX8_isDrip cX8_isDrip 2 (some .boolean) 2 kM [.ref 63, .int v] σ (fun rv s => rv = some (.int (if g_in v 0 (σ 63 15 - 1) then 1 else 0)) ∧ s = σ) := by
  refine g_Met.of (own := 8) (L := [some (.ref 63), some (.int v)]) (by decide) rfl rfl (fun ad => Nat.le_of_ble_eq_true rfl) (fun ad => rfl) (fun X G K C => ?_)
  refine V_blk C (pc' := 10) (σ' := σ) (L' := [some (.ref 63), some (.int v)]) (st' := [.long (Int32.toInt64 ((σ 63 15) - 1)), .long 0, .long (Int32.toInt64 v)]) (g_c dX8_isDrip_0 (g_c dX8_isDrip_1 (g_c dX8_isDrip_2 (g_c dX8_isDrip_3 (g_c dX8_isDrip_4 (g_c dX8_isDrip_7 (g_c dX8_isDrip_8 (g_c dX8_isDrip_9 g_n)))))))) rfl rfl ?_
  refine V_callSI C cs_X8_110 (c_X8_in32 σ v 0 ((σ 63 15) - 1) (by decide) rfl) (by decide) (by decide) (fun _ h => h) (As := [.long (Int32.toInt64 v), .long 0, .long (Int32.toInt64 ((σ 63 15) - 1))]) (rest := []) rfl rfl (by decide) dX8_isDrip_10 ?_
  refine V_zret C (by split <;> simp) dX8_isDrip_13 ?_
  first | exact ⟨rfl, rfl⟩ | exact ⟨by simp [g_in, *], rfl⟩
set_option maxHeartbeats 4000000 in
set_option maxRecDepth 100000 in
theorem c_X8_isVessel (σ : gS) (v : Int32) : g_Met yX8_isVessel cX8_isVessel 2 (some .boolean) 2 kM [.ref 63, .int v] σ (fun rv s => rv = some (.int (if g_in v 0 (σ 63 19 - 1) then 1 else 0)) ∧ s = σ) := by
  refine g_Met.of (own := 8) (L := [some (.ref 63), some (.int v)]) (by decide) rfl rfl (fun ad => Nat.le_of_ble_eq_true rfl) (fun ad => rfl) (fun X G K C => ?_)
  refine V_blk C (pc' := 10) (σ' := σ) (L' := [some (.ref 63), some (.int v)]) (st' := [.long (Int32.toInt64 ((σ 63 19) - 1)), .long 0, .long (Int32.toInt64 v)]) (g_c dX8_isVessel_0 (g_c dX8_isVessel_1 (g_c dX8_isVessel_2 (g_c dX8_isVessel_3 (g_c dX8_isVessel_4 (g_c dX8_isVessel_7 (g_c dX8_isVessel_8 (g_c dX8_isVessel_9 g_n)))))))) rfl rfl ?_
  refine V_callSI C cs_X8_110 (c_X8_in32 σ v 0 ((σ 63 19) - 1) (by decide) rfl) (by decide) (by decide) (fun _ h => h) (As := [.long (Int32.toInt64 v), .long 0, .long (Int32.toInt64 ((σ 63 19) - 1))]) (rest := []) rfl rfl (by decide) dX8_isVessel_10 ?_
  refine V_zret C (by split <;> simp) dX8_isVessel_13 ?_
  first | exact ⟨rfl, rfl⟩ | exact ⟨by simp [g_in, *], rfl⟩
set_option maxHeartbeats 4000000 in
set_option maxRecDepth 100000 in
theorem c_X7_swapped_2 (σ : gS) (i v : Int32) (hi : vp_in i 24) : g_Met yX7_swapped cX7_swapped 4 (some .int) 2 kX [.ref 2, .int i, .int v] σ (fun rv s => rv = some (.int (σ 2 (ix i))) ∧ s = g_up σ 2 (ix i) v) := by
  refine g_Met.of (own := 7) (L := [some (.ref 2), some (.int i), some (.int v), none]) (by decide) rfl rfl (fun ad => Nat.le_of_ble_eq_true rfl) (fun ad => rfl) (fun X G K C => ?_)
  refine V_blk C (pc' := 3) (σ' := σ) (L' := [some (.ref 2), some (.int i), some (.int v), none]) (st' := [.ref 2, .int 0, .int i]) (g_c dX7_swapped_0 (g_c dX7_swapped_1 (g_c dX7_swapped_2 g_n))) rfl rfl ?_
  refine V_alen C (k := 2) (n := 24) (v := 24) (by rfl) (by rfl) (by decide) dX7_swapped_3 ?_
  refine V_blk C (pc' := 6) (σ' := σ) (L' := [some (.ref 2), some (.int i), some (.int v), none]) (st' := [.int (24 - 1), .int 0, .int i]) (g_c dX7_swapped_4 (g_c dX7_swapped_5 g_n)) rfl rfl ?_
  refine V_callSI C cs_X7_87 (c_X7_isIn σ i 0 (24 - 1)) (by decide) (by decide) (fun _ h => h) (As := [.int i, .int 0, .int (24 - 1)]) (rest := []) rfl rfl (by decide) dX7_swapped_6 ?_
  refine V_if_ne_b C (tgt := 15) dX7_swapped_9 (by decide) (fun h9 => ?_) (fun h9 => absurd (g_in_vp hi (by decide)) h9)
  refine V_blk C (pc' := 17) (σ' := σ) (L' := [some (.ref 2), some (.int i), some (.int v), none]) (st' := [.int i, .ref 2]) (g_c dX7_swapped_15 (g_c dX7_swapped_16 g_n)) rfl rfl ?_
  refine V_iald C (k := 2) (n := 24) (by rfl) (by rfl) hi dX7_swapped_17 ?_
  refine V_blk C (pc' := 22) (σ' := σ) (L' := [some (.ref 2), some (.int i), some (.int v), some (.int (σ 2 (Int32.toNatClampNeg i)))]) (st' := [.int v, .int i, .ref 2]) (g_c dX7_swapped_18 (g_c dX7_swapped_19 (g_c dX7_swapped_20 (g_c dX7_swapped_21 g_n)))) rfl rfl ?_
  refine V_iast C (k := 2) (n := 24) (by rfl) (by rfl) hi dX7_swapped_22 ?_
  refine V_blk C (pc' := 24) (σ' := (g_up σ 2 (Int32.toNatClampNeg i) v)) (L' := [some (.ref 2), some (.int i), some (.int v), some (.int (σ 2 (Int32.toNatClampNeg i)))]) (st' := [.int (σ 2 (Int32.toNatClampNeg i))]) (g_c dX7_swapped_23 g_n) rfl rfl ?_
  refine V_iret C dX7_swapped_24 ?_
  exact ⟨rfl, rfl⟩
set_option maxHeartbeats 4000000 in
set_option maxRecDepth 100000 in
theorem c_X7_swapped_4 (σ : gS) (i v : Int32) (hi : vp_in i 6) : g_Met yX7_swapped cX7_swapped 4 (some .int) 2 kX [.ref 4, .int i, .int v] σ (fun rv s => rv = some (.int (σ 4 (ix i))) ∧ s = g_up σ 4 (ix i) v) := by
  refine g_Met.of (own := 7) (L := [some (.ref 4), some (.int i), some (.int v), none]) (by decide) rfl rfl (fun ad => Nat.le_of_ble_eq_true rfl) (fun ad => rfl) (fun X G K C => ?_)
  refine V_blk C (pc' := 3) (σ' := σ) (L' := [some (.ref 4), some (.int i), some (.int v), none]) (st' := [.ref 4, .int 0, .int i]) (g_c dX7_swapped_0 (g_c dX7_swapped_1 (g_c dX7_swapped_2 g_n))) rfl rfl ?_
  refine V_alen C (k := 4) (n := 6) (v := 6) (by rfl) (by rfl) (by decide) dX7_swapped_3 ?_
  refine V_blk C (pc' := 6) (σ' := σ) (L' := [some (.ref 4), some (.int i), some (.int v), none]) (st' := [.int (6 - 1), .int 0, .int i]) (g_c dX7_swapped_4 (g_c dX7_swapped_5 g_n)) rfl rfl ?_
  refine V_callSI C cs_X7_87 (c_X7_isIn σ i 0 (6 - 1)) (by decide) (by decide) (fun _ h => h) (As := [.int i, .int 0, .int (6 - 1)]) (rest := []) rfl rfl (by decide) dX7_swapped_6 ?_
  refine V_if_ne_b C (tgt := 15) dX7_swapped_9 (by decide) (fun h9 => ?_) (fun h9 => absurd (g_in_vp hi (by decide)) h9)
  refine V_blk C (pc' := 17) (σ' := σ) (L' := [some (.ref 4), some (.int i), some (.int v), none]) (st' := [.int i, .ref 4]) (g_c dX7_swapped_15 (g_c dX7_swapped_16 g_n)) rfl rfl ?_
  refine V_iald C (k := 4) (n := 6) (by rfl) (by rfl) hi dX7_swapped_17 ?_
  refine V_blk C (pc' := 22) (σ' := σ) (L' := [some (.ref 4), some (.int i), some (.int v), some (.int (σ 4 (Int32.toNatClampNeg i)))]) (st' := [.int v, .int i, .ref 4]) (g_c dX7_swapped_18 (g_c dX7_swapped_19 (g_c dX7_swapped_20 (g_c dX7_swapped_21 g_n)))) rfl rfl ?_
  refine V_iast C (k := 4) (n := 6) (by rfl) (by rfl) hi dX7_swapped_22 ?_
  refine V_blk C (pc' := 24) (σ' := (g_up σ 4 (Int32.toNatClampNeg i) v)) (L' := [some (.ref 4), some (.int i), some (.int v), some (.int (σ 4 (Int32.toNatClampNeg i)))]) (st' := [.int (σ 4 (Int32.toNatClampNeg i))]) (g_c dX7_swapped_23 g_n) rfl rfl ?_
  refine V_iret C dX7_swapped_24 ?_
  exact ⟨rfl, rfl⟩
set_option maxHeartbeats 4000000 in
set_option maxRecDepth 100000 in
theorem c_X7_swapped_5 (σ : gS) (i v : Int32) (hi : vp_in i 6) : g_Met yX7_swapped cX7_swapped 4 (some .int) 2 kX [.ref 5, .int i, .int v] σ (fun rv s => rv = some (.int (σ 5 (ix i))) ∧ s = g_up σ 5 (ix i) v) := by
  refine g_Met.of (own := 7) (L := [some (.ref 5), some (.int i), some (.int v), none]) (by decide) rfl rfl (fun ad => Nat.le_of_ble_eq_true rfl) (fun ad => rfl) (fun X G K C => ?_)
  refine V_blk C (pc' := 3) (σ' := σ) (L' := [some (.ref 5), some (.int i), some (.int v), none]) (st' := [.ref 5, .int 0, .int i]) (g_c dX7_swapped_0 (g_c dX7_swapped_1 (g_c dX7_swapped_2 g_n))) rfl rfl ?_
  refine V_alen C (k := 5) (n := 6) (v := 6) (by rfl) (by rfl) (by decide) dX7_swapped_3 ?_
  refine V_blk C (pc' := 6) (σ' := σ) (L' := [some (.ref 5), some (.int i), some (.int v), none]) (st' := [.int (6 - 1), .int 0, .int i]) (g_c dX7_swapped_4 (g_c dX7_swapped_5 g_n)) rfl rfl ?_
  refine V_callSI C cs_X7_87 (c_X7_isIn σ i 0 (6 - 1)) (by decide) (by decide) (fun _ h => h) (As := [.int i, .int 0, .int (6 - 1)]) (rest := []) rfl rfl (by decide) dX7_swapped_6 ?_
  refine V_if_ne_b C (tgt := 15) dX7_swapped_9 (by decide) (fun h9 => ?_) (fun h9 => absurd (g_in_vp hi (by decide)) h9)
  refine V_blk C (pc' := 17) (σ' := σ) (L' := [some (.ref 5), some (.int i), some (.int v), none]) (st' := [.int i, .ref 5]) (g_c dX7_swapped_15 (g_c dX7_swapped_16 g_n)) rfl rfl ?_
  refine V_iald C (k := 5) (n := 6) (by rfl) (by rfl) hi dX7_swapped_17 ?_
  refine V_blk C (pc' := 22) (σ' := σ) (L' := [some (.ref 5), some (.int i), some (.int v), some (.int (σ 5 (Int32.toNatClampNeg i)))]) (st' := [.int v, .int i, .ref 5]) (g_c dX7_swapped_18 (g_c dX7_swapped_19 (g_c dX7_swapped_20 (g_c dX7_swapped_21 g_n)))) rfl rfl ?_
  refine V_iast C (k := 5) (n := 6) (by rfl) (by rfl) hi dX7_swapped_22 ?_
  refine V_blk C (pc' := 24) (σ' := (g_up σ 5 (Int32.toNatClampNeg i) v)) (L' := [some (.ref 5), some (.int i), some (.int v), some (.int (σ 5 (Int32.toNatClampNeg i)))]) (st' := [.int (σ 5 (Int32.toNatClampNeg i))]) (g_c dX7_swapped_23 g_n) rfl rfl ?_
  refine V_iret C dX7_swapped_24 ?_
  exact ⟨rfl, rfl⟩
set_option maxHeartbeats 4000000 in
set_option maxRecDepth 100000 in
theorem c_X7_swapped_6 (σ : gS) (i v : Int32) (hi : vp_in i 6) : g_Met yX7_swapped cX7_swapped 4 (some .int) 2 kX [.ref 6, .int i, .int v] σ (fun rv s => rv = some (.int (σ 6 (ix i))) ∧ s = g_up σ 6 (ix i) v) := by
  refine g_Met.of (own := 7) (L := [some (.ref 6), some (.int i), some (.int v), none]) (by decide) rfl rfl (fun ad => Nat.le_of_ble_eq_true rfl) (fun ad => rfl) (fun X G K C => ?_)
  refine V_blk C (pc' := 3) (σ' := σ) (L' := [some (.ref 6), some (.int i), some (.int v), none]) (st' := [.ref 6, .int 0, .int i]) (g_c dX7_swapped_0 (g_c dX7_swapped_1 (g_c dX7_swapped_2 g_n))) rfl rfl ?_
  refine V_alen C (k := 6) (n := 6) (v := 6) (by rfl) (by rfl) (by decide) dX7_swapped_3 ?_
  refine V_blk C (pc' := 6) (σ' := σ) (L' := [some (.ref 6), some (.int i), some (.int v), none]) (st' := [.int (6 - 1), .int 0, .int i]) (g_c dX7_swapped_4 (g_c dX7_swapped_5 g_n)) rfl rfl ?_
  refine V_callSI C cs_X7_87 (c_X7_isIn σ i 0 (6 - 1)) (by decide) (by decide) (fun _ h => h) (As := [.int i, .int 0, .int (6 - 1)]) (rest := []) rfl rfl (by decide) dX7_swapped_6 ?_
  refine V_if_ne_b C (tgt := 15) dX7_swapped_9 (by decide) (fun h9 => ?_) (fun h9 => absurd (g_in_vp hi (by decide)) h9)
  refine V_blk C (pc' := 17) (σ' := σ) (L' := [some (.ref 6), some (.int i), some (.int v), none]) (st' := [.int i, .ref 6]) (g_c dX7_swapped_15 (g_c dX7_swapped_16 g_n)) rfl rfl ?_
  refine V_iald C (k := 6) (n := 6) (by rfl) (by rfl) hi dX7_swapped_17 ?_
  refine V_blk C (pc' := 22) (σ' := σ) (L' := [some (.ref 6), some (.int i), some (.int v), some (.int (σ 6 (Int32.toNatClampNeg i)))]) (st' := [.int v, .int i, .ref 6]) (g_c dX7_swapped_18 (g_c dX7_swapped_19 (g_c dX7_swapped_20 (g_c dX7_swapped_21 g_n)))) rfl rfl ?_
  refine V_iast C (k := 6) (n := 6) (by rfl) (by rfl) hi dX7_swapped_22 ?_
  refine V_blk C (pc' := 24) (σ' := (g_up σ 6 (Int32.toNatClampNeg i) v)) (L' := [some (.ref 6), some (.int i), some (.int v), some (.int (σ 6 (Int32.toNatClampNeg i)))]) (st' := [.int (σ 6 (Int32.toNatClampNeg i))]) (g_c dX7_swapped_23 g_n) rfl rfl ?_
  refine V_iret C dX7_swapped_24 ?_
  exact ⟨rfl, rfl⟩
set_option maxHeartbeats 4000000 in
set_option maxRecDepth 100000 in
theorem c_X7_swapped_8 (σ : gS) (i v : Int32) (hi : vp_in i 5) : g_Met yX7_swapped cX7_swapped 4 (some .int) 2 kX [.ref 8, .int i, .int v] σ (fun rv s => rv = some (.int (σ 8 (ix i))) ∧ s = g_up σ 8 (ix i) v) := by
  refine g_Met.of (own := 7) (L := [some (.ref 8), some (.int i), some (.int v), none]) (by decide) rfl rfl (fun ad => Nat.le_of_ble_eq_true rfl) (fun ad => rfl) (fun X G K C => ?_)
  refine V_blk C (pc' := 3) (σ' := σ) (L' := [some (.ref 8), some (.int i), some (.int v), none]) (st' := [.ref 8, .int 0, .int i]) (g_c dX7_swapped_0 (g_c dX7_swapped_1 (g_c dX7_swapped_2 g_n))) rfl rfl ?_
  refine V_alen C (k := 8) (n := 5) (v := 5) (by rfl) (by rfl) (by decide) dX7_swapped_3 ?_
  refine V_blk C (pc' := 6) (σ' := σ) (L' := [some (.ref 8), some (.int i), some (.int v), none]) (st' := [.int (5 - 1), .int 0, .int i]) (g_c dX7_swapped_4 (g_c dX7_swapped_5 g_n)) rfl rfl ?_
  refine V_callSI C cs_X7_87 (c_X7_isIn σ i 0 (5 - 1)) (by decide) (by decide) (fun _ h => h) (As := [.int i, .int 0, .int (5 - 1)]) (rest := []) rfl rfl (by decide) dX7_swapped_6 ?_
  refine V_if_ne_b C (tgt := 15) dX7_swapped_9 (by decide) (fun h9 => ?_) (fun h9 => absurd (g_in_vp hi (by decide)) h9)
  refine V_blk C (pc' := 17) (σ' := σ) (L' := [some (.ref 8), some (.int i), some (.int v), none]) (st' := [.int i, .ref 8]) (g_c dX7_swapped_15 (g_c dX7_swapped_16 g_n)) rfl rfl ?_
  refine V_iald C (k := 8) (n := 5) (by rfl) (by rfl) hi dX7_swapped_17 ?_
  refine V_blk C (pc' := 22) (σ' := σ) (L' := [some (.ref 8), some (.int i), some (.int v), some (.int (σ 8 (Int32.toNatClampNeg i)))]) (st' := [.int v, .int i, .ref 8]) (g_c dX7_swapped_18 (g_c dX7_swapped_19 (g_c dX7_swapped_20 (g_c dX7_swapped_21 g_n)))) rfl rfl ?_
  refine V_iast C (k := 8) (n := 5) (by rfl) (by rfl) hi dX7_swapped_22 ?_
  refine V_blk C (pc' := 24) (σ' := (g_up σ 8 (Int32.toNatClampNeg i) v)) (L' := [some (.ref 8), some (.int i), some (.int v), some (.int (σ 8 (Int32.toNatClampNeg i)))]) (st' := [.int (σ 8 (Int32.toNatClampNeg i))]) (g_c dX7_swapped_23 g_n) rfl rfl ?_
  refine V_iret C dX7_swapped_24 ?_
  exact ⟨rfl, rfl⟩
set_option maxHeartbeats 4000000 in
set_option maxRecDepth 100000 in
theorem c_X7_swapped_9 (σ : gS) (i v : Int32) (hi : vp_in i 5) : g_Met yX7_swapped cX7_swapped 4 (some .int) 2 kX [.ref 9, .int i, .int v] σ (fun rv s => rv = some (.int (σ 9 (ix i))) ∧ s = g_up σ 9 (ix i) v) := by
  refine g_Met.of (own := 7) (L := [some (.ref 9), some (.int i), some (.int v), none]) (by decide) rfl rfl (fun ad => Nat.le_of_ble_eq_true rfl) (fun ad => rfl) (fun X G K C => ?_)
  refine V_blk C (pc' := 3) (σ' := σ) (L' := [some (.ref 9), some (.int i), some (.int v), none]) (st' := [.ref 9, .int 0, .int i]) (g_c dX7_swapped_0 (g_c dX7_swapped_1 (g_c dX7_swapped_2 g_n))) rfl rfl ?_
  refine V_alen C (k := 9) (n := 5) (v := 5) (by rfl) (by rfl) (by decide) dX7_swapped_3 ?_
  refine V_blk C (pc' := 6) (σ' := σ) (L' := [some (.ref 9), some (.int i), some (.int v), none]) (st' := [.int (5 - 1), .int 0, .int i]) (g_c dX7_swapped_4 (g_c dX7_swapped_5 g_n)) rfl rfl ?_
  refine V_callSI C cs_X7_87 (c_X7_isIn σ i 0 (5 - 1)) (by decide) (by decide) (fun _ h => h) (As := [.int i, .int 0, .int (5 - 1)]) (rest := []) rfl rfl (by decide) dX7_swapped_6 ?_
  refine V_if_ne_b C (tgt := 15) dX7_swapped_9 (by decide) (fun h9 => ?_) (fun h9 => absurd (g_in_vp hi (by decide)) h9)
  refine V_blk C (pc' := 17) (σ' := σ) (L' := [some (.ref 9), some (.int i), some (.int v), none]) (st' := [.int i, .ref 9]) (g_c dX7_swapped_15 (g_c dX7_swapped_16 g_n)) rfl rfl ?_
  refine V_iald C (k := 9) (n := 5) (by rfl) (by rfl) hi dX7_swapped_17 ?_
  refine V_blk C (pc' := 22) (σ' := σ) (L' := [some (.ref 9), some (.int i), some (.int v), some (.int (σ 9 (Int32.toNatClampNeg i)))]) (st' := [.int v, .int i, .ref 9]) (g_c dX7_swapped_18 (g_c dX7_swapped_19 (g_c dX7_swapped_20 (g_c dX7_swapped_21 g_n)))) rfl rfl ?_
  refine V_iast C (k := 9) (n := 5) (by rfl) (by rfl) hi dX7_swapped_22 ?_
  refine V_blk C (pc' := 24) (σ' := (g_up σ 9 (Int32.toNatClampNeg i) v)) (L' := [some (.ref 9), some (.int i), some (.int v), some (.int (σ 9 (Int32.toNatClampNeg i)))]) (st' := [.int (σ 9 (Int32.toNatClampNeg i))]) (g_c dX7_swapped_23 g_n) rfl rfl ?_
  refine V_iret C dX7_swapped_24 ?_
  exact ⟨rfl, rfl⟩
set_option maxHeartbeats 4000000 in
set_option maxRecDepth 100000 in
theorem c_X7_changed1 (σ : gS) (v : Int32) : g_Met yX7_changed cX7_changed 4 (some .int) 2 kX [.ref 0, .int 1, .int v] σ (fun rv s => rv = some (.int (if g_in v 0 16777215 then (σ 1 10) else (-2))) ∧ s = (if g_in v 0 16777215 then (g_up σ 1 10 v) else σ)) := by
  refine g_Met.of (own := 7) (L := [some (.ref 0), some (.int 1), some (.int v), none]) (by decide) rfl rfl (fun ad => Nat.le_of_ble_eq_true rfl) (fun ad => rfl) (fun X G K C => ?_)
  refine V_blk C (pc' := 2) (σ' := σ) (L' := [some (.ref 0), some (.int 1), some (.int v), none]) (st' := [.int 1, .int 1]) (g_c dX7_changed_0 (g_c dX7_changed_1 g_n)) rfl rfl ?_
  refine V_icmp_ne C (tgt := 15) dX7_changed_2 (by decide) (fun z => absurd z (by decide)) (fun _ => ?_)
  refine V_blk C (pc' := 12) (σ' := σ) (L' := [some (.ref 0), some (.int 1), some (.int v), none]) (st' := [.int (σ 1 10)]) (g_c dX7_changed_5 (g_c dX7_changed_6 (g_c dX7_changed_9 g_n))) rfl rfl ?_
  refine V_goto C (tgt := 37) dX7_changed_12 (by decide) ?_
  refine V_blk C (pc' := 40) (σ' := σ) (L' := [some (.ref 0), some (.int 1), some (.int v), some (.int (σ 1 10))]) (st' := [.int 1, .int 1]) (g_c dX7_changed_37 (g_c dX7_changed_38 (g_c dX7_changed_39 g_n))) rfl rfl ?_
  refine V_icmp_ne C (tgt := 65) dX7_changed_40 (by decide) (fun z => absurd z (by decide)) (fun _ => ?_)
  refine V_blk C (pc' := 48) (σ' := σ) (L' := [some (.ref 0), some (.int 1), some (.int v), some (.int (σ 1 10))]) (st' := [.int 16777215, .int 0, .int v]) (g_c dX7_changed_43 (g_c dX7_changed_44 (g_c dX7_changed_45 g_n))) rfl rfl ?_
  refine V_callSI C cs_X7_87 (c_X7_isIn σ v 0 16777215) (by decide) (by decide) (fun _ h => h) (As := [.int v, .int 0, .int 16777215]) (rest := []) rfl rfl (by decide) dX7_changed_48 ?_
  refine V_if_eq_b C (tgt := 65) dX7_changed_51 (by decide) (fun h51 => ?_) (fun h51 => ?_)
  · skip
    refine V_blk C (pc' := 67) (σ' := σ) (L' := [some (.ref 0), some (.int 1), some (.int v), some (.int (σ 1 10))]) (st' := [.int 2, .int 1]) (g_c dX7_changed_65 (g_c dX7_changed_66 g_n)) rfl rfl ?_
    refine V_icmp_ne C (tgt := 90) dX7_changed_67 (by decide) (fun _ => ?_) (fun z => absurd z (by decide))
    refine V_blk C (pc' := 92) (σ' := σ) (L' := [some (.ref 0), some (.int 1), some (.int v), some (.int (σ 1 10))]) (st' := [.int 3, .int 1]) (g_c dX7_changed_90 (g_c dX7_changed_91 g_n)) rfl rfl ?_
    refine V_icmp_ne C (tgt := 115) dX7_changed_92 (by decide) (fun _ => ?_) (fun z => absurd z (by decide))
    refine V_blk C (pc' := 117) (σ' := σ) (L' := [some (.ref 0), some (.int 1), some (.int v), some (.int (σ 1 10))]) (st' := [.int (-2)]) (g_c dX7_changed_115 g_n) rfl rfl ?_
    refine V_iret C dX7_changed_117 ?_
    exact ⟨by rw [if_neg (fun z => h51 z)], by rw [if_neg (fun z => h51 z)]⟩
  · skip
    refine V_blk C (pc' := 62) (σ' := (g_up σ 1 10 v)) (L' := [some (.ref 0), some (.int 1), some (.int v), some (.int (σ 1 10))]) (st' := []) (g_c dX7_changed_54 (g_c dX7_changed_55 (g_c dX7_changed_58 (g_c dX7_changed_59 g_n)))) rfl rfl ?_
    refine V_goto C (tgt := 118) dX7_changed_62 (by decide) ?_
    refine V_blk C (pc' := 119) (σ' := (g_up σ 1 10 v)) (L' := [some (.ref 0), some (.int 1), some (.int v), some (.int (σ 1 10))]) (st' := [.int (σ 1 10)]) (g_c dX7_changed_118 g_n) rfl rfl ?_
    refine V_iret C dX7_changed_119 ?_
    exact ⟨by rw [if_pos h51], by rw [if_pos h51]⟩
set_option maxHeartbeats 4000000 in
set_option maxRecDepth 100000 in
theorem c_X7_changed2 (σ : gS) (v : Int32) : g_Met yX7_changed cX7_changed 4 (some .int) 2 kX [.ref 0, .int 2, .int v] σ (fun rv s => rv = some (.int (if g_in v 1 5 then (σ 1 11) else (-2))) ∧ s = (if g_in v 1 5 then (g_up σ 1 11 v) else σ)) := by
  refine g_Met.of (own := 7) (L := [some (.ref 0), some (.int 2), some (.int v), none]) (by decide) rfl rfl (fun ad => Nat.le_of_ble_eq_true rfl) (fun ad => rfl) (fun X G K C => ?_)
  refine V_blk C (pc' := 2) (σ' := σ) (L' := [some (.ref 0), some (.int 2), some (.int v), none]) (st' := [.int 1, .int 2]) (g_c dX7_changed_0 (g_c dX7_changed_1 g_n)) rfl rfl ?_
  refine V_icmp_ne C (tgt := 15) dX7_changed_2 (by decide) (fun _ => ?_) (fun z => absurd z (by decide))
  refine V_blk C (pc' := 17) (σ' := σ) (L' := [some (.ref 0), some (.int 2), some (.int v), none]) (st' := [.int 2, .int 2]) (g_c dX7_changed_15 (g_c dX7_changed_16 g_n)) rfl rfl ?_
  refine V_icmp_ne C (tgt := 30) dX7_changed_17 (by decide) (fun z => absurd z (by decide)) (fun _ => ?_)
  refine V_blk C (pc' := 27) (σ' := σ) (L' := [some (.ref 0), some (.int 2), some (.int v), none]) (st' := [.int (σ 1 11)]) (g_c dX7_changed_20 (g_c dX7_changed_21 (g_c dX7_changed_24 g_n))) rfl rfl ?_
  refine V_goto C (tgt := 37) dX7_changed_27 (by decide) ?_
  refine V_blk C (pc' := 40) (σ' := σ) (L' := [some (.ref 0), some (.int 2), some (.int v), some (.int (σ 1 11))]) (st' := [.int 1, .int 2]) (g_c dX7_changed_37 (g_c dX7_changed_38 (g_c dX7_changed_39 g_n))) rfl rfl ?_
  refine V_icmp_ne C (tgt := 65) dX7_changed_40 (by decide) (fun _ => ?_) (fun z => absurd z (by decide))
  refine V_blk C (pc' := 67) (σ' := σ) (L' := [some (.ref 0), some (.int 2), some (.int v), some (.int (σ 1 11))]) (st' := [.int 2, .int 2]) (g_c dX7_changed_65 (g_c dX7_changed_66 g_n)) rfl rfl ?_
  refine V_icmp_ne C (tgt := 90) dX7_changed_67 (by decide) (fun z => absurd z (by decide)) (fun _ => ?_)
  refine V_blk C (pc' := 73) (σ' := σ) (L' := [some (.ref 0), some (.int 2), some (.int v), some (.int (σ 1 11))]) (st' := [.int 5, .int 1, .int v]) (g_c dX7_changed_70 (g_c dX7_changed_71 (g_c dX7_changed_72 g_n))) rfl rfl ?_
  refine V_callSI C cs_X7_87 (c_X7_isIn σ v 1 5) (by decide) (by decide) (fun _ h => h) (As := [.int v, .int 1, .int 5]) (rest := []) rfl rfl (by decide) dX7_changed_73 ?_
  refine V_if_eq_b C (tgt := 90) dX7_changed_76 (by decide) (fun h76 => ?_) (fun h76 => ?_)
  · skip
    refine V_blk C (pc' := 92) (σ' := σ) (L' := [some (.ref 0), some (.int 2), some (.int v), some (.int (σ 1 11))]) (st' := [.int 3, .int 2]) (g_c dX7_changed_90 (g_c dX7_changed_91 g_n)) rfl rfl ?_
    refine V_icmp_ne C (tgt := 115) dX7_changed_92 (by decide) (fun _ => ?_) (fun z => absurd z (by decide))
    refine V_blk C (pc' := 117) (σ' := σ) (L' := [some (.ref 0), some (.int 2), some (.int v), some (.int (σ 1 11))]) (st' := [.int (-2)]) (g_c dX7_changed_115 g_n) rfl rfl ?_
    refine V_iret C dX7_changed_117 ?_
    exact ⟨by rw [if_neg (fun z => h76 z)], by rw [if_neg (fun z => h76 z)]⟩
  · skip
    refine V_blk C (pc' := 87) (σ' := (g_up σ 1 11 v)) (L' := [some (.ref 0), some (.int 2), some (.int v), some (.int (σ 1 11))]) (st' := []) (g_c dX7_changed_79 (g_c dX7_changed_80 (g_c dX7_changed_83 (g_c dX7_changed_84 g_n)))) rfl rfl ?_
    refine V_goto C (tgt := 118) dX7_changed_87 (by decide) ?_
    refine V_blk C (pc' := 119) (σ' := (g_up σ 1 11 v)) (L' := [some (.ref 0), some (.int 2), some (.int v), some (.int (σ 1 11))]) (st' := [.int (σ 1 11)]) (g_c dX7_changed_118 g_n) rfl rfl ?_
    refine V_iret C dX7_changed_119 ?_
    exact ⟨by rw [if_pos h76], by rw [if_pos h76]⟩
set_option maxHeartbeats 4000000 in
set_option maxRecDepth 100000 in
theorem c_X7_changed3 (σ : gS) (v : Int32) : g_Met yX7_changed cX7_changed 4 (some .int) 2 kX [.ref 0, .int 3, .int v] σ (fun rv s => rv = some (.int (if g_in v 0 1 then (σ 1 12) else (-2))) ∧ s = (if g_in v 0 1 then (g_up σ 1 12 v) else σ)) := by
  refine g_Met.of (own := 7) (L := [some (.ref 0), some (.int 3), some (.int v), none]) (by decide) rfl rfl (fun ad => Nat.le_of_ble_eq_true rfl) (fun ad => rfl) (fun X G K C => ?_)
  refine V_blk C (pc' := 2) (σ' := σ) (L' := [some (.ref 0), some (.int 3), some (.int v), none]) (st' := [.int 1, .int 3]) (g_c dX7_changed_0 (g_c dX7_changed_1 g_n)) rfl rfl ?_
  refine V_icmp_ne C (tgt := 15) dX7_changed_2 (by decide) (fun _ => ?_) (fun z => absurd z (by decide))
  refine V_blk C (pc' := 17) (σ' := σ) (L' := [some (.ref 0), some (.int 3), some (.int v), none]) (st' := [.int 2, .int 3]) (g_c dX7_changed_15 (g_c dX7_changed_16 g_n)) rfl rfl ?_
  refine V_icmp_ne C (tgt := 30) dX7_changed_17 (by decide) (fun _ => ?_) (fun z => absurd z (by decide))
  refine V_blk C (pc' := 40) (σ' := σ) (L' := [some (.ref 0), some (.int 3), some (.int v), some (.int (σ 1 12))]) (st' := [.int 1, .int 3]) (g_c dX7_changed_30 (g_c dX7_changed_31 (g_c dX7_changed_34 (g_c dX7_changed_37 (g_c dX7_changed_38 (g_c dX7_changed_39 g_n)))))) rfl rfl ?_
  refine V_icmp_ne C (tgt := 65) dX7_changed_40 (by decide) (fun _ => ?_) (fun z => absurd z (by decide))
  refine V_blk C (pc' := 67) (σ' := σ) (L' := [some (.ref 0), some (.int 3), some (.int v), some (.int (σ 1 12))]) (st' := [.int 2, .int 3]) (g_c dX7_changed_65 (g_c dX7_changed_66 g_n)) rfl rfl ?_
  refine V_icmp_ne C (tgt := 90) dX7_changed_67 (by decide) (fun _ => ?_) (fun z => absurd z (by decide))
  refine V_blk C (pc' := 92) (σ' := σ) (L' := [some (.ref 0), some (.int 3), some (.int v), some (.int (σ 1 12))]) (st' := [.int 3, .int 3]) (g_c dX7_changed_90 (g_c dX7_changed_91 g_n)) rfl rfl ?_
  refine V_icmp_ne C (tgt := 115) dX7_changed_92 (by decide) (fun z => absurd z (by decide)) (fun _ => ?_)
  refine V_blk C (pc' := 98) (σ' := σ) (L' := [some (.ref 0), some (.int 3), some (.int v), some (.int (σ 1 12))]) (st' := [.int 1, .int 0, .int v]) (g_c dX7_changed_95 (g_c dX7_changed_96 (g_c dX7_changed_97 g_n))) rfl rfl ?_
  refine V_callSI C cs_X7_87 (c_X7_isIn σ v 0 1) (by decide) (by decide) (fun _ h => h) (As := [.int v, .int 0, .int 1]) (rest := []) rfl rfl (by decide) dX7_changed_98 ?_
  refine V_if_eq_b C (tgt := 115) dX7_changed_101 (by decide) (fun h101 => ?_) (fun h101 => ?_)
  · skip
    refine V_blk C (pc' := 117) (σ' := σ) (L' := [some (.ref 0), some (.int 3), some (.int v), some (.int (σ 1 12))]) (st' := [.int (-2)]) (g_c dX7_changed_115 g_n) rfl rfl ?_
    refine V_iret C dX7_changed_117 ?_
    exact ⟨by rw [if_neg (fun z => h101 z)], by rw [if_neg (fun z => h101 z)]⟩
  · skip
    refine V_blk C (pc' := 112) (σ' := (g_up σ 1 12 v)) (L' := [some (.ref 0), some (.int 3), some (.int v), some (.int (σ 1 12))]) (st' := []) (g_c dX7_changed_104 (g_c dX7_changed_105 (g_c dX7_changed_108 (g_c dX7_changed_109 g_n)))) rfl rfl ?_
    refine V_goto C (tgt := 118) dX7_changed_112 (by decide) ?_
    refine V_blk C (pc' := 119) (σ' := (g_up σ 1 12 v)) (L' := [some (.ref 0), some (.int 3), some (.int v), some (.int (σ 1 12))]) (st' := [.int (σ 1 12)]) (g_c dX7_changed_118 g_n) rfl rfl ?_
    refine V_iret C dX7_changed_119 ?_
    exact ⟨by rw [if_pos h101], by rw [if_pos h101]⟩
set_option maxHeartbeats 4000000 in
set_option maxRecDepth 100000 in
theorem c_X7_set0 (σ : gS) (o v : Int32) : g_Met yX7_set cX7_set 4 (some .int) 3 kX [.ref 0, .int 0, .int o, .int v] σ (fun rv s => rv = some (.int (if g_in o 0 23 ∧ g_in v 0 9 then (σ 2 (ix o)) else (-2))) ∧ s = (if g_in o 0 23 ∧ g_in v 0 9 then (g_up σ 2 (ix o) v) else σ)) := by
  refine g_Met.of (own := 7) (L := [some (.ref 0), some (.int 0), some (.int o), some (.int v)]) (by decide) rfl rfl (fun ad => Nat.le_of_ble_eq_true rfl) (fun ad => rfl) (fun X G K C => ?_)
  refine V_blk C (pc' := 1) (σ' := σ) (L' := [some (.ref 0), some (.int 0), some (.int o), some (.int v)]) (st' := [.int 0]) (g_c dX7_set_0 g_n) rfl rfl ?_
  refine V_tsw C 0 43 (tgt := 44) dX7_set_1 (by decide) (by decide) (by decide) (by decide) (fun _ => ?_) (fun z => absurd rfl z)
  refine V_blk C (pc' := 45) (σ' := σ) (L' := [some (.ref 0), some (.int 0), some (.int o), some (.int v)]) (st' := [.int o]) (g_c dX7_set_44 g_n) rfl rfl ?_
  refine V_callSI C cs_X7_84 (c_X7_isHour σ o) (by decide) (by decide) (fun _ h => h) (As := [.int o]) (rest := []) rfl rfl (by decide) dX7_set_45 ?_
  refine V_if_eq_b C (tgt := 76) dX7_set_48 (by decide) (fun h48 => ?_) (fun h48 => ?_)
  · skip
    refine V_blk C (pc' := 78) (σ' := σ) (L' := [some (.ref 0), some (.int 0), some (.int o), some (.int v)]) (st' := [.int (-2)]) (g_c dX7_set_76 g_n) rfl rfl ?_
    refine V_iret C dX7_set_78 ?_
    exact ⟨by rw [if_neg (fun z => h48 z.1)], by rw [if_neg (fun z => h48 z.1)]⟩
  · skip
    refine V_blk C (pc' := 55) (σ' := σ) (L' := [some (.ref 0), some (.int 0), some (.int o), some (.int v)]) (st' := [.int 9, .int 0, .int v]) (g_c dX7_set_51 (g_c dX7_set_52 (g_c dX7_set_53 g_n))) rfl rfl ?_
    refine V_callSI C cs_X7_87 (c_X7_isIn σ v 0 9) (by decide) (by decide) (fun _ h => h) (As := [.int v, .int 0, .int 9]) (rest := []) rfl rfl (by decide) dX7_set_55 ?_
    refine V_if_eq_b C (tgt := 76) dX7_set_58 (by decide) (fun h58 => ?_) (fun h58 => ?_)
    · skip
      refine V_blk C (pc' := 78) (σ' := σ) (L' := [some (.ref 0), some (.int 0), some (.int o), some (.int v)]) (st' := [.int (-2)]) (g_c dX7_set_76 g_n) rfl rfl ?_
      refine V_iret C dX7_set_78 ?_
      exact ⟨by rw [if_neg (fun z => h58 z.2)], by rw [if_neg (fun z => h58 z.2)]⟩
    · skip
      refine V_blk C (pc' := 70) (σ' := σ) (L' := [some (.ref 0), some (.int 0), some (.int o), some (.int v)]) (st' := [.int v, .int o, .ref 2]) (g_c dX7_set_61 (g_c dX7_set_62 (g_c dX7_set_65 (g_c dX7_set_68 (g_c dX7_set_69 g_n))))) rfl rfl ?_
      refine V_callSI C cs_X7_95 (c_X7_swapped_2 σ o v (g_vpc h48 (by decide))) (by decide) (by decide) (fun _ h => h) (As := [.ref 2, .int o, .int v]) (rest := []) rfl rfl (by decide) dX7_set_70 ?_
      refine V_goto C (tgt := 78) dX7_set_73 (by decide) ?_
      refine V_iret C dX7_set_78 ?_
      exact ⟨by rw [if_pos ⟨h48, h58⟩], by rw [if_pos ⟨h48, h58⟩]⟩
-- M0
set_option maxHeartbeats 4000000 in
set_option maxRecDepth 100000 in
theorem c_X8_set0 (σ : gS) (o v : Int32) : g_Met yX8_set cX8_set 5 (some .int) 3 kM [.ref 63, .int 0, .int o, .int v] σ (fun rv s => rv = some (.int (if g_in o 0 23 ∧ g_in v 0 9 then (σ 67 (ix o)) else (-2))) ∧ s = (if g_in o 0 23 ∧ g_in v 0 9 then (g_up σ 67 (ix o) v) else σ)) := by
  refine g_Met.of (own := 8) (L := [some (.ref 63), some (.int 0), some (.int o), some (.int v), none]) (by decide) rfl rfl (fun ad => Nat.le_of_ble_eq_true rfl) (fun ad => rfl) (fun X G K C => ?_)
  refine V_blk C (pc' := 6) (σ' := σ) (L' := [some (.ref 63), some (.int 0), some (.int o), some (.int v), none]) (st' := [.long 6, .long 0, .long (Int32.toInt64 0)]) (g_c dX8_set_0 (g_c dX8_set_1 (g_c dX8_set_2 (g_c dX8_set_3 g_n)))) rfl rfl ?_
  refine V_callSI C cs_X8_110 (c_X8_in32 σ 0 0 6 (by decide) (by decide)) (by decide) (by decide) (fun _ h => h) (As := [.long (Int32.toInt64 0), .long 0, .long 6]) (rest := []) rfl rfl (by decide) dX8_set_6 ?_
  refine V_if_eq_b C (tgt := 36) dX8_set_9 (by decide) (fun z => absurd (by decide) z) (fun _ => ?_)
  refine V_blk C (pc' := 13) (σ' := σ) (L' := [some (.ref 63), some (.int 0), some (.int o), some (.int v), none]) (st' := [.int 0]) (g_c dX8_set_12 g_n) rfl rfl ?_
  refine V_if_ne C (tgt := 23) dX8_set_13 (by decide) (fun z => absurd z (by decide)) (fun _ => ?_)
  refine V_blk C (pc' := 17) (σ' := σ) (L' := [some (.ref 63), some (.int 0), some (.int o), some (.int v), none]) (st' := [.int o]) (g_c dX8_set_16 g_n) rfl rfl ?_
  refine V_callSI C cs_X8_123 (c_X8_isHour σ o) (by decide) (by decide) (fun _ h => h) (As := [.int o]) (rest := []) rfl rfl (by decide) dX8_set_17 ?_
  refine V_if_eq_b C (tgt := 36) dX8_set_20 (by decide) (fun h20 => ?_) (fun h20 => ?_)
  · skip
    refine V_blk C (pc' := 38) (σ' := σ) (L' := [some (.ref 63), some (.int 0), some (.int o), some (.int v), none]) (st' := [.int (-2)]) (g_c dX8_set_36 g_n) rfl rfl ?_
    refine V_iret C dX8_set_38 ?_
    exact ⟨by rw [if_neg (fun z => h20 z.1)], by rw [if_neg (fun z => h20 z.1)]⟩
  · skip
    refine V_blk C (pc' := 25) (σ' := σ) (L' := [some (.ref 63), some (.int 0), some (.int o), some (.int v), none]) (st' := [.int 3, .int 0]) (g_c dX8_set_23 (g_c dX8_set_24 g_n)) rfl rfl ?_
    refine V_icmp_le2 C (tgt := 39) dX8_set_25 (by decide) (fun _ => ?_) (fun z => absurd z (by decide))
    refine V_blk C (pc' := 43) (σ' := σ) (L' := [some (.ref 63), some (.int 0), some (.int o), some (.int v), none]) (st' := [.int 2, .int 0, .long (Int32.toInt64 v)]) (g_c dX8_set_39 (g_c dX8_set_40 (g_c dX8_set_41 (g_c dX8_set_42 g_n)))) rfl rfl ?_
    refine V_icmp_ne C (tgt := 50) dX8_set_43 (by decide) (fun _ => ?_) (fun z => absurd z (by decide))
    refine V_blk C (pc' := 53) (σ' := σ) (L' := [some (.ref 63), some (.int 0), some (.int o), some (.int v), none]) (st' := [.int 1, .int 0, .long 0, .long (Int32.toInt64 v)]) (g_c dX8_set_50 (g_c dX8_set_51 (g_c dX8_set_52 g_n))) rfl rfl ?_
    refine V_icmp_ne C (tgt := 62) dX8_set_53 (by decide) (fun _ => ?_) (fun z => absurd z (by decide))
    refine V_blk C (pc' := 64) (σ' := σ) (L' := [some (.ref 63), some (.int 0), some (.int o), some (.int v), none]) (st' := [.int 2, .int 0, .long 0, .long (Int32.toInt64 v)]) (g_c dX8_set_62 (g_c dX8_set_63 g_n)) rfl rfl ?_
    refine V_icmp_ne C (tgt := 73) dX8_set_64 (by decide) (fun _ => ?_) (fun z => absurd z (by decide))
    refine V_blk C (pc' := 75) (σ' := σ) (L' := [some (.ref 63), some (.int 0), some (.int o), some (.int v), none]) (st' := [.int 3, .int 0, .long 0, .long (Int32.toInt64 v)]) (g_c dX8_set_73 (g_c dX8_set_74 g_n)) rfl rfl ?_
    refine V_icmp_ne C (tgt := 82) dX8_set_75 (by decide) (fun _ => ?_) (fun z => absurd z (by decide))
    refine V_blk C (pc' := 85) (σ' := σ) (L' := [some (.ref 63), some (.int 0), some (.int o), some (.int v), none]) (st' := [.int 6, .int 0, .long 0, .long (Int32.toInt64 v)]) (g_c dX8_set_82 (g_c dX8_set_83 g_n)) rfl rfl ?_
    refine V_icmp_ne C (tgt := 94) dX8_set_85 (by decide) (fun _ => ?_) (fun z => absurd z (by decide))
    refine V_blk C (pc' := 97) (σ' := σ) (L' := [some (.ref 63), some (.int 0), some (.int o), some (.int v), none]) (st' := [.long 9, .long 0, .long (Int32.toInt64 v)]) (g_c dX8_set_94 g_n) rfl rfl ?_
    refine V_callSI C cs_X8_110 (c_X8_in32 σ v 0 9 (by decide) (by decide)) (by decide) (by decide) (fun _ h => h) (As := [.long (Int32.toInt64 v), .long 0, .long 9]) (rest := []) rfl rfl (by decide) dX8_set_97 ?_
    refine V_if_ne_b C (tgt := 106) dX8_set_100 (by decide) (fun h100 => ?_) (fun h100 => ?_)
    · skip
      refine V_blk C (pc' := 107) (σ' := σ) (L' := [some (.ref 63), some (.int 0), some (.int o), some (.int v), none]) (st' := [.int 0]) (g_c dX8_set_106 g_n) rfl rfl ?_
      refine V_if_ne C (tgt := 119) dX8_set_107 (by decide) (fun z => absurd z (by decide)) (fun _ => ?_)
      refine V_blk C (pc' := 115) (σ' := σ) (L' := [some (.ref 63), some (.int 0), some (.int o), some (.int v), none]) (st' := [.int o, .ref 67]) (g_c dX8_set_110 (g_c dX8_set_111 (g_c dX8_set_114 g_n))) rfl rfl ?_
      refine V_iald C (k := 67) (n := 24) (by rfl) (by rfl) (g_vpc h20 (by decide)) dX8_set_115 ?_
      refine V_goto C (tgt := 189) dX8_set_116 (by decide) ?_
      refine V_blk C (pc' := 192) (σ' := σ) (L' := [some (.ref 63), some (.int 0), some (.int o), some (.int v), some (.int (σ 67 (Int32.toNatClampNeg o)))]) (st' := [.int 0]) (g_c dX8_set_189 (g_c dX8_set_191 g_n)) rfl rfl ?_
      refine V_if_ne C (tgt := 205) dX8_set_192 (by decide) (fun z => absurd z (by decide)) (fun _ => ?_)
      refine V_blk C (pc' := 201) (σ' := σ) (L' := [some (.ref 63), some (.int 0), some (.int o), some (.int v), some (.int (σ 67 (Int32.toNatClampNeg o)))]) (st' := [.int v, .int o, .ref 67]) (g_c dX8_set_195 (g_c dX8_set_196 (g_c dX8_set_199 (g_c dX8_set_200 g_n)))) rfl rfl ?_
      refine V_iast C (k := 67) (n := 24) (by rfl) (by rfl) (g_vpc h20 (by decide)) dX8_set_201 ?_
      refine V_goto C (tgt := 281) dX8_set_202 (by decide) ?_
      refine V_blk C (pc' := 283) (σ' := (g_up σ 67 (Int32.toNatClampNeg o) v)) (L' := [some (.ref 63), some (.int 0), some (.int o), some (.int v), some (.int (σ 67 (Int32.toNatClampNeg o)))]) (st' := [.int (σ 67 (Int32.toNatClampNeg o))]) (g_c dX8_set_281 g_n) rfl rfl ?_
      refine V_iret C dX8_set_283 ?_
      exact ⟨by rw [if_pos ⟨h20, h100⟩], by rw [if_pos ⟨h20, h100⟩]⟩
    · skip
      refine V_blk C (pc' := 105) (σ' := σ) (L' := [some (.ref 63), some (.int 0), some (.int o), some (.int v), none]) (st' := [.int (-2)]) (g_c dX8_set_103 g_n) rfl rfl ?_
      refine V_iret C dX8_set_105 ?_
      exact ⟨by rw [if_neg (fun z => h100 z.2)], by rw [if_neg (fun z => h100 z.2)]⟩
set_option maxHeartbeats 4000000 in
set_option maxRecDepth 100000 in
theorem c_X7_set1 (σ : gS) (o v : Int32) : g_Met yX7_set cX7_set 4 (some .int) 3 kX [.ref 0, .int 1, .int o, .int v] σ (fun rv s => rv = some (.int (if g_in v 0 16777215 then (σ 1 10) else (-2))) ∧ s = (if g_in v 0 16777215 then (g_up σ 1 10 v) else σ)) := by
  refine g_Met.of (own := 7) (L := [some (.ref 0), some (.int 1), some (.int o), some (.int v)]) (by decide) rfl rfl (fun ad => Nat.le_of_ble_eq_true rfl) (fun ad => rfl) (fun X G K C => ?_)
  refine V_blk C (pc' := 1) (σ' := σ) (L' := [some (.ref 0), some (.int 1), some (.int o), some (.int v)]) (st' := [.int 1]) (g_c dX7_set_0 g_n) rfl rfl ?_
  refine V_tsw C 1 78 (tgt := 79) dX7_set_1 (by decide) (by decide) (by decide) (by decide) (fun _ => ?_) (fun z => absurd rfl z)
  refine V_blk C (pc' := 82) (σ' := σ) (L' := [some (.ref 0), some (.int 1), some (.int o), some (.int v)]) (st' := [.int v, .int 1, .ref 0]) (g_c dX7_set_79 (g_c dX7_set_80 (g_c dX7_set_81 g_n))) rfl rfl ?_
  refine V_callVI C cv_X7_99 (c_X7_changed1 σ v) ⟨_, _, _, _, rfl, rfl⟩ (by rfl) (by decide) (by decide) (fun _ h => h) (As := [.int 1, .int v]) (rest := []) rfl rfl (by decide) dX7_set_82 ?_
  refine V_iret C dX7_set_85 ?_
  exact ⟨rfl, rfl⟩
-- M1
set_option maxHeartbeats 4000000 in
set_option maxRecDepth 100000 in
theorem c_X8_set1 (σ : gS) (o v : Int32) : g_Met yX8_set cX8_set 5 (some .int) 3 kM [.ref 63, .int 1, .int o, .int v] σ (fun rv s => rv = some (.int (if g_in v 0 16777215 then (σ 63 8) else (-2))) ∧ s = (if g_in v 0 16777215 then (g_up σ 63 8 v) else σ)) := by
  refine g_Met.of (own := 8) (L := [some (.ref 63), some (.int 1), some (.int o), some (.int v), none]) (by decide) rfl rfl (fun ad => Nat.le_of_ble_eq_true rfl) (fun ad => rfl) (fun X G K C => ?_)
  refine V_blk C (pc' := 6) (σ' := σ) (L' := [some (.ref 63), some (.int 1), some (.int o), some (.int v), none]) (st' := [.long 6, .long 0, .long (Int32.toInt64 1)]) (g_c dX8_set_0 (g_c dX8_set_1 (g_c dX8_set_2 (g_c dX8_set_3 g_n)))) rfl rfl ?_
  refine V_callSI C cs_X8_110 (c_X8_in32 σ 1 0 6 (by decide) (by decide)) (by decide) (by decide) (fun _ h => h) (As := [.long (Int32.toInt64 1), .long 0, .long 6]) (rest := []) rfl rfl (by decide) dX8_set_6 ?_
  refine V_if_eq_b C (tgt := 36) dX8_set_9 (by decide) (fun z => absurd (by decide) z) (fun _ => ?_)
  refine V_blk C (pc' := 13) (σ' := σ) (L' := [some (.ref 63), some (.int 1), some (.int o), some (.int v), none]) (st' := [.int 1]) (g_c dX8_set_12 g_n) rfl rfl ?_
  refine V_if_ne C (tgt := 23) dX8_set_13 (by decide) (fun _ => ?_) (fun z => absurd z (by decide))
  refine V_blk C (pc' := 25) (σ' := σ) (L' := [some (.ref 63), some (.int 1), some (.int o), some (.int v), none]) (st' := [.int 3, .int 1]) (g_c dX8_set_23 (g_c dX8_set_24 g_n)) rfl rfl ?_
  refine V_icmp_le2 C (tgt := 39) dX8_set_25 (by decide) (fun _ => ?_) (fun z => absurd z (by decide))
  refine V_blk C (pc' := 43) (σ' := σ) (L' := [some (.ref 63), some (.int 1), some (.int o), some (.int v), none]) (st' := [.int 2, .int 1, .long (Int32.toInt64 v)]) (g_c dX8_set_39 (g_c dX8_set_40 (g_c dX8_set_41 (g_c dX8_set_42 g_n)))) rfl rfl ?_
  refine V_icmp_ne C (tgt := 50) dX8_set_43 (by decide) (fun _ => ?_) (fun z => absurd z (by decide))
  refine V_blk C (pc' := 53) (σ' := σ) (L' := [some (.ref 63), some (.int 1), some (.int o), some (.int v), none]) (st' := [.int 1, .int 1, .long 0, .long (Int32.toInt64 v)]) (g_c dX8_set_50 (g_c dX8_set_51 (g_c dX8_set_52 g_n))) rfl rfl ?_
  refine V_icmp_ne C (tgt := 62) dX8_set_53 (by decide) (fun z => absurd z (by decide)) (fun _ => ?_)
  refine V_blk C (pc' := 59) (σ' := σ) (L' := [some (.ref 63), some (.int 1), some (.int o), some (.int v), none]) (st' := [.long 16777215, .long 0, .long (Int32.toInt64 v)]) (g_c dX8_set_56 g_n) rfl rfl ?_
  refine V_goto C (tgt := 97) dX8_set_59 (by decide) ?_
  refine V_callSI C cs_X8_110 (c_X8_in32 σ v 0 16777215 (by decide) (by decide)) (by decide) (by decide) (fun _ h => h) (As := [.long (Int32.toInt64 v), .long 0, .long 16777215]) (rest := []) rfl rfl (by decide) dX8_set_97 ?_
  refine V_if_ne_b C (tgt := 106) dX8_set_100 (by decide) (fun h100 => ?_) (fun h100 => ?_)
  · skip
    refine V_blk C (pc' := 107) (σ' := σ) (L' := [some (.ref 63), some (.int 1), some (.int o), some (.int v), none]) (st' := [.int 1]) (g_c dX8_set_106 g_n) rfl rfl ?_
    refine V_if_ne C (tgt := 119) dX8_set_107 (by decide) (fun _ => ?_) (fun z => absurd z (by decide))
    refine V_blk C (pc' := 121) (σ' := σ) (L' := [some (.ref 63), some (.int 1), some (.int o), some (.int v), none]) (st' := [.int 1, .int 1]) (g_c dX8_set_119 (g_c dX8_set_120 g_n)) rfl rfl ?_
    refine V_icmp_ne C (tgt := 131) dX8_set_121 (by decide) (fun z => absurd z (by decide)) (fun _ => ?_)
    refine V_blk C (pc' := 128) (σ' := σ) (L' := [some (.ref 63), some (.int 1), some (.int o), some (.int v), none]) (st' := [.int (σ 63 8)]) (g_c dX8_set_124 (g_c dX8_set_125 g_n)) rfl rfl ?_
    refine V_goto C (tgt := 189) dX8_set_128 (by decide) ?_
    refine V_blk C (pc' := 192) (σ' := σ) (L' := [some (.ref 63), some (.int 1), some (.int o), some (.int v), some (.int (σ 63 8))]) (st' := [.int 1]) (g_c dX8_set_189 (g_c dX8_set_191 g_n)) rfl rfl ?_
    refine V_if_ne C (tgt := 205) dX8_set_192 (by decide) (fun _ => ?_) (fun z => absurd z (by decide))
    refine V_blk C (pc' := 207) (σ' := σ) (L' := [some (.ref 63), some (.int 1), some (.int o), some (.int v), some (.int (σ 63 8))]) (st' := [.int 1, .int 1]) (g_c dX8_set_205 (g_c dX8_set_206 g_n)) rfl rfl ?_
    refine V_icmp_ne C (tgt := 218) dX8_set_207 (by decide) (fun z => absurd z (by decide)) (fun _ => ?_)
    refine V_blk C (pc' := 215) (σ' := (g_up σ 63 8 v)) (L' := [some (.ref 63), some (.int 1), some (.int o), some (.int v), some (.int (σ 63 8))]) (st' := []) (g_c dX8_set_210 (g_c dX8_set_211 (g_c dX8_set_212 g_n))) rfl rfl ?_
    refine V_goto C (tgt := 281) dX8_set_215 (by decide) ?_
    refine V_blk C (pc' := 283) (σ' := (g_up σ 63 8 v)) (L' := [some (.ref 63), some (.int 1), some (.int o), some (.int v), some (.int (σ 63 8))]) (st' := [.int (σ 63 8)]) (g_c dX8_set_281 g_n) rfl rfl ?_
    refine V_iret C dX8_set_283 ?_
    exact ⟨by rw [if_pos h100], by rw [if_pos h100]⟩
  · skip
    refine V_blk C (pc' := 105) (σ' := σ) (L' := [some (.ref 63), some (.int 1), some (.int o), some (.int v), none]) (st' := [.int (-2)]) (g_c dX8_set_103 g_n) rfl rfl ?_
    refine V_iret C dX8_set_105 ?_
    exact ⟨by rw [if_neg (fun z => h100 z)], by rw [if_neg (fun z => h100 z)]⟩
set_option maxHeartbeats 4000000 in
set_option maxRecDepth 100000 in
theorem c_X7_set2 (σ : gS) (o v : Int32) : g_Met yX7_set cX7_set 4 (some .int) 3 kX [.ref 0, .int 2, .int o, .int v] σ (fun rv s => rv = some (.int (if g_in v 1 5 then (σ 1 11) else (-2))) ∧ s = (if g_in v 1 5 then (g_up σ 1 11 v) else σ)) := by
  refine g_Met.of (own := 7) (L := [some (.ref 0), some (.int 2), some (.int o), some (.int v)]) (by decide) rfl rfl (fun ad => Nat.le_of_ble_eq_true rfl) (fun ad => rfl) (fun X G K C => ?_)
  refine V_blk C (pc' := 1) (σ' := σ) (L' := [some (.ref 0), some (.int 2), some (.int o), some (.int v)]) (st' := [.int 2]) (g_c dX7_set_0 g_n) rfl rfl ?_
  refine V_tsw C 2 78 (tgt := 79) dX7_set_1 (by decide) (by decide) (by decide) (by decide) (fun _ => ?_) (fun z => absurd rfl z)
  refine V_blk C (pc' := 82) (σ' := σ) (L' := [some (.ref 0), some (.int 2), some (.int o), some (.int v)]) (st' := [.int v, .int 2, .ref 0]) (g_c dX7_set_79 (g_c dX7_set_80 (g_c dX7_set_81 g_n))) rfl rfl ?_
  refine V_callVI C cv_X7_99 (c_X7_changed2 σ v) ⟨_, _, _, _, rfl, rfl⟩ (by rfl) (by decide) (by decide) (fun _ h => h) (As := [.int 2, .int v]) (rest := []) rfl rfl (by decide) dX7_set_82 ?_
  refine V_iret C dX7_set_85 ?_
  exact ⟨rfl, rfl⟩
-- M2
set_option maxHeartbeats 4000000 in
set_option maxRecDepth 100000 in
theorem c_X8_set2 (σ : gS) (o v : Int32) : g_Met yX8_set cX8_set 5 (some .int) 3 kM [.ref 63, .int 2, .int o, .int v] σ (fun rv s => rv = some (.int (if g_in v 1 5 then (σ 63 9) else (-2))) ∧ s = (if g_in v 1 5 then (g_up σ 63 9 v) else σ)) := by
  refine g_Met.of (own := 8) (L := [some (.ref 63), some (.int 2), some (.int o), some (.int v), none]) (by decide) rfl rfl (fun ad => Nat.le_of_ble_eq_true rfl) (fun ad => rfl) (fun X G K C => ?_)
  refine V_blk C (pc' := 6) (σ' := σ) (L' := [some (.ref 63), some (.int 2), some (.int o), some (.int v), none]) (st' := [.long 6, .long 0, .long (Int32.toInt64 2)]) (g_c dX8_set_0 (g_c dX8_set_1 (g_c dX8_set_2 (g_c dX8_set_3 g_n)))) rfl rfl ?_
  refine V_callSI C cs_X8_110 (c_X8_in32 σ 2 0 6 (by decide) (by decide)) (by decide) (by decide) (fun _ h => h) (As := [.long (Int32.toInt64 2), .long 0, .long 6]) (rest := []) rfl rfl (by decide) dX8_set_6 ?_
  refine V_if_eq_b C (tgt := 36) dX8_set_9 (by decide) (fun z => absurd (by decide) z) (fun _ => ?_)
  refine V_blk C (pc' := 13) (σ' := σ) (L' := [some (.ref 63), some (.int 2), some (.int o), some (.int v), none]) (st' := [.int 2]) (g_c dX8_set_12 g_n) rfl rfl ?_
  refine V_if_ne C (tgt := 23) dX8_set_13 (by decide) (fun _ => ?_) (fun z => absurd z (by decide))
  refine V_blk C (pc' := 25) (σ' := σ) (L' := [some (.ref 63), some (.int 2), some (.int o), some (.int v), none]) (st' := [.int 3, .int 2]) (g_c dX8_set_23 (g_c dX8_set_24 g_n)) rfl rfl ?_
  refine V_icmp_le2 C (tgt := 39) dX8_set_25 (by decide) (fun _ => ?_) (fun z => absurd z (by decide))
  refine V_blk C (pc' := 43) (σ' := σ) (L' := [some (.ref 63), some (.int 2), some (.int o), some (.int v), none]) (st' := [.int 2, .int 2, .long (Int32.toInt64 v)]) (g_c dX8_set_39 (g_c dX8_set_40 (g_c dX8_set_41 (g_c dX8_set_42 g_n)))) rfl rfl ?_
  refine V_icmp_ne C (tgt := 50) dX8_set_43 (by decide) (fun z => absurd z (by decide)) (fun _ => ?_)
  refine V_blk C (pc' := 47) (σ' := σ) (L' := [some (.ref 63), some (.int 2), some (.int o), some (.int v), none]) (st' := [.long 1, .long (Int32.toInt64 v)]) (g_c dX8_set_46 g_n) rfl rfl ?_
  refine V_goto C (tgt := 51) dX8_set_47 (by decide) ?_
  refine V_blk C (pc' := 53) (σ' := σ) (L' := [some (.ref 63), some (.int 2), some (.int o), some (.int v), none]) (st' := [.int 1, .int 2, .long 1, .long (Int32.toInt64 v)]) (g_c dX8_set_51 (g_c dX8_set_52 g_n)) rfl rfl ?_
  refine V_icmp_ne C (tgt := 62) dX8_set_53 (by decide) (fun _ => ?_) (fun z => absurd z (by decide))
  refine V_blk C (pc' := 64) (σ' := σ) (L' := [some (.ref 63), some (.int 2), some (.int o), some (.int v), none]) (st' := [.int 2, .int 2, .long 1, .long (Int32.toInt64 v)]) (g_c dX8_set_62 (g_c dX8_set_63 g_n)) rfl rfl ?_
  refine V_icmp_ne C (tgt := 73) dX8_set_64 (by decide) (fun z => absurd z (by decide)) (fun _ => ?_)
  refine V_blk C (pc' := 70) (σ' := σ) (L' := [some (.ref 63), some (.int 2), some (.int o), some (.int v), none]) (st' := [.long 5, .long 1, .long (Int32.toInt64 v)]) (g_c dX8_set_67 g_n) rfl rfl ?_
  refine V_goto C (tgt := 97) dX8_set_70 (by decide) ?_
  refine V_callSI C cs_X8_110 (c_X8_in32 σ v 1 5 (by decide) (by decide)) (by decide) (by decide) (fun _ h => h) (As := [.long (Int32.toInt64 v), .long 1, .long 5]) (rest := []) rfl rfl (by decide) dX8_set_97 ?_
  refine V_if_ne_b C (tgt := 106) dX8_set_100 (by decide) (fun h100 => ?_) (fun h100 => ?_)
  · skip
    refine V_blk C (pc' := 107) (σ' := σ) (L' := [some (.ref 63), some (.int 2), some (.int o), some (.int v), none]) (st' := [.int 2]) (g_c dX8_set_106 g_n) rfl rfl ?_
    refine V_if_ne C (tgt := 119) dX8_set_107 (by decide) (fun _ => ?_) (fun z => absurd z (by decide))
    refine V_blk C (pc' := 121) (σ' := σ) (L' := [some (.ref 63), some (.int 2), some (.int o), some (.int v), none]) (st' := [.int 1, .int 2]) (g_c dX8_set_119 (g_c dX8_set_120 g_n)) rfl rfl ?_
    refine V_icmp_ne C (tgt := 131) dX8_set_121 (by decide) (fun _ => ?_) (fun z => absurd z (by decide))
    refine V_blk C (pc' := 133) (σ' := σ) (L' := [some (.ref 63), some (.int 2), some (.int o), some (.int v), none]) (st' := [.int 2, .int 2]) (g_c dX8_set_131 (g_c dX8_set_132 g_n)) rfl rfl ?_
    refine V_icmp_ne C (tgt := 143) dX8_set_133 (by decide) (fun z => absurd z (by decide)) (fun _ => ?_)
    refine V_blk C (pc' := 140) (σ' := σ) (L' := [some (.ref 63), some (.int 2), some (.int o), some (.int v), none]) (st' := [.int (σ 63 9)]) (g_c dX8_set_136 (g_c dX8_set_137 g_n)) rfl rfl ?_
    refine V_goto C (tgt := 189) dX8_set_140 (by decide) ?_
    refine V_blk C (pc' := 192) (σ' := σ) (L' := [some (.ref 63), some (.int 2), some (.int o), some (.int v), some (.int (σ 63 9))]) (st' := [.int 2]) (g_c dX8_set_189 (g_c dX8_set_191 g_n)) rfl rfl ?_
    refine V_if_ne C (tgt := 205) dX8_set_192 (by decide) (fun _ => ?_) (fun z => absurd z (by decide))
    refine V_blk C (pc' := 207) (σ' := σ) (L' := [some (.ref 63), some (.int 2), some (.int o), some (.int v), some (.int (σ 63 9))]) (st' := [.int 1, .int 2]) (g_c dX8_set_205 (g_c dX8_set_206 g_n)) rfl rfl ?_
    refine V_icmp_ne C (tgt := 218) dX8_set_207 (by decide) (fun _ => ?_) (fun z => absurd z (by decide))
    refine V_blk C (pc' := 220) (σ' := σ) (L' := [some (.ref 63), some (.int 2), some (.int o), some (.int v), some (.int (σ 63 9))]) (st' := [.int 2, .int 2]) (g_c dX8_set_218 (g_c dX8_set_219 g_n)) rfl rfl ?_
    refine V_icmp_ne C (tgt := 231) dX8_set_220 (by decide) (fun z => absurd z (by decide)) (fun _ => ?_)
    refine V_blk C (pc' := 228) (σ' := (g_up σ 63 9 v)) (L' := [some (.ref 63), some (.int 2), some (.int o), some (.int v), some (.int (σ 63 9))]) (st' := []) (g_c dX8_set_223 (g_c dX8_set_224 (g_c dX8_set_225 g_n))) rfl rfl ?_
    refine V_goto C (tgt := 281) dX8_set_228 (by decide) ?_
    refine V_blk C (pc' := 283) (σ' := (g_up σ 63 9 v)) (L' := [some (.ref 63), some (.int 2), some (.int o), some (.int v), some (.int (σ 63 9))]) (st' := [.int (σ 63 9)]) (g_c dX8_set_281 g_n) rfl rfl ?_
    refine V_iret C dX8_set_283 ?_
    exact ⟨by rw [if_pos h100], by rw [if_pos h100]⟩
  · skip
    refine V_blk C (pc' := 105) (σ' := σ) (L' := [some (.ref 63), some (.int 2), some (.int o), some (.int v), none]) (st' := [.int (-2)]) (g_c dX8_set_103 g_n) rfl rfl ?_
    refine V_iret C dX8_set_105 ?_
    exact ⟨by rw [if_neg (fun z => h100 z)], by rw [if_neg (fun z => h100 z)]⟩
set_option maxHeartbeats 4000000 in
set_option maxRecDepth 100000 in
theorem c_X7_set3 (σ : gS) (o v : Int32) : g_Met yX7_set cX7_set 4 (some .int) 3 kX [.ref 0, .int 3, .int o, .int v] σ (fun rv s => rv = some (.int (if g_in v 0 1 then (σ 1 12) else (-2))) ∧ s = (if g_in v 0 1 then (g_up σ 1 12 v) else σ)) := by
  refine g_Met.of (own := 7) (L := [some (.ref 0), some (.int 3), some (.int o), some (.int v)]) (by decide) rfl rfl (fun ad => Nat.le_of_ble_eq_true rfl) (fun ad => rfl) (fun X G K C => ?_)
  refine V_blk C (pc' := 1) (σ' := σ) (L' := [some (.ref 0), some (.int 3), some (.int o), some (.int v)]) (st' := [.int 3]) (g_c dX7_set_0 g_n) rfl rfl ?_
  refine V_tsw C 3 78 (tgt := 79) dX7_set_1 (by decide) (by decide) (by decide) (by decide) (fun _ => ?_) (fun z => absurd rfl z)
  refine V_blk C (pc' := 82) (σ' := σ) (L' := [some (.ref 0), some (.int 3), some (.int o), some (.int v)]) (st' := [.int v, .int 3, .ref 0]) (g_c dX7_set_79 (g_c dX7_set_80 (g_c dX7_set_81 g_n))) rfl rfl ?_
  refine V_callVI C cv_X7_99 (c_X7_changed3 σ v) ⟨_, _, _, _, rfl, rfl⟩ (by rfl) (by decide) (by decide) (fun _ h => h) (As := [.int 3, .int v]) (rest := []) rfl rfl (by decide) dX7_set_82 ?_
  refine V_iret C dX7_set_85 ?_
  exact ⟨rfl, rfl⟩
-- M3
set_option maxHeartbeats 4000000 in
set_option maxRecDepth 100000 in
theorem c_X8_set3 (σ : gS) (o v : Int32) : g_Met yX8_set cX8_set 5 (some .int) 3 kM [.ref 63, .int 3, .int o, .int v] σ (fun rv s => rv = some (.int (if g_in v 0 1 then (σ 63 10) else (-2))) ∧ s = (if g_in v 0 1 then (g_up σ 63 10 v) else σ)) := by
  refine g_Met.of (own := 8) (L := [some (.ref 63), some (.int 3), some (.int o), some (.int v), none]) (by decide) rfl rfl (fun ad => Nat.le_of_ble_eq_true rfl) (fun ad => rfl) (fun X G K C => ?_)
  refine V_blk C (pc' := 6) (σ' := σ) (L' := [some (.ref 63), some (.int 3), some (.int o), some (.int v), none]) (st' := [.long 6, .long 0, .long (Int32.toInt64 3)]) (g_c dX8_set_0 (g_c dX8_set_1 (g_c dX8_set_2 (g_c dX8_set_3 g_n)))) rfl rfl ?_
  refine V_callSI C cs_X8_110 (c_X8_in32 σ 3 0 6 (by decide) (by decide)) (by decide) (by decide) (fun _ h => h) (As := [.long (Int32.toInt64 3), .long 0, .long 6]) (rest := []) rfl rfl (by decide) dX8_set_6 ?_
  refine V_if_eq_b C (tgt := 36) dX8_set_9 (by decide) (fun z => absurd (by decide) z) (fun _ => ?_)
  refine V_blk C (pc' := 13) (σ' := σ) (L' := [some (.ref 63), some (.int 3), some (.int o), some (.int v), none]) (st' := [.int 3]) (g_c dX8_set_12 g_n) rfl rfl ?_
  refine V_if_ne C (tgt := 23) dX8_set_13 (by decide) (fun _ => ?_) (fun z => absurd z (by decide))
  refine V_blk C (pc' := 25) (σ' := σ) (L' := [some (.ref 63), some (.int 3), some (.int o), some (.int v), none]) (st' := [.int 3, .int 3]) (g_c dX8_set_23 (g_c dX8_set_24 g_n)) rfl rfl ?_
  refine V_icmp_le2 C (tgt := 39) dX8_set_25 (by decide) (fun _ => ?_) (fun z => absurd z (by decide))
  refine V_blk C (pc' := 43) (σ' := σ) (L' := [some (.ref 63), some (.int 3), some (.int o), some (.int v), none]) (st' := [.int 2, .int 3, .long (Int32.toInt64 v)]) (g_c dX8_set_39 (g_c dX8_set_40 (g_c dX8_set_41 (g_c dX8_set_42 g_n)))) rfl rfl ?_
  refine V_icmp_ne C (tgt := 50) dX8_set_43 (by decide) (fun _ => ?_) (fun z => absurd z (by decide))
  refine V_blk C (pc' := 53) (σ' := σ) (L' := [some (.ref 63), some (.int 3), some (.int o), some (.int v), none]) (st' := [.int 1, .int 3, .long 0, .long (Int32.toInt64 v)]) (g_c dX8_set_50 (g_c dX8_set_51 (g_c dX8_set_52 g_n))) rfl rfl ?_
  refine V_icmp_ne C (tgt := 62) dX8_set_53 (by decide) (fun _ => ?_) (fun z => absurd z (by decide))
  refine V_blk C (pc' := 64) (σ' := σ) (L' := [some (.ref 63), some (.int 3), some (.int o), some (.int v), none]) (st' := [.int 2, .int 3, .long 0, .long (Int32.toInt64 v)]) (g_c dX8_set_62 (g_c dX8_set_63 g_n)) rfl rfl ?_
  refine V_icmp_ne C (tgt := 73) dX8_set_64 (by decide) (fun _ => ?_) (fun z => absurd z (by decide))
  refine V_blk C (pc' := 75) (σ' := σ) (L' := [some (.ref 63), some (.int 3), some (.int o), some (.int v), none]) (st' := [.int 3, .int 3, .long 0, .long (Int32.toInt64 v)]) (g_c dX8_set_73 (g_c dX8_set_74 g_n)) rfl rfl ?_
  refine V_icmp_ne C (tgt := 82) dX8_set_75 (by decide) (fun z => absurd z (by decide)) (fun _ => ?_)
  refine V_blk C (pc' := 79) (σ' := σ) (L' := [some (.ref 63), some (.int 3), some (.int o), some (.int v), none]) (st' := [.long 1, .long 0, .long (Int32.toInt64 v)]) (g_c dX8_set_78 g_n) rfl rfl ?_
  refine V_goto C (tgt := 97) dX8_set_79 (by decide) ?_
  refine V_callSI C cs_X8_110 (c_X8_in32 σ v 0 1 (by decide) (by decide)) (by decide) (by decide) (fun _ h => h) (As := [.long (Int32.toInt64 v), .long 0, .long 1]) (rest := []) rfl rfl (by decide) dX8_set_97 ?_
  refine V_if_ne_b C (tgt := 106) dX8_set_100 (by decide) (fun h100 => ?_) (fun h100 => ?_)
  · skip
    refine V_blk C (pc' := 107) (σ' := σ) (L' := [some (.ref 63), some (.int 3), some (.int o), some (.int v), none]) (st' := [.int 3]) (g_c dX8_set_106 g_n) rfl rfl ?_
    refine V_if_ne C (tgt := 119) dX8_set_107 (by decide) (fun _ => ?_) (fun z => absurd z (by decide))
    refine V_blk C (pc' := 121) (σ' := σ) (L' := [some (.ref 63), some (.int 3), some (.int o), some (.int v), none]) (st' := [.int 1, .int 3]) (g_c dX8_set_119 (g_c dX8_set_120 g_n)) rfl rfl ?_
    refine V_icmp_ne C (tgt := 131) dX8_set_121 (by decide) (fun _ => ?_) (fun z => absurd z (by decide))
    refine V_blk C (pc' := 133) (σ' := σ) (L' := [some (.ref 63), some (.int 3), some (.int o), some (.int v), none]) (st' := [.int 2, .int 3]) (g_c dX8_set_131 (g_c dX8_set_132 g_n)) rfl rfl ?_
    refine V_icmp_ne C (tgt := 143) dX8_set_133 (by decide) (fun _ => ?_) (fun z => absurd z (by decide))
    refine V_blk C (pc' := 145) (σ' := σ) (L' := [some (.ref 63), some (.int 3), some (.int o), some (.int v), none]) (st' := [.int 3, .int 3]) (g_c dX8_set_143 (g_c dX8_set_144 g_n)) rfl rfl ?_
    refine V_icmp_ne C (tgt := 155) dX8_set_145 (by decide) (fun z => absurd z (by decide)) (fun _ => ?_)
    refine V_blk C (pc' := 152) (σ' := σ) (L' := [some (.ref 63), some (.int 3), some (.int o), some (.int v), none]) (st' := [.int (σ 63 10)]) (g_c dX8_set_148 (g_c dX8_set_149 g_n)) rfl rfl ?_
    refine V_goto C (tgt := 189) dX8_set_152 (by decide) ?_
    refine V_blk C (pc' := 192) (σ' := σ) (L' := [some (.ref 63), some (.int 3), some (.int o), some (.int v), some (.int (σ 63 10))]) (st' := [.int 3]) (g_c dX8_set_189 (g_c dX8_set_191 g_n)) rfl rfl ?_
    refine V_if_ne C (tgt := 205) dX8_set_192 (by decide) (fun _ => ?_) (fun z => absurd z (by decide))
    refine V_blk C (pc' := 207) (σ' := σ) (L' := [some (.ref 63), some (.int 3), some (.int o), some (.int v), some (.int (σ 63 10))]) (st' := [.int 1, .int 3]) (g_c dX8_set_205 (g_c dX8_set_206 g_n)) rfl rfl ?_
    refine V_icmp_ne C (tgt := 218) dX8_set_207 (by decide) (fun _ => ?_) (fun z => absurd z (by decide))
    refine V_blk C (pc' := 220) (σ' := σ) (L' := [some (.ref 63), some (.int 3), some (.int o), some (.int v), some (.int (σ 63 10))]) (st' := [.int 2, .int 3]) (g_c dX8_set_218 (g_c dX8_set_219 g_n)) rfl rfl ?_
    refine V_icmp_ne C (tgt := 231) dX8_set_220 (by decide) (fun _ => ?_) (fun z => absurd z (by decide))
    refine V_blk C (pc' := 233) (σ' := σ) (L' := [some (.ref 63), some (.int 3), some (.int o), some (.int v), some (.int (σ 63 10))]) (st' := [.int 3, .int 3]) (g_c dX8_set_231 (g_c dX8_set_232 g_n)) rfl rfl ?_
    refine V_icmp_ne C (tgt := 244) dX8_set_233 (by decide) (fun z => absurd z (by decide)) (fun _ => ?_)
    refine V_blk C (pc' := 241) (σ' := (g_up σ 63 10 v)) (L' := [some (.ref 63), some (.int 3), some (.int o), some (.int v), some (.int (σ 63 10))]) (st' := []) (g_c dX8_set_236 (g_c dX8_set_237 (g_c dX8_set_238 g_n))) rfl rfl ?_
    refine V_goto C (tgt := 281) dX8_set_241 (by decide) ?_
    refine V_blk C (pc' := 283) (σ' := (g_up σ 63 10 v)) (L' := [some (.ref 63), some (.int 3), some (.int o), some (.int v), some (.int (σ 63 10))]) (st' := [.int (σ 63 10)]) (g_c dX8_set_281 g_n) rfl rfl ?_
    refine V_iret C dX8_set_283 ?_
    exact ⟨by rw [if_pos h100], by rw [if_pos h100]⟩
  · skip
    refine V_blk C (pc' := 105) (σ' := σ) (L' := [some (.ref 63), some (.int 3), some (.int o), some (.int v), none]) (st' := [.int (-2)]) (g_c dX8_set_103 g_n) rfl rfl ?_
    refine V_iret C dX8_set_105 ?_
    exact ⟨by rw [if_neg (fun z => h100 z)], by rw [if_neg (fun z => h100 z)]⟩
set_option maxHeartbeats 4000000 in
set_option maxRecDepth 100000 in
theorem c_X7_set4 (σ : gS) (o v : Int32) {nd : Nat} (hd : σ 1 8 = nI nd) (hd6 : nd ≤ 6) : g_Met yX7_set cX7_set 4 (some .int) 3 kX [.ref 0, .int 4, .int o, .int v] σ (fun rv s => rv = some (.int (if g_in o 0 ((σ 1 8) - 1) ∧ g_in v 0 9 then (σ 4 (ix o)) else (-2))) ∧ s = (if g_in o 0 ((σ 1 8) - 1) ∧ g_in v 0 9 then (g_up σ 4 (ix o) v) else σ)) := by
  refine g_Met.of (own := 7) (L := [some (.ref 0), some (.int 4), some (.int o), some (.int v)]) (by decide) rfl rfl (fun ad => Nat.le_of_ble_eq_true rfl) (fun ad => rfl) (fun X G K C => ?_)
  refine V_blk C (pc' := 1) (σ' := σ) (L' := [some (.ref 0), some (.int 4), some (.int o), some (.int v)]) (st' := [.int 4]) (g_c dX7_set_0 g_n) rfl rfl ?_
  refine V_tsw C 4 85 (tgt := 86) dX7_set_1 (by decide) (by decide) (by decide) (by decide) (fun _ => ?_) (fun z => absurd rfl z)
  refine V_blk C (pc' := 88) (σ' := σ) (L' := [some (.ref 0), some (.int 4), some (.int o), some (.int v)]) (st' := [.int o, .ref 0]) (g_c dX7_set_86 (g_c dX7_set_87 g_n)) rfl rfl ?_
  refine V_callVI C cv_X7_103 (c_X7_isDrip σ o) ⟨_, _, _, _, rfl, rfl⟩ (by rfl) (by decide) (by decide) (fun _ h => h) (As := [.int o]) (rest := []) rfl rfl (by decide) dX7_set_88 ?_
  refine V_if_eq_b C (tgt := 119) dX7_set_91 (by decide) (fun h91 => ?_) (fun h91 => ?_)
  · skip
    refine V_blk C (pc' := 121) (σ' := σ) (L' := [some (.ref 0), some (.int 4), some (.int o), some (.int v)]) (st' := [.int (-2)]) (g_c dX7_set_119 g_n) rfl rfl ?_
    refine V_iret C dX7_set_121 ?_
    exact ⟨by rw [if_neg (fun z => h91 z.1)], by rw [if_neg (fun z => h91 z.1)]⟩
  · skip
    refine V_blk C (pc' := 98) (σ' := σ) (L' := [some (.ref 0), some (.int 4), some (.int o), some (.int v)]) (st' := [.int 9, .int 0, .int v]) (g_c dX7_set_94 (g_c dX7_set_95 (g_c dX7_set_96 g_n))) rfl rfl ?_
    refine V_callSI C cs_X7_87 (c_X7_isIn σ v 0 9) (by decide) (by decide) (fun _ h => h) (As := [.int v, .int 0, .int 9]) (rest := []) rfl rfl (by decide) dX7_set_98 ?_
    refine V_if_eq_b C (tgt := 119) dX7_set_101 (by decide) (fun h101 => ?_) (fun h101 => ?_)
    · skip
      refine V_blk C (pc' := 121) (σ' := σ) (L' := [some (.ref 0), some (.int 4), some (.int o), some (.int v)]) (st' := [.int (-2)]) (g_c dX7_set_119 g_n) rfl rfl ?_
      refine V_iret C dX7_set_121 ?_
      exact ⟨by rw [if_neg (fun z => h101 z.2)], by rw [if_neg (fun z => h101 z.2)]⟩
    · skip
      refine V_blk C (pc' := 113) (σ' := σ) (L' := [some (.ref 0), some (.int 4), some (.int o), some (.int v)]) (st' := [.int v, .int o, .ref 4]) (g_c dX7_set_104 (g_c dX7_set_105 (g_c dX7_set_108 (g_c dX7_set_111 (g_c dX7_set_112 g_n))))) rfl rfl ?_
      refine V_callSI C cs_X7_95 (c_X7_swapped_4 σ o v (g_vp h91 hd hd6 (by decide))) (by decide) (by decide) (fun _ h => h) (As := [.ref 4, .int o, .int v]) (rest := []) rfl rfl (by decide) dX7_set_113 ?_
      refine V_goto C (tgt := 121) dX7_set_116 (by decide) ?_
      refine V_iret C dX7_set_121 ?_
      exact ⟨by rw [if_pos ⟨h91, h101⟩], by rw [if_pos ⟨h91, h101⟩]⟩
-- M4
set_option maxHeartbeats 4000000 in
set_option maxRecDepth 100000 in
theorem c_X8_set4 (σ : gS) (o v : Int32) {nd : Nat} (hd : σ 63 15 = nI nd) (hd6 : nd ≤ 6) : g_Met yX8_set cX8_set 5 (some .int) 3 kM [.ref 63, .int 4, .int o, .int v] σ (fun rv s => rv = some (.int (if g_in o 0 ((σ 63 15) - 1) ∧ g_in v 0 9 then (σ 69 (ix o)) else (-2))) ∧ s = (if g_in o 0 ((σ 63 15) - 1) ∧ g_in v 0 9 then (g_up σ 69 (ix o) v) else σ)) := by
  refine g_Met.of (own := 8) (L := [some (.ref 63), some (.int 4), some (.int o), some (.int v), none]) (by decide) rfl rfl (fun ad => Nat.le_of_ble_eq_true rfl) (fun ad => rfl) (fun X G K C => ?_)
  refine V_blk C (pc' := 6) (σ' := σ) (L' := [some (.ref 63), some (.int 4), some (.int o), some (.int v), none]) (st' := [.long 6, .long 0, .long (Int32.toInt64 4)]) (g_c dX8_set_0 (g_c dX8_set_1 (g_c dX8_set_2 (g_c dX8_set_3 g_n)))) rfl rfl ?_
  refine V_callSI C cs_X8_110 (c_X8_in32 σ 4 0 6 (by decide) (by decide)) (by decide) (by decide) (fun _ h => h) (As := [.long (Int32.toInt64 4), .long 0, .long 6]) (rest := []) rfl rfl (by decide) dX8_set_6 ?_
  refine V_if_eq_b C (tgt := 36) dX8_set_9 (by decide) (fun z => absurd (by decide) z) (fun _ => ?_)
  refine V_blk C (pc' := 13) (σ' := σ) (L' := [some (.ref 63), some (.int 4), some (.int o), some (.int v), none]) (st' := [.int 4]) (g_c dX8_set_12 g_n) rfl rfl ?_
  refine V_if_ne C (tgt := 23) dX8_set_13 (by decide) (fun _ => ?_) (fun z => absurd z (by decide))
  refine V_blk C (pc' := 25) (σ' := σ) (L' := [some (.ref 63), some (.int 4), some (.int o), some (.int v), none]) (st' := [.int 3, .int 4]) (g_c dX8_set_23 (g_c dX8_set_24 g_n)) rfl rfl ?_
  refine V_icmp_le2 C (tgt := 39) dX8_set_25 (by decide) (fun z => absurd z (by decide)) (fun _ => ?_)
  refine V_blk C (pc' := 30) (σ' := σ) (L' := [some (.ref 63), some (.int 4), some (.int o), some (.int v), none]) (st' := [.int o, .ref 63]) (g_c dX8_set_28 (g_c dX8_set_29 g_n)) rfl rfl ?_
  refine V_callVI C cv_X8_127 (c_X8_isDrip σ o) ⟨_, _, _, _, rfl, rfl⟩ (by rfl) (by decide) (by decide) (fun _ h => h) (As := [.int o]) (rest := []) rfl rfl (by decide) dX8_set_30 ?_
  refine V_if_ne_b C (tgt := 39) dX8_set_33 (by decide) (fun h33 => ?_) (fun h33 => ?_)
  · skip
    refine V_blk C (pc' := 43) (σ' := σ) (L' := [some (.ref 63), some (.int 4), some (.int o), some (.int v), none]) (st' := [.int 2, .int 4, .long (Int32.toInt64 v)]) (g_c dX8_set_39 (g_c dX8_set_40 (g_c dX8_set_41 (g_c dX8_set_42 g_n)))) rfl rfl ?_
    refine V_icmp_ne C (tgt := 50) dX8_set_43 (by decide) (fun _ => ?_) (fun z => absurd z (by decide))
    refine V_blk C (pc' := 53) (σ' := σ) (L' := [some (.ref 63), some (.int 4), some (.int o), some (.int v), none]) (st' := [.int 1, .int 4, .long 0, .long (Int32.toInt64 v)]) (g_c dX8_set_50 (g_c dX8_set_51 (g_c dX8_set_52 g_n))) rfl rfl ?_
    refine V_icmp_ne C (tgt := 62) dX8_set_53 (by decide) (fun _ => ?_) (fun z => absurd z (by decide))
    refine V_blk C (pc' := 64) (σ' := σ) (L' := [some (.ref 63), some (.int 4), some (.int o), some (.int v), none]) (st' := [.int 2, .int 4, .long 0, .long (Int32.toInt64 v)]) (g_c dX8_set_62 (g_c dX8_set_63 g_n)) rfl rfl ?_
    refine V_icmp_ne C (tgt := 73) dX8_set_64 (by decide) (fun _ => ?_) (fun z => absurd z (by decide))
    refine V_blk C (pc' := 75) (σ' := σ) (L' := [some (.ref 63), some (.int 4), some (.int o), some (.int v), none]) (st' := [.int 3, .int 4, .long 0, .long (Int32.toInt64 v)]) (g_c dX8_set_73 (g_c dX8_set_74 g_n)) rfl rfl ?_
    refine V_icmp_ne C (tgt := 82) dX8_set_75 (by decide) (fun _ => ?_) (fun z => absurd z (by decide))
    refine V_blk C (pc' := 85) (σ' := σ) (L' := [some (.ref 63), some (.int 4), some (.int o), some (.int v), none]) (st' := [.int 6, .int 4, .long 0, .long (Int32.toInt64 v)]) (g_c dX8_set_82 (g_c dX8_set_83 g_n)) rfl rfl ?_
    refine V_icmp_ne C (tgt := 94) dX8_set_85 (by decide) (fun _ => ?_) (fun z => absurd z (by decide))
    refine V_blk C (pc' := 97) (σ' := σ) (L' := [some (.ref 63), some (.int 4), some (.int o), some (.int v), none]) (st' := [.long 9, .long 0, .long (Int32.toInt64 v)]) (g_c dX8_set_94 g_n) rfl rfl ?_
    refine V_callSI C cs_X8_110 (c_X8_in32 σ v 0 9 (by decide) (by decide)) (by decide) (by decide) (fun _ h => h) (As := [.long (Int32.toInt64 v), .long 0, .long 9]) (rest := []) rfl rfl (by decide) dX8_set_97 ?_
    refine V_if_ne_b C (tgt := 106) dX8_set_100 (by decide) (fun h100 => ?_) (fun h100 => ?_)
    · skip
      refine V_blk C (pc' := 107) (σ' := σ) (L' := [some (.ref 63), some (.int 4), some (.int o), some (.int v), none]) (st' := [.int 4]) (g_c dX8_set_106 g_n) rfl rfl ?_
      refine V_if_ne C (tgt := 119) dX8_set_107 (by decide) (fun _ => ?_) (fun z => absurd z (by decide))
      refine V_blk C (pc' := 121) (σ' := σ) (L' := [some (.ref 63), some (.int 4), some (.int o), some (.int v), none]) (st' := [.int 1, .int 4]) (g_c dX8_set_119 (g_c dX8_set_120 g_n)) rfl rfl ?_
      refine V_icmp_ne C (tgt := 131) dX8_set_121 (by decide) (fun _ => ?_) (fun z => absurd z (by decide))
      refine V_blk C (pc' := 133) (σ' := σ) (L' := [some (.ref 63), some (.int 4), some (.int o), some (.int v), none]) (st' := [.int 2, .int 4]) (g_c dX8_set_131 (g_c dX8_set_132 g_n)) rfl rfl ?_
      refine V_icmp_ne C (tgt := 143) dX8_set_133 (by decide) (fun _ => ?_) (fun z => absurd z (by decide))
      refine V_blk C (pc' := 145) (σ' := σ) (L' := [some (.ref 63), some (.int 4), some (.int o), some (.int v), none]) (st' := [.int 3, .int 4]) (g_c dX8_set_143 (g_c dX8_set_144 g_n)) rfl rfl ?_
      refine V_icmp_ne C (tgt := 155) dX8_set_145 (by decide) (fun _ => ?_) (fun z => absurd z (by decide))
      refine V_blk C (pc' := 157) (σ' := σ) (L' := [some (.ref 63), some (.int 4), some (.int o), some (.int v), none]) (st' := [.int 4, .int 4]) (g_c dX8_set_155 (g_c dX8_set_156 g_n)) rfl rfl ?_
      refine V_icmp_ne C (tgt := 169) dX8_set_157 (by decide) (fun z => absurd z (by decide)) (fun _ => ?_)
      refine V_blk C (pc' := 165) (σ' := σ) (L' := [some (.ref 63), some (.int 4), some (.int o), some (.int v), none]) (st' := [.int o, .ref 69]) (g_c dX8_set_160 (g_c dX8_set_161 (g_c dX8_set_164 g_n))) rfl rfl ?_
      refine V_iald C (k := 69) (n := 6) (by rfl) (by rfl) (g_vp h33 hd hd6 (by decide)) dX8_set_165 ?_
      refine V_goto C (tgt := 189) dX8_set_166 (by decide) ?_
      refine V_blk C (pc' := 192) (σ' := σ) (L' := [some (.ref 63), some (.int 4), some (.int o), some (.int v), some (.int (σ 69 (Int32.toNatClampNeg o)))]) (st' := [.int 4]) (g_c dX8_set_189 (g_c dX8_set_191 g_n)) rfl rfl ?_
      refine V_if_ne C (tgt := 205) dX8_set_192 (by decide) (fun _ => ?_) (fun z => absurd z (by decide))
      refine V_blk C (pc' := 207) (σ' := σ) (L' := [some (.ref 63), some (.int 4), some (.int o), some (.int v), some (.int (σ 69 (Int32.toNatClampNeg o)))]) (st' := [.int 1, .int 4]) (g_c dX8_set_205 (g_c dX8_set_206 g_n)) rfl rfl ?_
      refine V_icmp_ne C (tgt := 218) dX8_set_207 (by decide) (fun _ => ?_) (fun z => absurd z (by decide))
      refine V_blk C (pc' := 220) (σ' := σ) (L' := [some (.ref 63), some (.int 4), some (.int o), some (.int v), some (.int (σ 69 (Int32.toNatClampNeg o)))]) (st' := [.int 2, .int 4]) (g_c dX8_set_218 (g_c dX8_set_219 g_n)) rfl rfl ?_
      refine V_icmp_ne C (tgt := 231) dX8_set_220 (by decide) (fun _ => ?_) (fun z => absurd z (by decide))
      refine V_blk C (pc' := 233) (σ' := σ) (L' := [some (.ref 63), some (.int 4), some (.int o), some (.int v), some (.int (σ 69 (Int32.toNatClampNeg o)))]) (st' := [.int 3, .int 4]) (g_c dX8_set_231 (g_c dX8_set_232 g_n)) rfl rfl ?_
      refine V_icmp_ne C (tgt := 244) dX8_set_233 (by decide) (fun _ => ?_) (fun z => absurd z (by decide))
      refine V_blk C (pc' := 246) (σ' := σ) (L' := [some (.ref 63), some (.int 4), some (.int o), some (.int v), some (.int (σ 69 (Int32.toNatClampNeg o)))]) (st' := [.int 4, .int 4]) (g_c dX8_set_244 (g_c dX8_set_245 g_n)) rfl rfl ?_
      refine V_icmp_ne C (tgt := 259) dX8_set_246 (by decide) (fun z => absurd z (by decide)) (fun _ => ?_)
      refine V_blk C (pc' := 255) (σ' := σ) (L' := [some (.ref 63), some (.int 4), some (.int o), some (.int v), some (.int (σ 69 (Int32.toNatClampNeg o)))]) (st' := [.int v, .int o, .ref 69]) (g_c dX8_set_249 (g_c dX8_set_250 (g_c dX8_set_253 (g_c dX8_set_254 g_n)))) rfl rfl ?_
      refine V_iast C (k := 69) (n := 6) (by rfl) (by rfl) (g_vp h33 hd hd6 (by decide)) dX8_set_255 ?_
      refine V_goto C (tgt := 281) dX8_set_256 (by decide) ?_
      refine V_blk C (pc' := 283) (σ' := (g_up σ 69 (Int32.toNatClampNeg o) v)) (L' := [some (.ref 63), some (.int 4), some (.int o), some (.int v), some (.int (σ 69 (Int32.toNatClampNeg o)))]) (st' := [.int (σ 69 (Int32.toNatClampNeg o))]) (g_c dX8_set_281 g_n) rfl rfl ?_
      refine V_iret C dX8_set_283 ?_
      exact ⟨by rw [if_pos ⟨h33, h100⟩], by rw [if_pos ⟨h33, h100⟩]⟩
    · skip
      refine V_blk C (pc' := 105) (σ' := σ) (L' := [some (.ref 63), some (.int 4), some (.int o), some (.int v), none]) (st' := [.int (-2)]) (g_c dX8_set_103 g_n) rfl rfl ?_
      refine V_iret C dX8_set_105 ?_
      exact ⟨by rw [if_neg (fun z => h100 z.2)], by rw [if_neg (fun z => h100 z.2)]⟩
  · skip
    refine V_blk C (pc' := 38) (σ' := σ) (L' := [some (.ref 63), some (.int 4), some (.int o), some (.int v), none]) (st' := [.int (-2)]) (g_c dX8_set_36 g_n) rfl rfl ?_
    refine V_iret C dX8_set_38 ?_
    exact ⟨by rw [if_neg (fun z => h33 z.1)], by rw [if_neg (fun z => h33 z.1)]⟩
set_option maxHeartbeats 4000000 in
set_option maxRecDepth 100000 in
theorem c_X7_set5 (σ : gS) (o v : Int32) {nd : Nat} (hd : σ 1 8 = nI nd) (hd6 : nd ≤ 6) : g_Met yX7_set cX7_set 4 (some .int) 3 kX [.ref 0, .int 5, .int o, .int v] σ (fun rv s => rv = some (.int (if g_in o 0 ((σ 1 8) - 1) ∧ g_in v 0 9 then (σ 5 (ix o)) else (-2))) ∧ s = (if g_in o 0 ((σ 1 8) - 1) ∧ g_in v 0 9 then (g_up σ 5 (ix o) v) else σ)) := by
  refine g_Met.of (own := 7) (L := [some (.ref 0), some (.int 5), some (.int o), some (.int v)]) (by decide) rfl rfl (fun ad => Nat.le_of_ble_eq_true rfl) (fun ad => rfl) (fun X G K C => ?_)
  refine V_blk C (pc' := 1) (σ' := σ) (L' := [some (.ref 0), some (.int 5), some (.int o), some (.int v)]) (st' := [.int 5]) (g_c dX7_set_0 g_n) rfl rfl ?_
  refine V_tsw C 5 121 (tgt := 122) dX7_set_1 (by decide) (by decide) (by decide) (by decide) (fun _ => ?_) (fun z => absurd rfl z)
  refine V_blk C (pc' := 124) (σ' := σ) (L' := [some (.ref 0), some (.int 5), some (.int o), some (.int v)]) (st' := [.int o, .ref 0]) (g_c dX7_set_122 (g_c dX7_set_123 g_n)) rfl rfl ?_
  refine V_callVI C cv_X7_103 (c_X7_isDrip σ o) ⟨_, _, _, _, rfl, rfl⟩ (by rfl) (by decide) (by decide) (fun _ h => h) (As := [.int o]) (rest := []) rfl rfl (by decide) dX7_set_124 ?_
  refine V_if_eq_b C (tgt := 155) dX7_set_127 (by decide) (fun h127 => ?_) (fun h127 => ?_)
  · skip
    refine V_blk C (pc' := 157) (σ' := σ) (L' := [some (.ref 0), some (.int 5), some (.int o), some (.int v)]) (st' := [.int (-2)]) (g_c dX7_set_155 g_n) rfl rfl ?_
    refine V_iret C dX7_set_157 ?_
    exact ⟨by rw [if_neg (fun z => h127 z.1)], by rw [if_neg (fun z => h127 z.1)]⟩
  · skip
    refine V_blk C (pc' := 134) (σ' := σ) (L' := [some (.ref 0), some (.int 5), some (.int o), some (.int v)]) (st' := [.int 9, .int 0, .int v]) (g_c dX7_set_130 (g_c dX7_set_131 (g_c dX7_set_132 g_n))) rfl rfl ?_
    refine V_callSI C cs_X7_87 (c_X7_isIn σ v 0 9) (by decide) (by decide) (fun _ h => h) (As := [.int v, .int 0, .int 9]) (rest := []) rfl rfl (by decide) dX7_set_134 ?_
    refine V_if_eq_b C (tgt := 155) dX7_set_137 (by decide) (fun h137 => ?_) (fun h137 => ?_)
    · skip
      refine V_blk C (pc' := 157) (σ' := σ) (L' := [some (.ref 0), some (.int 5), some (.int o), some (.int v)]) (st' := [.int (-2)]) (g_c dX7_set_155 g_n) rfl rfl ?_
      refine V_iret C dX7_set_157 ?_
      exact ⟨by rw [if_neg (fun z => h137 z.2)], by rw [if_neg (fun z => h137 z.2)]⟩
    · skip
      refine V_blk C (pc' := 149) (σ' := σ) (L' := [some (.ref 0), some (.int 5), some (.int o), some (.int v)]) (st' := [.int v, .int o, .ref 5]) (g_c dX7_set_140 (g_c dX7_set_141 (g_c dX7_set_144 (g_c dX7_set_147 (g_c dX7_set_148 g_n))))) rfl rfl ?_
      refine V_callSI C cs_X7_95 (c_X7_swapped_5 σ o v (g_vp h127 hd hd6 (by decide))) (by decide) (by decide) (fun _ h => h) (As := [.ref 5, .int o, .int v]) (rest := []) rfl rfl (by decide) dX7_set_149 ?_
      refine V_goto C (tgt := 157) dX7_set_152 (by decide) ?_
      refine V_iret C dX7_set_157 ?_
      exact ⟨by rw [if_pos ⟨h127, h137⟩], by rw [if_pos ⟨h127, h137⟩]⟩
-- M5
set_option maxHeartbeats 4000000 in
set_option maxRecDepth 100000 in
theorem c_X8_set5 (σ : gS) (o v : Int32) {nd : Nat} (hd : σ 63 15 = nI nd) (hd6 : nd ≤ 6) : g_Met yX8_set cX8_set 5 (some .int) 3 kM [.ref 63, .int 5, .int o, .int v] σ (fun rv s => rv = some (.int (if g_in o 0 ((σ 63 15) - 1) ∧ g_in v 0 9 then (σ 70 (ix o)) else (-2))) ∧ s = (if g_in o 0 ((σ 63 15) - 1) ∧ g_in v 0 9 then (g_up σ 70 (ix o) v) else σ)) := by
  refine g_Met.of (own := 8) (L := [some (.ref 63), some (.int 5), some (.int o), some (.int v), none]) (by decide) rfl rfl (fun ad => Nat.le_of_ble_eq_true rfl) (fun ad => rfl) (fun X G K C => ?_)
  refine V_blk C (pc' := 6) (σ' := σ) (L' := [some (.ref 63), some (.int 5), some (.int o), some (.int v), none]) (st' := [.long 6, .long 0, .long (Int32.toInt64 5)]) (g_c dX8_set_0 (g_c dX8_set_1 (g_c dX8_set_2 (g_c dX8_set_3 g_n)))) rfl rfl ?_
  refine V_callSI C cs_X8_110 (c_X8_in32 σ 5 0 6 (by decide) (by decide)) (by decide) (by decide) (fun _ h => h) (As := [.long (Int32.toInt64 5), .long 0, .long 6]) (rest := []) rfl rfl (by decide) dX8_set_6 ?_
  refine V_if_eq_b C (tgt := 36) dX8_set_9 (by decide) (fun z => absurd (by decide) z) (fun _ => ?_)
  refine V_blk C (pc' := 13) (σ' := σ) (L' := [some (.ref 63), some (.int 5), some (.int o), some (.int v), none]) (st' := [.int 5]) (g_c dX8_set_12 g_n) rfl rfl ?_
  refine V_if_ne C (tgt := 23) dX8_set_13 (by decide) (fun _ => ?_) (fun z => absurd z (by decide))
  refine V_blk C (pc' := 25) (σ' := σ) (L' := [some (.ref 63), some (.int 5), some (.int o), some (.int v), none]) (st' := [.int 3, .int 5]) (g_c dX8_set_23 (g_c dX8_set_24 g_n)) rfl rfl ?_
  refine V_icmp_le2 C (tgt := 39) dX8_set_25 (by decide) (fun z => absurd z (by decide)) (fun _ => ?_)
  refine V_blk C (pc' := 30) (σ' := σ) (L' := [some (.ref 63), some (.int 5), some (.int o), some (.int v), none]) (st' := [.int o, .ref 63]) (g_c dX8_set_28 (g_c dX8_set_29 g_n)) rfl rfl ?_
  refine V_callVI C cv_X8_127 (c_X8_isDrip σ o) ⟨_, _, _, _, rfl, rfl⟩ (by rfl) (by decide) (by decide) (fun _ h => h) (As := [.int o]) (rest := []) rfl rfl (by decide) dX8_set_30 ?_
  refine V_if_ne_b C (tgt := 39) dX8_set_33 (by decide) (fun h33 => ?_) (fun h33 => ?_)
  · skip
    refine V_blk C (pc' := 43) (σ' := σ) (L' := [some (.ref 63), some (.int 5), some (.int o), some (.int v), none]) (st' := [.int 2, .int 5, .long (Int32.toInt64 v)]) (g_c dX8_set_39 (g_c dX8_set_40 (g_c dX8_set_41 (g_c dX8_set_42 g_n)))) rfl rfl ?_
    refine V_icmp_ne C (tgt := 50) dX8_set_43 (by decide) (fun _ => ?_) (fun z => absurd z (by decide))
    refine V_blk C (pc' := 53) (σ' := σ) (L' := [some (.ref 63), some (.int 5), some (.int o), some (.int v), none]) (st' := [.int 1, .int 5, .long 0, .long (Int32.toInt64 v)]) (g_c dX8_set_50 (g_c dX8_set_51 (g_c dX8_set_52 g_n))) rfl rfl ?_
    refine V_icmp_ne C (tgt := 62) dX8_set_53 (by decide) (fun _ => ?_) (fun z => absurd z (by decide))
    refine V_blk C (pc' := 64) (σ' := σ) (L' := [some (.ref 63), some (.int 5), some (.int o), some (.int v), none]) (st' := [.int 2, .int 5, .long 0, .long (Int32.toInt64 v)]) (g_c dX8_set_62 (g_c dX8_set_63 g_n)) rfl rfl ?_
    refine V_icmp_ne C (tgt := 73) dX8_set_64 (by decide) (fun _ => ?_) (fun z => absurd z (by decide))
    refine V_blk C (pc' := 75) (σ' := σ) (L' := [some (.ref 63), some (.int 5), some (.int o), some (.int v), none]) (st' := [.int 3, .int 5, .long 0, .long (Int32.toInt64 v)]) (g_c dX8_set_73 (g_c dX8_set_74 g_n)) rfl rfl ?_
    refine V_icmp_ne C (tgt := 82) dX8_set_75 (by decide) (fun _ => ?_) (fun z => absurd z (by decide))
    refine V_blk C (pc' := 85) (σ' := σ) (L' := [some (.ref 63), some (.int 5), some (.int o), some (.int v), none]) (st' := [.int 6, .int 5, .long 0, .long (Int32.toInt64 v)]) (g_c dX8_set_82 (g_c dX8_set_83 g_n)) rfl rfl ?_
    refine V_icmp_ne C (tgt := 94) dX8_set_85 (by decide) (fun _ => ?_) (fun z => absurd z (by decide))
    refine V_blk C (pc' := 97) (σ' := σ) (L' := [some (.ref 63), some (.int 5), some (.int o), some (.int v), none]) (st' := [.long 9, .long 0, .long (Int32.toInt64 v)]) (g_c dX8_set_94 g_n) rfl rfl ?_
    refine V_callSI C cs_X8_110 (c_X8_in32 σ v 0 9 (by decide) (by decide)) (by decide) (by decide) (fun _ h => h) (As := [.long (Int32.toInt64 v), .long 0, .long 9]) (rest := []) rfl rfl (by decide) dX8_set_97 ?_
    refine V_if_ne_b C (tgt := 106) dX8_set_100 (by decide) (fun h100 => ?_) (fun h100 => ?_)
    · skip
      refine V_blk C (pc' := 107) (σ' := σ) (L' := [some (.ref 63), some (.int 5), some (.int o), some (.int v), none]) (st' := [.int 5]) (g_c dX8_set_106 g_n) rfl rfl ?_
      refine V_if_ne C (tgt := 119) dX8_set_107 (by decide) (fun _ => ?_) (fun z => absurd z (by decide))
      refine V_blk C (pc' := 121) (σ' := σ) (L' := [some (.ref 63), some (.int 5), some (.int o), some (.int v), none]) (st' := [.int 1, .int 5]) (g_c dX8_set_119 (g_c dX8_set_120 g_n)) rfl rfl ?_
      refine V_icmp_ne C (tgt := 131) dX8_set_121 (by decide) (fun _ => ?_) (fun z => absurd z (by decide))
      refine V_blk C (pc' := 133) (σ' := σ) (L' := [some (.ref 63), some (.int 5), some (.int o), some (.int v), none]) (st' := [.int 2, .int 5]) (g_c dX8_set_131 (g_c dX8_set_132 g_n)) rfl rfl ?_
      refine V_icmp_ne C (tgt := 143) dX8_set_133 (by decide) (fun _ => ?_) (fun z => absurd z (by decide))
      refine V_blk C (pc' := 145) (σ' := σ) (L' := [some (.ref 63), some (.int 5), some (.int o), some (.int v), none]) (st' := [.int 3, .int 5]) (g_c dX8_set_143 (g_c dX8_set_144 g_n)) rfl rfl ?_
      refine V_icmp_ne C (tgt := 155) dX8_set_145 (by decide) (fun _ => ?_) (fun z => absurd z (by decide))
      refine V_blk C (pc' := 157) (σ' := σ) (L' := [some (.ref 63), some (.int 5), some (.int o), some (.int v), none]) (st' := [.int 4, .int 5]) (g_c dX8_set_155 (g_c dX8_set_156 g_n)) rfl rfl ?_
      refine V_icmp_ne C (tgt := 169) dX8_set_157 (by decide) (fun _ => ?_) (fun z => absurd z (by decide))
      refine V_blk C (pc' := 171) (σ' := σ) (L' := [some (.ref 63), some (.int 5), some (.int o), some (.int v), none]) (st' := [.int 5, .int 5]) (g_c dX8_set_169 (g_c dX8_set_170 g_n)) rfl rfl ?_
      refine V_icmp_ne C (tgt := 183) dX8_set_171 (by decide) (fun z => absurd z (by decide)) (fun _ => ?_)
      refine V_blk C (pc' := 179) (σ' := σ) (L' := [some (.ref 63), some (.int 5), some (.int o), some (.int v), none]) (st' := [.int o, .ref 70]) (g_c dX8_set_174 (g_c dX8_set_175 (g_c dX8_set_178 g_n))) rfl rfl ?_
      refine V_iald C (k := 70) (n := 6) (by rfl) (by rfl) (g_vp h33 hd hd6 (by decide)) dX8_set_179 ?_
      refine V_goto C (tgt := 189) dX8_set_180 (by decide) ?_
      refine V_blk C (pc' := 192) (σ' := σ) (L' := [some (.ref 63), some (.int 5), some (.int o), some (.int v), some (.int (σ 70 (Int32.toNatClampNeg o)))]) (st' := [.int 5]) (g_c dX8_set_189 (g_c dX8_set_191 g_n)) rfl rfl ?_
      refine V_if_ne C (tgt := 205) dX8_set_192 (by decide) (fun _ => ?_) (fun z => absurd z (by decide))
      refine V_blk C (pc' := 207) (σ' := σ) (L' := [some (.ref 63), some (.int 5), some (.int o), some (.int v), some (.int (σ 70 (Int32.toNatClampNeg o)))]) (st' := [.int 1, .int 5]) (g_c dX8_set_205 (g_c dX8_set_206 g_n)) rfl rfl ?_
      refine V_icmp_ne C (tgt := 218) dX8_set_207 (by decide) (fun _ => ?_) (fun z => absurd z (by decide))
      refine V_blk C (pc' := 220) (σ' := σ) (L' := [some (.ref 63), some (.int 5), some (.int o), some (.int v), some (.int (σ 70 (Int32.toNatClampNeg o)))]) (st' := [.int 2, .int 5]) (g_c dX8_set_218 (g_c dX8_set_219 g_n)) rfl rfl ?_
      refine V_icmp_ne C (tgt := 231) dX8_set_220 (by decide) (fun _ => ?_) (fun z => absurd z (by decide))
      refine V_blk C (pc' := 233) (σ' := σ) (L' := [some (.ref 63), some (.int 5), some (.int o), some (.int v), some (.int (σ 70 (Int32.toNatClampNeg o)))]) (st' := [.int 3, .int 5]) (g_c dX8_set_231 (g_c dX8_set_232 g_n)) rfl rfl ?_
      refine V_icmp_ne C (tgt := 244) dX8_set_233 (by decide) (fun _ => ?_) (fun z => absurd z (by decide))
      refine V_blk C (pc' := 246) (σ' := σ) (L' := [some (.ref 63), some (.int 5), some (.int o), some (.int v), some (.int (σ 70 (Int32.toNatClampNeg o)))]) (st' := [.int 4, .int 5]) (g_c dX8_set_244 (g_c dX8_set_245 g_n)) rfl rfl ?_
      refine V_icmp_ne C (tgt := 259) dX8_set_246 (by decide) (fun _ => ?_) (fun z => absurd z (by decide))
      refine V_blk C (pc' := 261) (σ' := σ) (L' := [some (.ref 63), some (.int 5), some (.int o), some (.int v), some (.int (σ 70 (Int32.toNatClampNeg o)))]) (st' := [.int 5, .int 5]) (g_c dX8_set_259 (g_c dX8_set_260 g_n)) rfl rfl ?_
      refine V_icmp_ne C (tgt := 274) dX8_set_261 (by decide) (fun z => absurd z (by decide)) (fun _ => ?_)
      refine V_blk C (pc' := 270) (σ' := σ) (L' := [some (.ref 63), some (.int 5), some (.int o), some (.int v), some (.int (σ 70 (Int32.toNatClampNeg o)))]) (st' := [.int v, .int o, .ref 70]) (g_c dX8_set_264 (g_c dX8_set_265 (g_c dX8_set_268 (g_c dX8_set_269 g_n)))) rfl rfl ?_
      refine V_iast C (k := 70) (n := 6) (by rfl) (by rfl) (g_vp h33 hd hd6 (by decide)) dX8_set_270 ?_
      refine V_goto C (tgt := 281) dX8_set_271 (by decide) ?_
      refine V_blk C (pc' := 283) (σ' := (g_up σ 70 (Int32.toNatClampNeg o) v)) (L' := [some (.ref 63), some (.int 5), some (.int o), some (.int v), some (.int (σ 70 (Int32.toNatClampNeg o)))]) (st' := [.int (σ 70 (Int32.toNatClampNeg o))]) (g_c dX8_set_281 g_n) rfl rfl ?_
      refine V_iret C dX8_set_283 ?_
      exact ⟨by rw [if_pos ⟨h33, h100⟩], by rw [if_pos ⟨h33, h100⟩]⟩
    · skip
      refine V_blk C (pc' := 105) (σ' := σ) (L' := [some (.ref 63), some (.int 5), some (.int o), some (.int v), none]) (st' := [.int (-2)]) (g_c dX8_set_103 g_n) rfl rfl ?_
      refine V_iret C dX8_set_105 ?_
      exact ⟨by rw [if_neg (fun z => h100 z.2)], by rw [if_neg (fun z => h100 z.2)]⟩
  · skip
    refine V_blk C (pc' := 38) (σ' := σ) (L' := [some (.ref 63), some (.int 5), some (.int o), some (.int v), none]) (st' := [.int (-2)]) (g_c dX8_set_36 g_n) rfl rfl ?_
    refine V_iret C dX8_set_38 ?_
    exact ⟨by rw [if_neg (fun z => h33 z.1)], by rw [if_neg (fun z => h33 z.1)]⟩
set_option maxHeartbeats 4000000 in
set_option maxRecDepth 100000 in
theorem c_X7_set6 (σ : gS) (o v : Int32) {nd : Nat} (hd : σ 1 8 = nI nd) (hd6 : nd ≤ 6) : g_Met yX7_set cX7_set 4 (some .int) 3 kX [.ref 0, .int 6, .int o, .int v] σ (fun rv s => rv = some (.int (if g_in o 0 ((σ 1 8) - 1) ∧ g_in v 0 7 then (σ 6 (ix o)) else (-2))) ∧ s = (if g_in o 0 ((σ 1 8) - 1) ∧ g_in v 0 7 then (g_up σ 6 (ix o) v) else σ)) := by
  refine g_Met.of (own := 7) (L := [some (.ref 0), some (.int 6), some (.int o), some (.int v)]) (by decide) rfl rfl (fun ad => Nat.le_of_ble_eq_true rfl) (fun ad => rfl) (fun X G K C => ?_)
  refine V_blk C (pc' := 1) (σ' := σ) (L' := [some (.ref 0), some (.int 6), some (.int o), some (.int v)]) (st' := [.int 6]) (g_c dX7_set_0 g_n) rfl rfl ?_
  refine V_tsw C 6 157 (tgt := 158) dX7_set_1 (by decide) (by decide) (by decide) (by decide) (fun _ => ?_) (fun z => absurd rfl z)
  refine V_blk C (pc' := 160) (σ' := σ) (L' := [some (.ref 0), some (.int 6), some (.int o), some (.int v)]) (st' := [.int o, .ref 0]) (g_c dX7_set_158 (g_c dX7_set_159 g_n)) rfl rfl ?_
  refine V_callVI C cv_X7_103 (c_X7_isDrip σ o) ⟨_, _, _, _, rfl, rfl⟩ (by rfl) (by decide) (by decide) (fun _ h => h) (As := [.int o]) (rest := []) rfl rfl (by decide) dX7_set_160 ?_
  refine V_if_eq_b C (tgt := 188) dX7_set_163 (by decide) (fun h163 => ?_) (fun h163 => ?_)
  · skip
    refine V_blk C (pc' := 190) (σ' := σ) (L' := [some (.ref 0), some (.int 6), some (.int o), some (.int v)]) (st' := [.int (-2)]) (g_c dX7_set_188 g_n) rfl rfl ?_
    refine V_iret C dX7_set_190 ?_
    exact ⟨by rw [if_neg (fun z => h163 z.1)], by rw [if_neg (fun z => h163 z.1)]⟩
  · skip
    refine V_blk C (pc' := 167) (σ' := σ) (L' := [some (.ref 0), some (.int 6), some (.int o), some (.int v)]) (st' := [.int v]) (g_c dX7_set_166 g_n) rfl rfl ?_
    refine V_callSI C cs_X7_112 (c_X7_isPlace σ v) (by decide) (by decide) (fun _ h => h) (As := [.int v]) (rest := []) rfl rfl (by decide) dX7_set_167 ?_
    refine V_if_eq_b C (tgt := 188) dX7_set_170 (by decide) (fun h170 => ?_) (fun h170 => ?_)
    · skip
      refine V_blk C (pc' := 190) (σ' := σ) (L' := [some (.ref 0), some (.int 6), some (.int o), some (.int v)]) (st' := [.int (-2)]) (g_c dX7_set_188 g_n) rfl rfl ?_
      refine V_iret C dX7_set_190 ?_
      exact ⟨by rw [if_neg (fun z => h170 z.2)], by rw [if_neg (fun z => h170 z.2)]⟩
    · skip
      refine V_blk C (pc' := 182) (σ' := σ) (L' := [some (.ref 0), some (.int 6), some (.int o), some (.int v)]) (st' := [.int v, .int o, .ref 6]) (g_c dX7_set_173 (g_c dX7_set_174 (g_c dX7_set_177 (g_c dX7_set_180 (g_c dX7_set_181 g_n))))) rfl rfl ?_
      refine V_callSI C cs_X7_95 (c_X7_swapped_6 σ o v (g_vp h163 hd hd6 (by decide))) (by decide) (by decide) (fun _ h => h) (As := [.ref 6, .int o, .int v]) (rest := []) rfl rfl (by decide) dX7_set_182 ?_
      refine V_goto C (tgt := 190) dX7_set_185 (by decide) ?_
      refine V_iret C dX7_set_190 ?_
      exact ⟨by rw [if_pos ⟨h163, h170⟩], by rw [if_pos ⟨h163, h170⟩]⟩
-- M6
set_option maxHeartbeats 4000000 in
set_option maxRecDepth 100000 in
theorem c_X8_set6 (σ : gS) (o v : Int32) {nd : Nat} (hd : σ 63 15 = nI nd) (hd6 : nd ≤ 6) : g_Met yX8_set cX8_set 5 (some .int) 3 kM [.ref 63, .int 6, .int o, .int v] σ (fun rv s => rv = some (.int (if g_in o 0 ((σ 63 15) - 1) ∧ g_in v 0 7 then (σ 71 (ix o)) else (-2))) ∧ s = (if g_in o 0 ((σ 63 15) - 1) ∧ g_in v 0 7 then (g_up σ 71 (ix o) v) else σ)) := by
  refine g_Met.of (own := 8) (L := [some (.ref 63), some (.int 6), some (.int o), some (.int v), none]) (by decide) rfl rfl (fun ad => Nat.le_of_ble_eq_true rfl) (fun ad => rfl) (fun X G K C => ?_)
  refine V_blk C (pc' := 6) (σ' := σ) (L' := [some (.ref 63), some (.int 6), some (.int o), some (.int v), none]) (st' := [.long 6, .long 0, .long (Int32.toInt64 6)]) (g_c dX8_set_0 (g_c dX8_set_1 (g_c dX8_set_2 (g_c dX8_set_3 g_n)))) rfl rfl ?_
  refine V_callSI C cs_X8_110 (c_X8_in32 σ 6 0 6 (by decide) (by decide)) (by decide) (by decide) (fun _ h => h) (As := [.long (Int32.toInt64 6), .long 0, .long 6]) (rest := []) rfl rfl (by decide) dX8_set_6 ?_
  refine V_if_eq_b C (tgt := 36) dX8_set_9 (by decide) (fun z => absurd (by decide) z) (fun _ => ?_)
  refine V_blk C (pc' := 13) (σ' := σ) (L' := [some (.ref 63), some (.int 6), some (.int o), some (.int v), none]) (st' := [.int 6]) (g_c dX8_set_12 g_n) rfl rfl ?_
  refine V_if_ne C (tgt := 23) dX8_set_13 (by decide) (fun _ => ?_) (fun z => absurd z (by decide))
  refine V_blk C (pc' := 25) (σ' := σ) (L' := [some (.ref 63), some (.int 6), some (.int o), some (.int v), none]) (st' := [.int 3, .int 6]) (g_c dX8_set_23 (g_c dX8_set_24 g_n)) rfl rfl ?_
  refine V_icmp_le2 C (tgt := 39) dX8_set_25 (by decide) (fun z => absurd z (by decide)) (fun _ => ?_)
  refine V_blk C (pc' := 30) (σ' := σ) (L' := [some (.ref 63), some (.int 6), some (.int o), some (.int v), none]) (st' := [.int o, .ref 63]) (g_c dX8_set_28 (g_c dX8_set_29 g_n)) rfl rfl ?_
  refine V_callVI C cv_X8_127 (c_X8_isDrip σ o) ⟨_, _, _, _, rfl, rfl⟩ (by rfl) (by decide) (by decide) (fun _ h => h) (As := [.int o]) (rest := []) rfl rfl (by decide) dX8_set_30 ?_
  refine V_if_ne_b C (tgt := 39) dX8_set_33 (by decide) (fun h33 => ?_) (fun h33 => ?_)
  · skip
    refine V_blk C (pc' := 43) (σ' := σ) (L' := [some (.ref 63), some (.int 6), some (.int o), some (.int v), none]) (st' := [.int 2, .int 6, .long (Int32.toInt64 v)]) (g_c dX8_set_39 (g_c dX8_set_40 (g_c dX8_set_41 (g_c dX8_set_42 g_n)))) rfl rfl ?_
    refine V_icmp_ne C (tgt := 50) dX8_set_43 (by decide) (fun _ => ?_) (fun z => absurd z (by decide))
    refine V_blk C (pc' := 53) (σ' := σ) (L' := [some (.ref 63), some (.int 6), some (.int o), some (.int v), none]) (st' := [.int 1, .int 6, .long 0, .long (Int32.toInt64 v)]) (g_c dX8_set_50 (g_c dX8_set_51 (g_c dX8_set_52 g_n))) rfl rfl ?_
    refine V_icmp_ne C (tgt := 62) dX8_set_53 (by decide) (fun _ => ?_) (fun z => absurd z (by decide))
    refine V_blk C (pc' := 64) (σ' := σ) (L' := [some (.ref 63), some (.int 6), some (.int o), some (.int v), none]) (st' := [.int 2, .int 6, .long 0, .long (Int32.toInt64 v)]) (g_c dX8_set_62 (g_c dX8_set_63 g_n)) rfl rfl ?_
    refine V_icmp_ne C (tgt := 73) dX8_set_64 (by decide) (fun _ => ?_) (fun z => absurd z (by decide))
    refine V_blk C (pc' := 75) (σ' := σ) (L' := [some (.ref 63), some (.int 6), some (.int o), some (.int v), none]) (st' := [.int 3, .int 6, .long 0, .long (Int32.toInt64 v)]) (g_c dX8_set_73 (g_c dX8_set_74 g_n)) rfl rfl ?_
    refine V_icmp_ne C (tgt := 82) dX8_set_75 (by decide) (fun _ => ?_) (fun z => absurd z (by decide))
    refine V_blk C (pc' := 85) (σ' := σ) (L' := [some (.ref 63), some (.int 6), some (.int o), some (.int v), none]) (st' := [.int 6, .int 6, .long 0, .long (Int32.toInt64 v)]) (g_c dX8_set_82 (g_c dX8_set_83 g_n)) rfl rfl ?_
    refine V_icmp_ne C (tgt := 94) dX8_set_85 (by decide) (fun z => absurd z (by decide)) (fun _ => ?_)
    refine V_blk C (pc' := 91) (σ' := σ) (L' := [some (.ref 63), some (.int 6), some (.int o), some (.int v), none]) (st' := [.long 7, .long 0, .long (Int32.toInt64 v)]) (g_c dX8_set_88 g_n) rfl rfl ?_
    refine V_goto C (tgt := 97) dX8_set_91 (by decide) ?_
    refine V_callSI C cs_X8_110 (c_X8_in32 σ v 0 7 (by decide) (by decide)) (by decide) (by decide) (fun _ h => h) (As := [.long (Int32.toInt64 v), .long 0, .long 7]) (rest := []) rfl rfl (by decide) dX8_set_97 ?_
    refine V_if_ne_b C (tgt := 106) dX8_set_100 (by decide) (fun h100 => ?_) (fun h100 => ?_)
    · skip
      refine V_blk C (pc' := 107) (σ' := σ) (L' := [some (.ref 63), some (.int 6), some (.int o), some (.int v), none]) (st' := [.int 6]) (g_c dX8_set_106 g_n) rfl rfl ?_
      refine V_if_ne C (tgt := 119) dX8_set_107 (by decide) (fun _ => ?_) (fun z => absurd z (by decide))
      refine V_blk C (pc' := 121) (σ' := σ) (L' := [some (.ref 63), some (.int 6), some (.int o), some (.int v), none]) (st' := [.int 1, .int 6]) (g_c dX8_set_119 (g_c dX8_set_120 g_n)) rfl rfl ?_
      refine V_icmp_ne C (tgt := 131) dX8_set_121 (by decide) (fun _ => ?_) (fun z => absurd z (by decide))
      refine V_blk C (pc' := 133) (σ' := σ) (L' := [some (.ref 63), some (.int 6), some (.int o), some (.int v), none]) (st' := [.int 2, .int 6]) (g_c dX8_set_131 (g_c dX8_set_132 g_n)) rfl rfl ?_
      refine V_icmp_ne C (tgt := 143) dX8_set_133 (by decide) (fun _ => ?_) (fun z => absurd z (by decide))
      refine V_blk C (pc' := 145) (σ' := σ) (L' := [some (.ref 63), some (.int 6), some (.int o), some (.int v), none]) (st' := [.int 3, .int 6]) (g_c dX8_set_143 (g_c dX8_set_144 g_n)) rfl rfl ?_
      refine V_icmp_ne C (tgt := 155) dX8_set_145 (by decide) (fun _ => ?_) (fun z => absurd z (by decide))
      refine V_blk C (pc' := 157) (σ' := σ) (L' := [some (.ref 63), some (.int 6), some (.int o), some (.int v), none]) (st' := [.int 4, .int 6]) (g_c dX8_set_155 (g_c dX8_set_156 g_n)) rfl rfl ?_
      refine V_icmp_ne C (tgt := 169) dX8_set_157 (by decide) (fun _ => ?_) (fun z => absurd z (by decide))
      refine V_blk C (pc' := 171) (σ' := σ) (L' := [some (.ref 63), some (.int 6), some (.int o), some (.int v), none]) (st' := [.int 5, .int 6]) (g_c dX8_set_169 (g_c dX8_set_170 g_n)) rfl rfl ?_
      refine V_icmp_ne C (tgt := 183) dX8_set_171 (by decide) (fun _ => ?_) (fun z => absurd z (by decide))
      refine V_blk C (pc' := 188) (σ' := σ) (L' := [some (.ref 63), some (.int 6), some (.int o), some (.int v), none]) (st' := [.int o, .ref 71]) (g_c dX8_set_183 (g_c dX8_set_184 (g_c dX8_set_187 g_n))) rfl rfl ?_
      refine V_iald C (k := 71) (n := 6) (by rfl) (by rfl) (g_vp h33 hd hd6 (by decide)) dX8_set_188 ?_
      refine V_blk C (pc' := 192) (σ' := σ) (L' := [some (.ref 63), some (.int 6), some (.int o), some (.int v), some (.int (σ 71 (Int32.toNatClampNeg o)))]) (st' := [.int 6]) (g_c dX8_set_189 (g_c dX8_set_191 g_n)) rfl rfl ?_
      refine V_if_ne C (tgt := 205) dX8_set_192 (by decide) (fun _ => ?_) (fun z => absurd z (by decide))
      refine V_blk C (pc' := 207) (σ' := σ) (L' := [some (.ref 63), some (.int 6), some (.int o), some (.int v), some (.int (σ 71 (Int32.toNatClampNeg o)))]) (st' := [.int 1, .int 6]) (g_c dX8_set_205 (g_c dX8_set_206 g_n)) rfl rfl ?_
      refine V_icmp_ne C (tgt := 218) dX8_set_207 (by decide) (fun _ => ?_) (fun z => absurd z (by decide))
      refine V_blk C (pc' := 220) (σ' := σ) (L' := [some (.ref 63), some (.int 6), some (.int o), some (.int v), some (.int (σ 71 (Int32.toNatClampNeg o)))]) (st' := [.int 2, .int 6]) (g_c dX8_set_218 (g_c dX8_set_219 g_n)) rfl rfl ?_
      refine V_icmp_ne C (tgt := 231) dX8_set_220 (by decide) (fun _ => ?_) (fun z => absurd z (by decide))
      refine V_blk C (pc' := 233) (σ' := σ) (L' := [some (.ref 63), some (.int 6), some (.int o), some (.int v), some (.int (σ 71 (Int32.toNatClampNeg o)))]) (st' := [.int 3, .int 6]) (g_c dX8_set_231 (g_c dX8_set_232 g_n)) rfl rfl ?_
      refine V_icmp_ne C (tgt := 244) dX8_set_233 (by decide) (fun _ => ?_) (fun z => absurd z (by decide))
      refine V_blk C (pc' := 246) (σ' := σ) (L' := [some (.ref 63), some (.int 6), some (.int o), some (.int v), some (.int (σ 71 (Int32.toNatClampNeg o)))]) (st' := [.int 4, .int 6]) (g_c dX8_set_244 (g_c dX8_set_245 g_n)) rfl rfl ?_
      refine V_icmp_ne C (tgt := 259) dX8_set_246 (by decide) (fun _ => ?_) (fun z => absurd z (by decide))
      refine V_blk C (pc' := 261) (σ' := σ) (L' := [some (.ref 63), some (.int 6), some (.int o), some (.int v), some (.int (σ 71 (Int32.toNatClampNeg o)))]) (st' := [.int 5, .int 6]) (g_c dX8_set_259 (g_c dX8_set_260 g_n)) rfl rfl ?_
      refine V_icmp_ne C (tgt := 274) dX8_set_261 (by decide) (fun _ => ?_) (fun z => absurd z (by decide))
      refine V_blk C (pc' := 280) (σ' := σ) (L' := [some (.ref 63), some (.int 6), some (.int o), some (.int v), some (.int (σ 71 (Int32.toNatClampNeg o)))]) (st' := [.int v, .int o, .ref 71]) (g_c dX8_set_274 (g_c dX8_set_275 (g_c dX8_set_278 (g_c dX8_set_279 g_n)))) rfl rfl ?_
      refine V_iast C (k := 71) (n := 6) (by rfl) (by rfl) (g_vp h33 hd hd6 (by decide)) dX8_set_280 ?_
      refine V_blk C (pc' := 283) (σ' := (g_up σ 71 (Int32.toNatClampNeg o) v)) (L' := [some (.ref 63), some (.int 6), some (.int o), some (.int v), some (.int (σ 71 (Int32.toNatClampNeg o)))]) (st' := [.int (σ 71 (Int32.toNatClampNeg o))]) (g_c dX8_set_281 g_n) rfl rfl ?_
      refine V_iret C dX8_set_283 ?_
      exact ⟨by rw [if_pos ⟨h33, h100⟩], by rw [if_pos ⟨h33, h100⟩]⟩
    · skip
      refine V_blk C (pc' := 105) (σ' := σ) (L' := [some (.ref 63), some (.int 6), some (.int o), some (.int v), none]) (st' := [.int (-2)]) (g_c dX8_set_103 g_n) rfl rfl ?_
      refine V_iret C dX8_set_105 ?_
      exact ⟨by rw [if_neg (fun z => h100 z.2)], by rw [if_neg (fun z => h100 z.2)]⟩
  · skip
    refine V_blk C (pc' := 38) (σ' := σ) (L' := [some (.ref 63), some (.int 6), some (.int o), some (.int v), none]) (st' := [.int (-2)]) (g_c dX8_set_36 g_n) rfl rfl ?_
    refine V_iret C dX8_set_38 ?_
    exact ⟨by rw [if_neg (fun z => h33 z.1)], by rw [if_neg (fun z => h33 z.1)]⟩
set_option maxHeartbeats 4000000 in
set_option maxRecDepth 100000 in
theorem c_X7_setOut (σ : gS) (w o v : Int32) (hw : ¬ g_in w 0 6) : g_Met yX7_set cX7_set 4 (some .int) 3 kX [.ref 0, .int w, .int o, .int v] σ (fun rv s => rv = some (.int (-2)) ∧ s = σ) := by
  refine g_Met.of (own := 7) (L := [some (.ref 0), some (.int w), some (.int o), some (.int v)]) (by decide) rfl rfl (fun ad => Nat.le_of_ble_eq_true rfl) (fun ad => rfl) (fun X G K C => ?_)
  refine V_blk C (pc' := 1) (σ' := σ) (L' := [some (.ref 0), some (.int w), some (.int o), some (.int v)]) (st' := [.int w]) (g_c dX7_set_0 g_n) rfl rfl ?_
  refine V_tso C (tgt := 191) dX7_set_1 (g_tso2 hw (by decide) (by decide)) (by decide) ?_
  refine V_blk C (pc' := 193) (σ' := σ) (L' := [some (.ref 0), some (.int w), some (.int o), some (.int v)]) (st' := [.int (-2)]) (g_c dX7_set_191 g_n) rfl rfl ?_
  refine V_iret C dX7_set_193 ?_
  exact ⟨rfl, rfl⟩
