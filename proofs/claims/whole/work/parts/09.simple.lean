/-! SET, DRIP, VESSEL, FILL, TOLD, FEED, FORCE, COUNT, CELL -/
abbrev ix (i : Int32) : Nat := i.toNatClampNeg
theorem g_in64_iff {v a b : Int32} : g_in64 v.toInt64 a.toInt64 b.toInt64 ↔ g_in v a b := by
  simp only [g_in64, g_in, Int64.lt_iff_toInt_lt, Int32.lt_iff_toInt_lt, Int32.toInt_toInt64]
theorem c_X8_in32 {KR : Nat → Bool} (σ : gS) (v a b : Int32) {A B : Int64} (hA : A = a.toInt64) (hB : B = b.toInt64) : g_Met yX8_in cX8_in 6 (some .boolean) 1 KR [.long v.toInt64, .long A, .long B] σ (fun rv s => rv = some (.int (if g_in v a b then 1 else 0)) ∧ s = σ) := by
  subst hA hB
  have h := c_X8_in (KR := KR) σ v.toInt64 a.toInt64 b.toInt64
  simp only [g_in64_iff] at h
  exact h
theorem g_in_toInt {v a b : Int32} : g_in v a b ↔ a.toInt ≤ v.toInt ∧ v.toInt ≤ b.toInt := by
  simp only [g_in, Int32.lt_iff_toInt_lt]
  omega
theorem g_nIp {n : Nat} (hn : n ≤ 1000000) : (nI n - 1).toInt = (n : Int) - 1 := by
  have h := pk_sub_toInt (a := n) (b := 1) (by omega) (by decide)
  exact h
theorem g_vp {i x : Int32} {n N : Nat} (h : g_in i 0 (x - 1)) (hx : x = nI n) (hn : n ≤ N) (hN : N ≤ 1000000) : vp_in i N := by
  subst hx
  rw [g_in_toInt, g_nIp (by omega)] at h
  rw [vp_in_iff]
  have h0 : (0 : Int32).toInt = 0 := rfl
  omega
theorem g_vpc {i M : Int32} {N : Nat} (h : g_in i 0 M) (hM : M.toInt + 1 ≤ (N : Int)) : vp_in i N := by
  rw [g_in_toInt] at h
  rw [vp_in_iff]
  have h0 : (0 : Int32).toInt = 0 := rfl
  omega
theorem g_tso2 {x : Int32} {lo hi : Int} {a b : Int32} (h : ¬ g_in x a b) (ha : a.toInt = lo) (hb : b.toInt = hi) : x.toInt < lo ∨ hi < x.toInt := by
  rw [g_in_toInt] at h
  omega
theorem g_vpE {x : Int32} {n N : Nat} (hx : x = nI n) (hn : n ≤ N) (h : ¬ x = nI N) (hN : N ≤ 1000000) : vp_in x N := by
  subst hx
  refine vp_in_nI ?_ (by omega)
  rcases Nat.lt_or_ge n N with q | q
  · exact q
  · exact absurd (by rw [show n = N by omega]) h
theorem g_in_vp {i M : Int32} {N : Nat} (h : vp_in i N) (hM : (N : Int) ≤ M.toInt + 1) : g_in i 0 M := by
  rw [g_in_toInt]
  rw [vp_in_iff] at h
  have h0 : (0 : Int32).toInt = 0 := rfl
  omega
set_option maxHeartbeats 4000000 in
set_option maxRecDepth 100000 in
theorem c_X8_isHour {KR : Nat → Bool} (σ : gS) (v : Int32) : g_Met yX8_isHour cX8_isHour 1 (some .boolean) 2 KR [.int v] σ (fun rv s => rv = some (.int (if g_in v 0 23 then 1 else 0)) ∧ s = σ) := by
  refine g_Met.of (own := 8) (L := [some (.int v)]) (by decide) rfl rfl (fun ad => Nat.le_of_ble_eq_true rfl) (fun ad => rfl) (fun X G K C => ?_)
  refine V_blk C (pc' := 6) (σ' := σ) (L' := [some (.int v)]) (st' := [.long 23, .long 0, .long (Int32.toInt64 v)]) (g_c dX8_isHour_0 (g_c dX8_isHour_1 (g_c dX8_isHour_2 (g_c dX8_isHour_3 g_n)))) rfl rfl ?_
  refine V_callSI C cs_X8_110 (c_X8_in32 σ v 0 23 (by decide) (by decide)) (by decide) (by decide) (fun _ h => h) (As := [.long (Int32.toInt64 v), .long 0, .long 23]) (rest := []) rfl rfl (Nat.le_of_ble_eq_true rfl) dX8_isHour_6 ?_
  refine V_zret C (by split <;> simp) dX8_isHour_9 ?_
  first | exact ⟨rfl, rfl⟩ | exact ⟨by simp [g_in, *], rfl⟩
set_option maxHeartbeats 4000000 in
set_option maxRecDepth 100000 in
theorem c_X8_isPlace {KR : Nat → Bool} (σ : gS) (v : Int32) : g_Met yX8_isPlace cX8_isPlace 1 (some .boolean) 2 KR [.int v] σ (fun rv s => rv = some (.int (if g_in v 0 7 then 1 else 0)) ∧ s = σ) := by
  refine g_Met.of (own := 8) (L := [some (.int v)]) (by decide) rfl rfl (fun ad => Nat.le_of_ble_eq_true rfl) (fun ad => rfl) (fun X G K C => ?_)
  refine V_blk C (pc' := 6) (σ' := σ) (L' := [some (.int v)]) (st' := [.long 7, .long 0, .long (Int32.toInt64 v)]) (g_c dX8_isPlace_0 (g_c dX8_isPlace_1 (g_c dX8_isPlace_2 (g_c dX8_isPlace_3 g_n)))) rfl rfl ?_
  refine V_callSI C cs_X8_110 (c_X8_in32 σ v 0 7 (by decide) (by decide)) (by decide) (by decide) (fun _ h => h) (As := [.long (Int32.toInt64 v), .long 0, .long 7]) (rest := []) rfl rfl (Nat.le_of_ble_eq_true rfl) dX8_isPlace_6 ?_
  refine V_zret C (by split <;> simp) dX8_isPlace_9 ?_
  first | exact ⟨rfl, rfl⟩ | exact ⟨by simp [g_in, *], rfl⟩
set_option maxHeartbeats 4000000 in
set_option maxRecDepth 100000 in
theorem c_X8_isSheet {KR : Nat → Bool} (σ : gS) (v : Int32) : g_Met yX8_isSheet cX8_isSheet 1 (some .boolean) 2 KR [.int v] σ (fun rv s => rv = some (.int (if g_in v 0 3 then 1 else 0)) ∧ s = σ) := by
  refine g_Met.of (own := 8) (L := [some (.int v)]) (by decide) rfl rfl (fun ad => Nat.le_of_ble_eq_true rfl) (fun ad => rfl) (fun X G K C => ?_)
  refine V_blk C (pc' := 6) (σ' := σ) (L' := [some (.int v)]) (st' := [.long 3, .long 0, .long (Int32.toInt64 v)]) (g_c dX8_isSheet_0 (g_c dX8_isSheet_1 (g_c dX8_isSheet_2 (g_c dX8_isSheet_3 g_n)))) rfl rfl ?_
  refine V_callSI C cs_X8_110 (c_X8_in32 σ v 0 3 (by decide) (by decide)) (by decide) (by decide) (fun _ h => h) (As := [.long (Int32.toInt64 v), .long 0, .long 3]) (rest := []) rfl rfl (Nat.le_of_ble_eq_true rfl) dX8_isSheet_6 ?_
  refine V_zret C (by split <;> simp) dX8_isSheet_9 ?_
  first | exact ⟨rfl, rfl⟩ | exact ⟨by simp [g_in, *], rfl⟩
set_option maxHeartbeats 4000000 in
set_option maxRecDepth 100000 in
theorem c_X8_isDrip (σ : gS) (v : Int32) : g_Met yX8_isDrip cX8_isDrip 2 (some .boolean) 2 kM [.ref 63, .int v] σ (fun rv s => rv = some (.int (if g_in v 0 (σ 63 15 - 1) then 1 else 0)) ∧ s = σ) := by
  refine g_Met.of (own := 8) (L := [some (.ref 63), some (.int v)]) (by decide) rfl rfl (fun ad => Nat.le_of_ble_eq_true rfl) (fun ad => rfl) (fun X G K C => ?_)
  refine V_blk C (pc' := 10) (σ' := σ) (L' := [some (.ref 63), some (.int v)]) (st' := [.long (Int32.toInt64 ((σ 63 15) - 1)), .long 0, .long (Int32.toInt64 v)]) (g_c dX8_isDrip_0 (g_c dX8_isDrip_1 (g_c dX8_isDrip_2 (g_c dX8_isDrip_3 (g_c dX8_isDrip_4 (g_c dX8_isDrip_7 (g_c dX8_isDrip_8 (g_c dX8_isDrip_9 g_n)))))))) rfl rfl ?_
  refine V_callSI C cs_X8_110 (c_X8_in32 σ v 0 ((σ 63 15) - 1) (by decide) rfl) (by decide) (by decide) (fun _ h => h) (As := [.long (Int32.toInt64 v), .long 0, .long (Int32.toInt64 ((σ 63 15) - 1))]) (rest := []) rfl rfl (Nat.le_of_ble_eq_true rfl) dX8_isDrip_10 ?_
  refine V_zret C (by split <;> simp) dX8_isDrip_13 ?_
  first | exact ⟨rfl, rfl⟩ | exact ⟨by simp [g_in, *], rfl⟩
set_option maxHeartbeats 4000000 in
set_option maxRecDepth 100000 in
theorem c_X8_isVessel (σ : gS) (v : Int32) : g_Met yX8_isVessel cX8_isVessel 2 (some .boolean) 2 kM [.ref 63, .int v] σ (fun rv s => rv = some (.int (if g_in v 0 (σ 63 19 - 1) then 1 else 0)) ∧ s = σ) := by
  refine g_Met.of (own := 8) (L := [some (.ref 63), some (.int v)]) (by decide) rfl rfl (fun ad => Nat.le_of_ble_eq_true rfl) (fun ad => rfl) (fun X G K C => ?_)
  refine V_blk C (pc' := 10) (σ' := σ) (L' := [some (.ref 63), some (.int v)]) (st' := [.long (Int32.toInt64 ((σ 63 19) - 1)), .long 0, .long (Int32.toInt64 v)]) (g_c dX8_isVessel_0 (g_c dX8_isVessel_1 (g_c dX8_isVessel_2 (g_c dX8_isVessel_3 (g_c dX8_isVessel_4 (g_c dX8_isVessel_7 (g_c dX8_isVessel_8 (g_c dX8_isVessel_9 g_n)))))))) rfl rfl ?_
  refine V_callSI C cs_X8_110 (c_X8_in32 σ v 0 ((σ 63 19) - 1) (by decide) rfl) (by decide) (by decide) (fun _ h => h) (As := [.long (Int32.toInt64 v), .long 0, .long (Int32.toInt64 ((σ 63 19) - 1))]) (rest := []) rfl rfl (Nat.le_of_ble_eq_true rfl) dX8_isVessel_10 ?_
  refine V_zret C (by split <;> simp) dX8_isVessel_13 ?_
  first | exact ⟨rfl, rfl⟩ | exact ⟨by simp [g_in, *], rfl⟩
set_option maxHeartbeats 4000000 in
set_option maxRecDepth 100000 in
theorem c_X7_swapped_2 (σ : gS) (i v : Int32) (hi : vp_in i 24) : g_Met yX7_swapped cX7_swapped 4 (some .int) 2 kX [.ref 2, .int i, .int v] σ (fun rv s => rv = some (.int (σ 2 (ix i))) ∧ s = g_up σ 2 (ix i) v) := by
  refine g_Met.of (own := 7) (L := [some (.ref 2), some (.int i), some (.int v), none]) (by decide) rfl rfl (fun ad => Nat.le_of_ble_eq_true rfl) (fun ad => rfl) (fun X G K C => ?_)
  refine V_blk C (pc' := 3) (σ' := σ) (L' := [some (.ref 2), some (.int i), some (.int v), none]) (st' := [.ref 2, .int 0, .int i]) (g_c dX7_swapped_0 (g_c dX7_swapped_1 (g_c dX7_swapped_2 g_n))) rfl rfl ?_
  refine V_alen C (k := 2) (n := 24) (v := 24) (by rfl) (by rfl) (by decide) dX7_swapped_3 ?_
  refine V_blk C (pc' := 6) (σ' := σ) (L' := [some (.ref 2), some (.int i), some (.int v), none]) (st' := [.int 23, .int 0, .int i]) (g_c dX7_swapped_4 (g_c dX7_swapped_5 g_n)) rfl rfl ?_
  refine V_callSI C cs_X7_85 (c_X7_isIn σ i 0 23) (by decide) (by decide) (fun _ h => h) (As := [.int i, .int 0, .int 23]) (rest := []) rfl rfl (Nat.le_of_ble_eq_true rfl) dX7_swapped_6 ?_
  refine V_if_ne_b C (tgt := 15) dX7_swapped_9 (by decide) (fun h9 => ?_) (fun h9 => absurd (g_in_vp hi (by decide)) h9)
  refine V_blk C (pc' := 17) (σ' := σ) (L' := [some (.ref 2), some (.int i), some (.int v), none]) (st' := [.int i, .ref 2]) (g_c dX7_swapped_15 (g_c dX7_swapped_16 g_n)) rfl rfl ?_
  refine V_iald C (k := 2) (n := 24) (by rfl) (by rfl) hi dX7_swapped_17 ?_
  refine V_blk C (pc' := 22) (σ' := σ) (L' := [some (.ref 2), some (.int i), some (.int v), some (.int (σ 2 (Int32.toNatClampNeg i)))]) (st' := [.int v, .int i, .ref 2]) (g_c dX7_swapped_18 (g_c dX7_swapped_19 (g_c dX7_swapped_20 (g_c dX7_swapped_21 g_n)))) rfl rfl ?_
  refine V_iast C (k := 2) (n := 24) (by rfl) (by rfl) hi dX7_swapped_22 ?_
  refine V_blk C (pc' := 24) (σ' := (g_up σ 2 (Int32.toNatClampNeg i) v)) (L' := [some (.ref 2), some (.int i), some (.int v), some (.int (σ 2 (Int32.toNatClampNeg i)))]) (st' := [.int (σ 2 (Int32.toNatClampNeg i))]) (g_c dX7_swapped_23 g_n) rfl rfl ?_
  refine V_iret C dX7_swapped_24 ?_
  exact ⟨rfl, rfl⟩
set_option maxHeartbeats 4000000 in
set_option maxRecDepth 100000 in
theorem c_X7_swapped_4 (σ : gS) (i v : Int32) (hi : vp_in i 6) : g_Met yX7_swapped cX7_swapped 4 (some .int) 2 kX [.ref 4, .int i, .int v] σ (fun rv s => rv = some (.int (σ 4 (ix i))) ∧ s = g_up σ 4 (ix i) v) := by
  refine g_Met.of (own := 7) (L := [some (.ref 4), some (.int i), some (.int v), none]) (by decide) rfl rfl (fun ad => Nat.le_of_ble_eq_true rfl) (fun ad => rfl) (fun X G K C => ?_)
  refine V_blk C (pc' := 3) (σ' := σ) (L' := [some (.ref 4), some (.int i), some (.int v), none]) (st' := [.ref 4, .int 0, .int i]) (g_c dX7_swapped_0 (g_c dX7_swapped_1 (g_c dX7_swapped_2 g_n))) rfl rfl ?_
  refine V_alen C (k := 4) (n := 6) (v := 6) (by rfl) (by rfl) (by decide) dX7_swapped_3 ?_
  refine V_blk C (pc' := 6) (σ' := σ) (L' := [some (.ref 4), some (.int i), some (.int v), none]) (st' := [.int 5, .int 0, .int i]) (g_c dX7_swapped_4 (g_c dX7_swapped_5 g_n)) rfl rfl ?_
  refine V_callSI C cs_X7_85 (c_X7_isIn σ i 0 5) (by decide) (by decide) (fun _ h => h) (As := [.int i, .int 0, .int 5]) (rest := []) rfl rfl (Nat.le_of_ble_eq_true rfl) dX7_swapped_6 ?_
  refine V_if_ne_b C (tgt := 15) dX7_swapped_9 (by decide) (fun h9 => ?_) (fun h9 => absurd (g_in_vp hi (by decide)) h9)
  refine V_blk C (pc' := 17) (σ' := σ) (L' := [some (.ref 4), some (.int i), some (.int v), none]) (st' := [.int i, .ref 4]) (g_c dX7_swapped_15 (g_c dX7_swapped_16 g_n)) rfl rfl ?_
  refine V_iald C (k := 4) (n := 6) (by rfl) (by rfl) hi dX7_swapped_17 ?_
  refine V_blk C (pc' := 22) (σ' := σ) (L' := [some (.ref 4), some (.int i), some (.int v), some (.int (σ 4 (Int32.toNatClampNeg i)))]) (st' := [.int v, .int i, .ref 4]) (g_c dX7_swapped_18 (g_c dX7_swapped_19 (g_c dX7_swapped_20 (g_c dX7_swapped_21 g_n)))) rfl rfl ?_
  refine V_iast C (k := 4) (n := 6) (by rfl) (by rfl) hi dX7_swapped_22 ?_
  refine V_blk C (pc' := 24) (σ' := (g_up σ 4 (Int32.toNatClampNeg i) v)) (L' := [some (.ref 4), some (.int i), some (.int v), some (.int (σ 4 (Int32.toNatClampNeg i)))]) (st' := [.int (σ 4 (Int32.toNatClampNeg i))]) (g_c dX7_swapped_23 g_n) rfl rfl ?_
  refine V_iret C dX7_swapped_24 ?_
  exact ⟨rfl, rfl⟩
set_option maxHeartbeats 4000000 in
set_option maxRecDepth 100000 in
theorem c_X7_swapped_5 (σ : gS) (i v : Int32) (hi : vp_in i 6) : g_Met yX7_swapped cX7_swapped 4 (some .int) 2 kX [.ref 5, .int i, .int v] σ (fun rv s => rv = some (.int (σ 5 (ix i))) ∧ s = g_up σ 5 (ix i) v) := by
  refine g_Met.of (own := 7) (L := [some (.ref 5), some (.int i), some (.int v), none]) (by decide) rfl rfl (fun ad => Nat.le_of_ble_eq_true rfl) (fun ad => rfl) (fun X G K C => ?_)
  refine V_blk C (pc' := 3) (σ' := σ) (L' := [some (.ref 5), some (.int i), some (.int v), none]) (st' := [.ref 5, .int 0, .int i]) (g_c dX7_swapped_0 (g_c dX7_swapped_1 (g_c dX7_swapped_2 g_n))) rfl rfl ?_
  refine V_alen C (k := 5) (n := 6) (v := 6) (by rfl) (by rfl) (by decide) dX7_swapped_3 ?_
  refine V_blk C (pc' := 6) (σ' := σ) (L' := [some (.ref 5), some (.int i), some (.int v), none]) (st' := [.int 5, .int 0, .int i]) (g_c dX7_swapped_4 (g_c dX7_swapped_5 g_n)) rfl rfl ?_
  refine V_callSI C cs_X7_85 (c_X7_isIn σ i 0 5) (by decide) (by decide) (fun _ h => h) (As := [.int i, .int 0, .int 5]) (rest := []) rfl rfl (Nat.le_of_ble_eq_true rfl) dX7_swapped_6 ?_
  refine V_if_ne_b C (tgt := 15) dX7_swapped_9 (by decide) (fun h9 => ?_) (fun h9 => absurd (g_in_vp hi (by decide)) h9)
  refine V_blk C (pc' := 17) (σ' := σ) (L' := [some (.ref 5), some (.int i), some (.int v), none]) (st' := [.int i, .ref 5]) (g_c dX7_swapped_15 (g_c dX7_swapped_16 g_n)) rfl rfl ?_
  refine V_iald C (k := 5) (n := 6) (by rfl) (by rfl) hi dX7_swapped_17 ?_
  refine V_blk C (pc' := 22) (σ' := σ) (L' := [some (.ref 5), some (.int i), some (.int v), some (.int (σ 5 (Int32.toNatClampNeg i)))]) (st' := [.int v, .int i, .ref 5]) (g_c dX7_swapped_18 (g_c dX7_swapped_19 (g_c dX7_swapped_20 (g_c dX7_swapped_21 g_n)))) rfl rfl ?_
  refine V_iast C (k := 5) (n := 6) (by rfl) (by rfl) hi dX7_swapped_22 ?_
  refine V_blk C (pc' := 24) (σ' := (g_up σ 5 (Int32.toNatClampNeg i) v)) (L' := [some (.ref 5), some (.int i), some (.int v), some (.int (σ 5 (Int32.toNatClampNeg i)))]) (st' := [.int (σ 5 (Int32.toNatClampNeg i))]) (g_c dX7_swapped_23 g_n) rfl rfl ?_
  refine V_iret C dX7_swapped_24 ?_
  exact ⟨rfl, rfl⟩
set_option maxHeartbeats 4000000 in
set_option maxRecDepth 100000 in
theorem c_X7_swapped_6 (σ : gS) (i v : Int32) (hi : vp_in i 6) : g_Met yX7_swapped cX7_swapped 4 (some .int) 2 kX [.ref 6, .int i, .int v] σ (fun rv s => rv = some (.int (σ 6 (ix i))) ∧ s = g_up σ 6 (ix i) v) := by
  refine g_Met.of (own := 7) (L := [some (.ref 6), some (.int i), some (.int v), none]) (by decide) rfl rfl (fun ad => Nat.le_of_ble_eq_true rfl) (fun ad => rfl) (fun X G K C => ?_)
  refine V_blk C (pc' := 3) (σ' := σ) (L' := [some (.ref 6), some (.int i), some (.int v), none]) (st' := [.ref 6, .int 0, .int i]) (g_c dX7_swapped_0 (g_c dX7_swapped_1 (g_c dX7_swapped_2 g_n))) rfl rfl ?_
  refine V_alen C (k := 6) (n := 6) (v := 6) (by rfl) (by rfl) (by decide) dX7_swapped_3 ?_
  refine V_blk C (pc' := 6) (σ' := σ) (L' := [some (.ref 6), some (.int i), some (.int v), none]) (st' := [.int 5, .int 0, .int i]) (g_c dX7_swapped_4 (g_c dX7_swapped_5 g_n)) rfl rfl ?_
  refine V_callSI C cs_X7_85 (c_X7_isIn σ i 0 5) (by decide) (by decide) (fun _ h => h) (As := [.int i, .int 0, .int 5]) (rest := []) rfl rfl (Nat.le_of_ble_eq_true rfl) dX7_swapped_6 ?_
  refine V_if_ne_b C (tgt := 15) dX7_swapped_9 (by decide) (fun h9 => ?_) (fun h9 => absurd (g_in_vp hi (by decide)) h9)
  refine V_blk C (pc' := 17) (σ' := σ) (L' := [some (.ref 6), some (.int i), some (.int v), none]) (st' := [.int i, .ref 6]) (g_c dX7_swapped_15 (g_c dX7_swapped_16 g_n)) rfl rfl ?_
  refine V_iald C (k := 6) (n := 6) (by rfl) (by rfl) hi dX7_swapped_17 ?_
  refine V_blk C (pc' := 22) (σ' := σ) (L' := [some (.ref 6), some (.int i), some (.int v), some (.int (σ 6 (Int32.toNatClampNeg i)))]) (st' := [.int v, .int i, .ref 6]) (g_c dX7_swapped_18 (g_c dX7_swapped_19 (g_c dX7_swapped_20 (g_c dX7_swapped_21 g_n)))) rfl rfl ?_
  refine V_iast C (k := 6) (n := 6) (by rfl) (by rfl) hi dX7_swapped_22 ?_
  refine V_blk C (pc' := 24) (σ' := (g_up σ 6 (Int32.toNatClampNeg i) v)) (L' := [some (.ref 6), some (.int i), some (.int v), some (.int (σ 6 (Int32.toNatClampNeg i)))]) (st' := [.int (σ 6 (Int32.toNatClampNeg i))]) (g_c dX7_swapped_23 g_n) rfl rfl ?_
  refine V_iret C dX7_swapped_24 ?_
  exact ⟨rfl, rfl⟩
set_option maxHeartbeats 4000000 in
set_option maxRecDepth 100000 in
theorem c_X7_swapped_8 (σ : gS) (i v : Int32) (hi : vp_in i 5) : g_Met yX7_swapped cX7_swapped 4 (some .int) 2 kX [.ref 8, .int i, .int v] σ (fun rv s => rv = some (.int (σ 8 (ix i))) ∧ s = g_up σ 8 (ix i) v) := by
  refine g_Met.of (own := 7) (L := [some (.ref 8), some (.int i), some (.int v), none]) (by decide) rfl rfl (fun ad => Nat.le_of_ble_eq_true rfl) (fun ad => rfl) (fun X G K C => ?_)
  refine V_blk C (pc' := 3) (σ' := σ) (L' := [some (.ref 8), some (.int i), some (.int v), none]) (st' := [.ref 8, .int 0, .int i]) (g_c dX7_swapped_0 (g_c dX7_swapped_1 (g_c dX7_swapped_2 g_n))) rfl rfl ?_
  refine V_alen C (k := 8) (n := 5) (v := 5) (by rfl) (by rfl) (by decide) dX7_swapped_3 ?_
  refine V_blk C (pc' := 6) (σ' := σ) (L' := [some (.ref 8), some (.int i), some (.int v), none]) (st' := [.int 4, .int 0, .int i]) (g_c dX7_swapped_4 (g_c dX7_swapped_5 g_n)) rfl rfl ?_
  refine V_callSI C cs_X7_85 (c_X7_isIn σ i 0 4) (by decide) (by decide) (fun _ h => h) (As := [.int i, .int 0, .int 4]) (rest := []) rfl rfl (Nat.le_of_ble_eq_true rfl) dX7_swapped_6 ?_
  refine V_if_ne_b C (tgt := 15) dX7_swapped_9 (by decide) (fun h9 => ?_) (fun h9 => absurd (g_in_vp hi (by decide)) h9)
  refine V_blk C (pc' := 17) (σ' := σ) (L' := [some (.ref 8), some (.int i), some (.int v), none]) (st' := [.int i, .ref 8]) (g_c dX7_swapped_15 (g_c dX7_swapped_16 g_n)) rfl rfl ?_
  refine V_iald C (k := 8) (n := 5) (by rfl) (by rfl) hi dX7_swapped_17 ?_
  refine V_blk C (pc' := 22) (σ' := σ) (L' := [some (.ref 8), some (.int i), some (.int v), some (.int (σ 8 (Int32.toNatClampNeg i)))]) (st' := [.int v, .int i, .ref 8]) (g_c dX7_swapped_18 (g_c dX7_swapped_19 (g_c dX7_swapped_20 (g_c dX7_swapped_21 g_n)))) rfl rfl ?_
  refine V_iast C (k := 8) (n := 5) (by rfl) (by rfl) hi dX7_swapped_22 ?_
  refine V_blk C (pc' := 24) (σ' := (g_up σ 8 (Int32.toNatClampNeg i) v)) (L' := [some (.ref 8), some (.int i), some (.int v), some (.int (σ 8 (Int32.toNatClampNeg i)))]) (st' := [.int (σ 8 (Int32.toNatClampNeg i))]) (g_c dX7_swapped_23 g_n) rfl rfl ?_
  refine V_iret C dX7_swapped_24 ?_
  exact ⟨rfl, rfl⟩
set_option maxHeartbeats 4000000 in
set_option maxRecDepth 100000 in
theorem c_X7_swapped_9 (σ : gS) (i v : Int32) (hi : vp_in i 5) : g_Met yX7_swapped cX7_swapped 4 (some .int) 2 kX [.ref 9, .int i, .int v] σ (fun rv s => rv = some (.int (σ 9 (ix i))) ∧ s = g_up σ 9 (ix i) v) := by
  refine g_Met.of (own := 7) (L := [some (.ref 9), some (.int i), some (.int v), none]) (by decide) rfl rfl (fun ad => Nat.le_of_ble_eq_true rfl) (fun ad => rfl) (fun X G K C => ?_)
  refine V_blk C (pc' := 3) (σ' := σ) (L' := [some (.ref 9), some (.int i), some (.int v), none]) (st' := [.ref 9, .int 0, .int i]) (g_c dX7_swapped_0 (g_c dX7_swapped_1 (g_c dX7_swapped_2 g_n))) rfl rfl ?_
  refine V_alen C (k := 9) (n := 5) (v := 5) (by rfl) (by rfl) (by decide) dX7_swapped_3 ?_
  refine V_blk C (pc' := 6) (σ' := σ) (L' := [some (.ref 9), some (.int i), some (.int v), none]) (st' := [.int 4, .int 0, .int i]) (g_c dX7_swapped_4 (g_c dX7_swapped_5 g_n)) rfl rfl ?_
  refine V_callSI C cs_X7_85 (c_X7_isIn σ i 0 4) (by decide) (by decide) (fun _ h => h) (As := [.int i, .int 0, .int 4]) (rest := []) rfl rfl (Nat.le_of_ble_eq_true rfl) dX7_swapped_6 ?_
  refine V_if_ne_b C (tgt := 15) dX7_swapped_9 (by decide) (fun h9 => ?_) (fun h9 => absurd (g_in_vp hi (by decide)) h9)
  refine V_blk C (pc' := 17) (σ' := σ) (L' := [some (.ref 9), some (.int i), some (.int v), none]) (st' := [.int i, .ref 9]) (g_c dX7_swapped_15 (g_c dX7_swapped_16 g_n)) rfl rfl ?_
  refine V_iald C (k := 9) (n := 5) (by rfl) (by rfl) hi dX7_swapped_17 ?_
  refine V_blk C (pc' := 22) (σ' := σ) (L' := [some (.ref 9), some (.int i), some (.int v), some (.int (σ 9 (Int32.toNatClampNeg i)))]) (st' := [.int v, .int i, .ref 9]) (g_c dX7_swapped_18 (g_c dX7_swapped_19 (g_c dX7_swapped_20 (g_c dX7_swapped_21 g_n)))) rfl rfl ?_
  refine V_iast C (k := 9) (n := 5) (by rfl) (by rfl) hi dX7_swapped_22 ?_
  refine V_blk C (pc' := 24) (σ' := (g_up σ 9 (Int32.toNatClampNeg i) v)) (L' := [some (.ref 9), some (.int i), some (.int v), some (.int (σ 9 (Int32.toNatClampNeg i)))]) (st' := [.int (σ 9 (Int32.toNatClampNeg i))]) (g_c dX7_swapped_23 g_n) rfl rfl ?_
  refine V_iret C dX7_swapped_24 ?_
  exact ⟨rfl, rfl⟩
set_option maxHeartbeats 4000000 in
set_option maxRecDepth 100000 in
theorem c_X7_changed1 (σ : gS) (v : Int32) : g_Met yX7_changed cX7_changed 4 (some .int) 2 kX [.ref 0, .int 1, .int v] σ (fun rv s => rv = some (.int (if g_in v 0 16777215 then (σ 1 10) else (-2))) ∧ s = (if g_in v 0 16777215 then (g_up σ 1 10 v) else σ)) := by
  refine g_Met.of (own := 7) (L := [some (.ref 0), some (.int 1), some (.int v), none]) (by decide) rfl rfl (fun ad => Nat.le_of_ble_eq_true rfl) (fun ad => rfl) (fun X G K C => ?_)
  refine V_blk C (pc' := 2) (σ' := σ) (L' := [some (.ref 0), some (.int 1), some (.int v), none]) (st' := [.int 1, .int 1]) (g_c dX7_changed_0 (g_c dX7_changed_1 g_n)) rfl rfl ?_
  refine V_icmp_ne C (tgt := 15) dX7_changed_2 (by decide) (fun z => absurd z (by decide)) (fun _ => ?_)
  refine V_blk C (pc' := 12) (σ' := σ) (L' := [some (.ref 0), some (.int 1), some (.int v), none]) (st' := [.int (σ 1 10)]) (g_c dX7_changed_5 (g_c dX7_changed_6 (g_c dX7_changed_9 g_n))) rfl rfl ?_
  refine V_goto C (tgt := 37) dX7_changed_12 (by decide) ?_
  refine V_blk C (pc' := 40) (σ' := σ) (L' := [some (.ref 0), some (.int 1), some (.int v), some (.int (σ 1 10))]) (st' := [.int 1, .int 1]) (g_c dX7_changed_37 (g_c dX7_changed_38 (g_c dX7_changed_39 g_n))) rfl rfl ?_
  refine V_icmp_ne C (tgt := 65) dX7_changed_40 (by decide) (fun z => absurd z (by decide)) (fun _ => ?_)
  refine V_blk C (pc' := 48) (σ' := σ) (L' := [some (.ref 0), some (.int 1), some (.int v), some (.int (σ 1 10))]) (st' := [.int 16777215, .int 0, .int v]) (g_c dX7_changed_43 (g_c dX7_changed_44 (g_c dX7_changed_45 g_n))) rfl rfl ?_
  refine V_callSI C cs_X7_85 (c_X7_isIn σ v 0 16777215) (by decide) (by decide) (fun _ h => h) (As := [.int v, .int 0, .int 16777215]) (rest := []) rfl rfl (Nat.le_of_ble_eq_true rfl) dX7_changed_48 ?_
  refine V_if_eq_b C (tgt := 65) dX7_changed_51 (by decide) (fun h51 => ?_) (fun h51 => ?_)
  · skip
    refine V_blk C (pc' := 67) (σ' := σ) (L' := [some (.ref 0), some (.int 1), some (.int v), some (.int (σ 1 10))]) (st' := [.int 2, .int 1]) (g_c dX7_changed_65 (g_c dX7_changed_66 g_n)) rfl rfl ?_
    refine V_icmp_ne C (tgt := 90) dX7_changed_67 (by decide) (fun _ => ?_) (fun z => absurd z (by decide))
    refine V_blk C (pc' := 92) (σ' := σ) (L' := [some (.ref 0), some (.int 1), some (.int v), some (.int (σ 1 10))]) (st' := [.int 3, .int 1]) (g_c dX7_changed_90 (g_c dX7_changed_91 g_n)) rfl rfl ?_
    refine V_icmp_ne C (tgt := 115) dX7_changed_92 (by decide) (fun _ => ?_) (fun z => absurd z (by decide))
    refine V_blk C (pc' := 117) (σ' := σ) (L' := [some (.ref 0), some (.int 1), some (.int v), some (.int (σ 1 10))]) (st' := [.int (-2)]) (g_c dX7_changed_115 g_n) rfl rfl ?_
    refine V_iret C dX7_changed_117 ?_
    exact ⟨by rw [if_neg (fun z => h51 z)], by rw [if_neg (fun z => h51 z)]⟩
  · skip
    refine V_blk C (pc' := 62) (σ' := (g_up σ 1 10 v)) (L' := [some (.ref 0), some (.int 1), some (.int v), some (.int (σ 1 10))]) (st' := []) (g_c dX7_changed_54 (g_c dX7_changed_55 (g_c dX7_changed_58 (g_c dX7_changed_59 g_n)))) rfl rfl ?_
    refine V_goto C (tgt := 118) dX7_changed_62 (by decide) ?_
    refine V_blk C (pc' := 119) (σ' := (g_up σ 1 10 v)) (L' := [some (.ref 0), some (.int 1), some (.int v), some (.int (σ 1 10))]) (st' := [.int (σ 1 10)]) (g_c dX7_changed_118 g_n) rfl rfl ?_
    refine V_iret C dX7_changed_119 ?_
    exact ⟨by rw [if_pos h51], by rw [if_pos h51]⟩
set_option maxHeartbeats 4000000 in
set_option maxRecDepth 100000 in
theorem c_X7_changed2 (σ : gS) (v : Int32) : g_Met yX7_changed cX7_changed 4 (some .int) 2 kX [.ref 0, .int 2, .int v] σ (fun rv s => rv = some (.int (if g_in v 1 5 then (σ 1 11) else (-2))) ∧ s = (if g_in v 1 5 then (g_up σ 1 11 v) else σ)) := by
  refine g_Met.of (own := 7) (L := [some (.ref 0), some (.int 2), some (.int v), none]) (by decide) rfl rfl (fun ad => Nat.le_of_ble_eq_true rfl) (fun ad => rfl) (fun X G K C => ?_)
  refine V_blk C (pc' := 2) (σ' := σ) (L' := [some (.ref 0), some (.int 2), some (.int v), none]) (st' := [.int 1, .int 2]) (g_c dX7_changed_0 (g_c dX7_changed_1 g_n)) rfl rfl ?_
  refine V_icmp_ne C (tgt := 15) dX7_changed_2 (by decide) (fun _ => ?_) (fun z => absurd z (by decide))
  refine V_blk C (pc' := 17) (σ' := σ) (L' := [some (.ref 0), some (.int 2), some (.int v), none]) (st' := [.int 2, .int 2]) (g_c dX7_changed_15 (g_c dX7_changed_16 g_n)) rfl rfl ?_
  refine V_icmp_ne C (tgt := 30) dX7_changed_17 (by decide) (fun z => absurd z (by decide)) (fun _ => ?_)
  refine V_blk C (pc' := 27) (σ' := σ) (L' := [some (.ref 0), some (.int 2), some (.int v), none]) (st' := [.int (σ 1 11)]) (g_c dX7_changed_20 (g_c dX7_changed_21 (g_c dX7_changed_24 g_n))) rfl rfl ?_
  refine V_goto C (tgt := 37) dX7_changed_27 (by decide) ?_
  refine V_blk C (pc' := 40) (σ' := σ) (L' := [some (.ref 0), some (.int 2), some (.int v), some (.int (σ 1 11))]) (st' := [.int 1, .int 2]) (g_c dX7_changed_37 (g_c dX7_changed_38 (g_c dX7_changed_39 g_n))) rfl rfl ?_
  refine V_icmp_ne C (tgt := 65) dX7_changed_40 (by decide) (fun _ => ?_) (fun z => absurd z (by decide))
  refine V_blk C (pc' := 67) (σ' := σ) (L' := [some (.ref 0), some (.int 2), some (.int v), some (.int (σ 1 11))]) (st' := [.int 2, .int 2]) (g_c dX7_changed_65 (g_c dX7_changed_66 g_n)) rfl rfl ?_
  refine V_icmp_ne C (tgt := 90) dX7_changed_67 (by decide) (fun z => absurd z (by decide)) (fun _ => ?_)
  refine V_blk C (pc' := 73) (σ' := σ) (L' := [some (.ref 0), some (.int 2), some (.int v), some (.int (σ 1 11))]) (st' := [.int 5, .int 1, .int v]) (g_c dX7_changed_70 (g_c dX7_changed_71 (g_c dX7_changed_72 g_n))) rfl rfl ?_
  refine V_callSI C cs_X7_85 (c_X7_isIn σ v 1 5) (by decide) (by decide) (fun _ h => h) (As := [.int v, .int 1, .int 5]) (rest := []) rfl rfl (Nat.le_of_ble_eq_true rfl) dX7_changed_73 ?_
  refine V_if_eq_b C (tgt := 90) dX7_changed_76 (by decide) (fun h76 => ?_) (fun h76 => ?_)
  · skip
    refine V_blk C (pc' := 92) (σ' := σ) (L' := [some (.ref 0), some (.int 2), some (.int v), some (.int (σ 1 11))]) (st' := [.int 3, .int 2]) (g_c dX7_changed_90 (g_c dX7_changed_91 g_n)) rfl rfl ?_
    refine V_icmp_ne C (tgt := 115) dX7_changed_92 (by decide) (fun _ => ?_) (fun z => absurd z (by decide))
    refine V_blk C (pc' := 117) (σ' := σ) (L' := [some (.ref 0), some (.int 2), some (.int v), some (.int (σ 1 11))]) (st' := [.int (-2)]) (g_c dX7_changed_115 g_n) rfl rfl ?_
    refine V_iret C dX7_changed_117 ?_
    exact ⟨by rw [if_neg (fun z => h76 z)], by rw [if_neg (fun z => h76 z)]⟩
  · skip
    refine V_blk C (pc' := 87) (σ' := (g_up σ 1 11 v)) (L' := [some (.ref 0), some (.int 2), some (.int v), some (.int (σ 1 11))]) (st' := []) (g_c dX7_changed_79 (g_c dX7_changed_80 (g_c dX7_changed_83 (g_c dX7_changed_84 g_n)))) rfl rfl ?_
    refine V_goto C (tgt := 118) dX7_changed_87 (by decide) ?_
    refine V_blk C (pc' := 119) (σ' := (g_up σ 1 11 v)) (L' := [some (.ref 0), some (.int 2), some (.int v), some (.int (σ 1 11))]) (st' := [.int (σ 1 11)]) (g_c dX7_changed_118 g_n) rfl rfl ?_
    refine V_iret C dX7_changed_119 ?_
    exact ⟨by rw [if_pos h76], by rw [if_pos h76]⟩
set_option maxHeartbeats 4000000 in
set_option maxRecDepth 100000 in
theorem c_X7_changed3 (σ : gS) (v : Int32) : g_Met yX7_changed cX7_changed 4 (some .int) 2 kX [.ref 0, .int 3, .int v] σ (fun rv s => rv = some (.int (if g_in v 0 1 then (σ 1 12) else (-2))) ∧ s = (if g_in v 0 1 then (g_up σ 1 12 v) else σ)) := by
  refine g_Met.of (own := 7) (L := [some (.ref 0), some (.int 3), some (.int v), none]) (by decide) rfl rfl (fun ad => Nat.le_of_ble_eq_true rfl) (fun ad => rfl) (fun X G K C => ?_)
  refine V_blk C (pc' := 2) (σ' := σ) (L' := [some (.ref 0), some (.int 3), some (.int v), none]) (st' := [.int 1, .int 3]) (g_c dX7_changed_0 (g_c dX7_changed_1 g_n)) rfl rfl ?_
  refine V_icmp_ne C (tgt := 15) dX7_changed_2 (by decide) (fun _ => ?_) (fun z => absurd z (by decide))
  refine V_blk C (pc' := 17) (σ' := σ) (L' := [some (.ref 0), some (.int 3), some (.int v), none]) (st' := [.int 2, .int 3]) (g_c dX7_changed_15 (g_c dX7_changed_16 g_n)) rfl rfl ?_
  refine V_icmp_ne C (tgt := 30) dX7_changed_17 (by decide) (fun _ => ?_) (fun z => absurd z (by decide))
  refine V_blk C (pc' := 40) (σ' := σ) (L' := [some (.ref 0), some (.int 3), some (.int v), some (.int (σ 1 12))]) (st' := [.int 1, .int 3]) (g_c dX7_changed_30 (g_c dX7_changed_31 (g_c dX7_changed_34 (g_c dX7_changed_37 (g_c dX7_changed_38 (g_c dX7_changed_39 g_n)))))) rfl rfl ?_
  refine V_icmp_ne C (tgt := 65) dX7_changed_40 (by decide) (fun _ => ?_) (fun z => absurd z (by decide))
  refine V_blk C (pc' := 67) (σ' := σ) (L' := [some (.ref 0), some (.int 3), some (.int v), some (.int (σ 1 12))]) (st' := [.int 2, .int 3]) (g_c dX7_changed_65 (g_c dX7_changed_66 g_n)) rfl rfl ?_
  refine V_icmp_ne C (tgt := 90) dX7_changed_67 (by decide) (fun _ => ?_) (fun z => absurd z (by decide))
  refine V_blk C (pc' := 92) (σ' := σ) (L' := [some (.ref 0), some (.int 3), some (.int v), some (.int (σ 1 12))]) (st' := [.int 3, .int 3]) (g_c dX7_changed_90 (g_c dX7_changed_91 g_n)) rfl rfl ?_
  refine V_icmp_ne C (tgt := 115) dX7_changed_92 (by decide) (fun z => absurd z (by decide)) (fun _ => ?_)
  refine V_blk C (pc' := 98) (σ' := σ) (L' := [some (.ref 0), some (.int 3), some (.int v), some (.int (σ 1 12))]) (st' := [.int 1, .int 0, .int v]) (g_c dX7_changed_95 (g_c dX7_changed_96 (g_c dX7_changed_97 g_n))) rfl rfl ?_
  refine V_callSI C cs_X7_85 (c_X7_isIn σ v 0 1) (by decide) (by decide) (fun _ h => h) (As := [.int v, .int 0, .int 1]) (rest := []) rfl rfl (Nat.le_of_ble_eq_true rfl) dX7_changed_98 ?_
  refine V_if_eq_b C (tgt := 115) dX7_changed_101 (by decide) (fun h101 => ?_) (fun h101 => ?_)
  · skip
    refine V_blk C (pc' := 117) (σ' := σ) (L' := [some (.ref 0), some (.int 3), some (.int v), some (.int (σ 1 12))]) (st' := [.int (-2)]) (g_c dX7_changed_115 g_n) rfl rfl ?_
    refine V_iret C dX7_changed_117 ?_
    exact ⟨by rw [if_neg (fun z => h101 z)], by rw [if_neg (fun z => h101 z)]⟩
  · skip
    refine V_blk C (pc' := 112) (σ' := (g_up σ 1 12 v)) (L' := [some (.ref 0), some (.int 3), some (.int v), some (.int (σ 1 12))]) (st' := []) (g_c dX7_changed_104 (g_c dX7_changed_105 (g_c dX7_changed_108 (g_c dX7_changed_109 g_n)))) rfl rfl ?_
    refine V_goto C (tgt := 118) dX7_changed_112 (by decide) ?_
    refine V_blk C (pc' := 119) (σ' := (g_up σ 1 12 v)) (L' := [some (.ref 0), some (.int 3), some (.int v), some (.int (σ 1 12))]) (st' := [.int (σ 1 12)]) (g_c dX7_changed_118 g_n) rfl rfl ?_
    refine V_iret C dX7_changed_119 ?_
    exact ⟨by rw [if_pos h101], by rw [if_pos h101]⟩
set_option maxHeartbeats 4000000 in
set_option maxRecDepth 100000 in
theorem c_X7_set0 (σ : gS) (o v : Int32) : g_Met yX7_set cX7_set 4 (some .int) 3 kX [.ref 0, .int 0, .int o, .int v] σ (fun rv s => rv = some (.int (if g_in o 0 23 ∧ g_in v 0 9 then (σ 2 (ix o)) else (-2))) ∧ s = (if g_in o 0 23 ∧ g_in v 0 9 then (g_up σ 2 (ix o) v) else σ)) := by
  refine g_Met.of (own := 7) (L := [some (.ref 0), some (.int 0), some (.int o), some (.int v)]) (by decide) rfl rfl (fun ad => Nat.le_of_ble_eq_true rfl) (fun ad => rfl) (fun X G K C => ?_)
  refine V_blk C (pc' := 1) (σ' := σ) (L' := [some (.ref 0), some (.int 0), some (.int o), some (.int v)]) (st' := [.int 0]) (g_c dX7_set_0 g_n) rfl rfl ?_
  refine V_tsw C 0 43 (tgt := 44) dX7_set_1 (by decide) (by decide) (by decide) (by decide) (fun _ => ?_) (fun z => absurd rfl z)
  refine V_blk C (pc' := 45) (σ' := σ) (L' := [some (.ref 0), some (.int 0), some (.int o), some (.int v)]) (st' := [.int o]) (g_c dX7_set_44 g_n) rfl rfl ?_
  refine V_callSI C cs_X7_82 (c_X7_isHour σ o) (by decide) (by decide) (fun _ h => h) (As := [.int o]) (rest := []) rfl rfl (Nat.le_of_ble_eq_true rfl) dX7_set_45 ?_
  refine V_if_eq_b C (tgt := 76) dX7_set_48 (by decide) (fun h48 => ?_) (fun h48 => ?_)
  · skip
    refine V_blk C (pc' := 78) (σ' := σ) (L' := [some (.ref 0), some (.int 0), some (.int o), some (.int v)]) (st' := [.int (-2)]) (g_c dX7_set_76 g_n) rfl rfl ?_
    refine V_iret C dX7_set_78 ?_
    exact ⟨by rw [if_neg (fun z => h48 z.1)], by rw [if_neg (fun z => h48 z.1)]⟩
  · skip
    refine V_blk C (pc' := 55) (σ' := σ) (L' := [some (.ref 0), some (.int 0), some (.int o), some (.int v)]) (st' := [.int 9, .int 0, .int v]) (g_c dX7_set_51 (g_c dX7_set_52 (g_c dX7_set_53 g_n))) rfl rfl ?_
    refine V_callSI C cs_X7_85 (c_X7_isIn σ v 0 9) (by decide) (by decide) (fun _ h => h) (As := [.int v, .int 0, .int 9]) (rest := []) rfl rfl (Nat.le_of_ble_eq_true rfl) dX7_set_55 ?_
    refine V_if_eq_b C (tgt := 76) dX7_set_58 (by decide) (fun h58 => ?_) (fun h58 => ?_)
    · skip
      refine V_blk C (pc' := 78) (σ' := σ) (L' := [some (.ref 0), some (.int 0), some (.int o), some (.int v)]) (st' := [.int (-2)]) (g_c dX7_set_76 g_n) rfl rfl ?_
      refine V_iret C dX7_set_78 ?_
      exact ⟨by rw [if_neg (fun z => h58 z.2)], by rw [if_neg (fun z => h58 z.2)]⟩
    · skip
      refine V_blk C (pc' := 70) (σ' := σ) (L' := [some (.ref 0), some (.int 0), some (.int o), some (.int v)]) (st' := [.int v, .int o, .ref 2]) (g_c dX7_set_61 (g_c dX7_set_62 (g_c dX7_set_65 (g_c dX7_set_68 (g_c dX7_set_69 g_n))))) rfl rfl ?_
      refine V_callSI C cs_X7_93 (c_X7_swapped_2 σ o v (g_vpc h48 (by decide))) (by decide) (by decide) (fun _ h => h) (As := [.ref 2, .int o, .int v]) (rest := []) rfl rfl (Nat.le_of_ble_eq_true rfl) dX7_set_70 ?_
      refine V_goto C (tgt := 78) dX7_set_73 (by decide) ?_
      refine V_iret C dX7_set_78 ?_
      exact ⟨by rw [if_pos ⟨h48, h58⟩], by rw [if_pos ⟨h48, h58⟩]⟩
-- M0
set_option maxHeartbeats 4000000 in
set_option maxRecDepth 100000 in
theorem c_X8_set0 (σ : gS) (o v : Int32) : g_Met yX8_set cX8_set 5 (some .int) 3 kM [.ref 63, .int 0, .int o, .int v] σ (fun rv s => rv = some (.int (if g_in o 0 23 ∧ g_in v 0 9 then (σ 67 (ix o)) else (-2))) ∧ s = (if g_in o 0 23 ∧ g_in v 0 9 then (g_up σ 67 (ix o) v) else σ)) := by
  refine g_Met.of (own := 8) (L := [some (.ref 63), some (.int 0), some (.int o), some (.int v), none]) (by decide) rfl rfl (fun ad => Nat.le_of_ble_eq_true rfl) (fun ad => rfl) (fun X G K C => ?_)
  refine V_blk C (pc' := 6) (σ' := σ) (L' := [some (.ref 63), some (.int 0), some (.int o), some (.int v), none]) (st' := [.long 6, .long 0, .long (Int32.toInt64 0)]) (g_c dX8_set_0 (g_c dX8_set_1 (g_c dX8_set_2 (g_c dX8_set_3 g_n)))) rfl rfl ?_
  refine V_callSI C cs_X8_110 (c_X8_in32 σ 0 0 6 (by decide) (by decide)) (by decide) (by decide) (fun _ h => h) (As := [.long (Int32.toInt64 0), .long 0, .long 6]) (rest := []) rfl rfl (Nat.le_of_ble_eq_true rfl) dX8_set_6 ?_
  refine V_if_eq_b C (tgt := 36) dX8_set_9 (by decide) (fun z => absurd (by decide) z) (fun _ => ?_)
  refine V_blk C (pc' := 13) (σ' := σ) (L' := [some (.ref 63), some (.int 0), some (.int o), some (.int v), none]) (st' := [.int 0]) (g_c dX8_set_12 g_n) rfl rfl ?_
  refine V_if_ne C (tgt := 23) dX8_set_13 (by decide) (fun z => absurd z (by decide)) (fun _ => ?_)
  refine V_blk C (pc' := 17) (σ' := σ) (L' := [some (.ref 63), some (.int 0), some (.int o), some (.int v), none]) (st' := [.int o]) (g_c dX8_set_16 g_n) rfl rfl ?_
  refine V_callSI C cs_X8_123 (c_X8_isHour σ o) (by decide) (by decide) (fun _ h => h) (As := [.int o]) (rest := []) rfl rfl (Nat.le_of_ble_eq_true rfl) dX8_set_17 ?_
  refine V_if_eq_b C (tgt := 36) dX8_set_20 (by decide) (fun h20 => ?_) (fun h20 => ?_)
  · skip
    refine V_blk C (pc' := 38) (σ' := σ) (L' := [some (.ref 63), some (.int 0), some (.int o), some (.int v), none]) (st' := [.int (-2)]) (g_c dX8_set_36 g_n) rfl rfl ?_
    refine V_iret C dX8_set_38 ?_
    exact ⟨by rw [if_neg (fun z => h20 z.1)], by rw [if_neg (fun z => h20 z.1)]⟩
  · skip
    refine V_blk C (pc' := 25) (σ' := σ) (L' := [some (.ref 63), some (.int 0), some (.int o), some (.int v), none]) (st' := [.int 3, .int 0]) (g_c dX8_set_23 (g_c dX8_set_24 g_n)) rfl rfl ?_
    refine V_icmp_le2 C (tgt := 39) dX8_set_25 (by decide) (fun _ => ?_) (fun z => absurd z (by decide))
    refine V_blk C (pc' := 43) (σ' := σ) (L' := [some (.ref 63), some (.int 0), some (.int o), some (.int v), none]) (st' := [.int 2, .int 0, .long (Int32.toInt64 v)]) (g_c dX8_set_39 (g_c dX8_set_40 (g_c dX8_set_41 (g_c dX8_set_42 g_n)))) rfl rfl ?_
    refine V_icmp_ne C (tgt := 50) dX8_set_43 (by decide) (fun _ => ?_) (fun z => absurd z (by decide))
    refine V_blk C (pc' := 53) (σ' := σ) (L' := [some (.ref 63), some (.int 0), some (.int o), some (.int v), none]) (st' := [.int 1, .int 0, .long 0, .long (Int32.toInt64 v)]) (g_c dX8_set_50 (g_c dX8_set_51 (g_c dX8_set_52 g_n))) rfl rfl ?_
    refine V_icmp_ne C (tgt := 62) dX8_set_53 (by decide) (fun _ => ?_) (fun z => absurd z (by decide))
    refine V_blk C (pc' := 64) (σ' := σ) (L' := [some (.ref 63), some (.int 0), some (.int o), some (.int v), none]) (st' := [.int 2, .int 0, .long 0, .long (Int32.toInt64 v)]) (g_c dX8_set_62 (g_c dX8_set_63 g_n)) rfl rfl ?_
    refine V_icmp_ne C (tgt := 73) dX8_set_64 (by decide) (fun _ => ?_) (fun z => absurd z (by decide))
    refine V_blk C (pc' := 75) (σ' := σ) (L' := [some (.ref 63), some (.int 0), some (.int o), some (.int v), none]) (st' := [.int 3, .int 0, .long 0, .long (Int32.toInt64 v)]) (g_c dX8_set_73 (g_c dX8_set_74 g_n)) rfl rfl ?_
    refine V_icmp_ne C (tgt := 82) dX8_set_75 (by decide) (fun _ => ?_) (fun z => absurd z (by decide))
    refine V_blk C (pc' := 85) (σ' := σ) (L' := [some (.ref 63), some (.int 0), some (.int o), some (.int v), none]) (st' := [.int 6, .int 0, .long 0, .long (Int32.toInt64 v)]) (g_c dX8_set_82 (g_c dX8_set_83 g_n)) rfl rfl ?_
    refine V_icmp_ne C (tgt := 94) dX8_set_85 (by decide) (fun _ => ?_) (fun z => absurd z (by decide))
    refine V_blk C (pc' := 97) (σ' := σ) (L' := [some (.ref 63), some (.int 0), some (.int o), some (.int v), none]) (st' := [.long 9, .long 0, .long (Int32.toInt64 v)]) (g_c dX8_set_94 g_n) rfl rfl ?_
    refine V_callSI C cs_X8_110 (c_X8_in32 σ v 0 9 (by decide) (by decide)) (by decide) (by decide) (fun _ h => h) (As := [.long (Int32.toInt64 v), .long 0, .long 9]) (rest := []) rfl rfl (Nat.le_of_ble_eq_true rfl) dX8_set_97 ?_
    refine V_if_ne_b C (tgt := 106) dX8_set_100 (by decide) (fun h100 => ?_) (fun h100 => ?_)
    · skip
      refine V_blk C (pc' := 107) (σ' := σ) (L' := [some (.ref 63), some (.int 0), some (.int o), some (.int v), none]) (st' := [.int 0]) (g_c dX8_set_106 g_n) rfl rfl ?_
      refine V_if_ne C (tgt := 119) dX8_set_107 (by decide) (fun z => absurd z (by decide)) (fun _ => ?_)
      refine V_blk C (pc' := 115) (σ' := σ) (L' := [some (.ref 63), some (.int 0), some (.int o), some (.int v), none]) (st' := [.int o, .ref 67]) (g_c dX8_set_110 (g_c dX8_set_111 (g_c dX8_set_114 g_n))) rfl rfl ?_
      refine V_iald C (k := 67) (n := 24) (by rfl) (by rfl) (g_vpc h20 (by decide)) dX8_set_115 ?_
      refine V_goto C (tgt := 189) dX8_set_116 (by decide) ?_
      refine V_blk C (pc' := 192) (σ' := σ) (L' := [some (.ref 63), some (.int 0), some (.int o), some (.int v), some (.int (σ 67 (Int32.toNatClampNeg o)))]) (st' := [.int 0]) (g_c dX8_set_189 (g_c dX8_set_191 g_n)) rfl rfl ?_
      refine V_if_ne C (tgt := 205) dX8_set_192 (by decide) (fun z => absurd z (by decide)) (fun _ => ?_)
      refine V_blk C (pc' := 201) (σ' := σ) (L' := [some (.ref 63), some (.int 0), some (.int o), some (.int v), some (.int (σ 67 (Int32.toNatClampNeg o)))]) (st' := [.int v, .int o, .ref 67]) (g_c dX8_set_195 (g_c dX8_set_196 (g_c dX8_set_199 (g_c dX8_set_200 g_n)))) rfl rfl ?_
      refine V_iast C (k := 67) (n := 24) (by rfl) (by rfl) (g_vpc h20 (by decide)) dX8_set_201 ?_
      refine V_goto C (tgt := 281) dX8_set_202 (by decide) ?_
      refine V_blk C (pc' := 283) (σ' := (g_up σ 67 (Int32.toNatClampNeg o) v)) (L' := [some (.ref 63), some (.int 0), some (.int o), some (.int v), some (.int (σ 67 (Int32.toNatClampNeg o)))]) (st' := [.int (σ 67 (Int32.toNatClampNeg o))]) (g_c dX8_set_281 g_n) rfl rfl ?_
      refine V_iret C dX8_set_283 ?_
      exact ⟨by rw [if_pos ⟨h20, h100⟩], by rw [if_pos ⟨h20, h100⟩]⟩
    · skip
      refine V_blk C (pc' := 105) (σ' := σ) (L' := [some (.ref 63), some (.int 0), some (.int o), some (.int v), none]) (st' := [.int (-2)]) (g_c dX8_set_103 g_n) rfl rfl ?_
      refine V_iret C dX8_set_105 ?_
      exact ⟨by rw [if_neg (fun z => h100 z.2)], by rw [if_neg (fun z => h100 z.2)]⟩
set_option maxHeartbeats 4000000 in
set_option maxRecDepth 100000 in
theorem c_X7_set1 (σ : gS) (o v : Int32) : g_Met yX7_set cX7_set 4 (some .int) 3 kX [.ref 0, .int 1, .int o, .int v] σ (fun rv s => rv = some (.int (if g_in v 0 16777215 then (σ 1 10) else (-2))) ∧ s = (if g_in v 0 16777215 then (g_up σ 1 10 v) else σ)) := by
  refine g_Met.of (own := 7) (L := [some (.ref 0), some (.int 1), some (.int o), some (.int v)]) (by decide) rfl rfl (fun ad => Nat.le_of_ble_eq_true rfl) (fun ad => rfl) (fun X G K C => ?_)
  refine V_blk C (pc' := 1) (σ' := σ) (L' := [some (.ref 0), some (.int 1), some (.int o), some (.int v)]) (st' := [.int 1]) (g_c dX7_set_0 g_n) rfl rfl ?_
  refine V_tsw C 1 78 (tgt := 79) dX7_set_1 (by decide) (by decide) (by decide) (by decide) (fun _ => ?_) (fun z => absurd rfl z)
  refine V_blk C (pc' := 82) (σ' := σ) (L' := [some (.ref 0), some (.int 1), some (.int o), some (.int v)]) (st' := [.int v, .int 1, .ref 0]) (g_c dX7_set_79 (g_c dX7_set_80 (g_c dX7_set_81 g_n))) rfl rfl ?_
  refine V_callVI C cv_X7_97 (c_X7_changed1 σ v) ⟨_, _, _, _, rfl, rfl⟩ (by rfl) (by decide) (by decide) (fun _ h => h) (As := [.int 1, .int v]) (rest := []) rfl rfl (Nat.le_of_ble_eq_true rfl) dX7_set_82 ?_
  refine V_iret C dX7_set_85 ?_
  exact ⟨rfl, rfl⟩
-- M1
set_option maxHeartbeats 4000000 in
set_option maxRecDepth 100000 in
theorem c_X8_set1 (σ : gS) (o v : Int32) : g_Met yX8_set cX8_set 5 (some .int) 3 kM [.ref 63, .int 1, .int o, .int v] σ (fun rv s => rv = some (.int (if g_in v 0 16777215 then (σ 63 8) else (-2))) ∧ s = (if g_in v 0 16777215 then (g_up σ 63 8 v) else σ)) := by
  refine g_Met.of (own := 8) (L := [some (.ref 63), some (.int 1), some (.int o), some (.int v), none]) (by decide) rfl rfl (fun ad => Nat.le_of_ble_eq_true rfl) (fun ad => rfl) (fun X G K C => ?_)
  refine V_blk C (pc' := 6) (σ' := σ) (L' := [some (.ref 63), some (.int 1), some (.int o), some (.int v), none]) (st' := [.long 6, .long 0, .long (Int32.toInt64 1)]) (g_c dX8_set_0 (g_c dX8_set_1 (g_c dX8_set_2 (g_c dX8_set_3 g_n)))) rfl rfl ?_
  refine V_callSI C cs_X8_110 (c_X8_in32 σ 1 0 6 (by decide) (by decide)) (by decide) (by decide) (fun _ h => h) (As := [.long (Int32.toInt64 1), .long 0, .long 6]) (rest := []) rfl rfl (Nat.le_of_ble_eq_true rfl) dX8_set_6 ?_
  refine V_if_eq_b C (tgt := 36) dX8_set_9 (by decide) (fun z => absurd (by decide) z) (fun _ => ?_)
  refine V_blk C (pc' := 13) (σ' := σ) (L' := [some (.ref 63), some (.int 1), some (.int o), some (.int v), none]) (st' := [.int 1]) (g_c dX8_set_12 g_n) rfl rfl ?_
  refine V_if_ne C (tgt := 23) dX8_set_13 (by decide) (fun _ => ?_) (fun z => absurd z (by decide))
  refine V_blk C (pc' := 25) (σ' := σ) (L' := [some (.ref 63), some (.int 1), some (.int o), some (.int v), none]) (st' := [.int 3, .int 1]) (g_c dX8_set_23 (g_c dX8_set_24 g_n)) rfl rfl ?_
  refine V_icmp_le2 C (tgt := 39) dX8_set_25 (by decide) (fun _ => ?_) (fun z => absurd z (by decide))
  refine V_blk C (pc' := 43) (σ' := σ) (L' := [some (.ref 63), some (.int 1), some (.int o), some (.int v), none]) (st' := [.int 2, .int 1, .long (Int32.toInt64 v)]) (g_c dX8_set_39 (g_c dX8_set_40 (g_c dX8_set_41 (g_c dX8_set_42 g_n)))) rfl rfl ?_
  refine V_icmp_ne C (tgt := 50) dX8_set_43 (by decide) (fun _ => ?_) (fun z => absurd z (by decide))
  refine V_blk C (pc' := 53) (σ' := σ) (L' := [some (.ref 63), some (.int 1), some (.int o), some (.int v), none]) (st' := [.int 1, .int 1, .long 0, .long (Int32.toInt64 v)]) (g_c dX8_set_50 (g_c dX8_set_51 (g_c dX8_set_52 g_n))) rfl rfl ?_
  refine V_icmp_ne C (tgt := 62) dX8_set_53 (by decide) (fun z => absurd z (by decide)) (fun _ => ?_)
  refine V_blk C (pc' := 59) (σ' := σ) (L' := [some (.ref 63), some (.int 1), some (.int o), some (.int v), none]) (st' := [.long 16777215, .long 0, .long (Int32.toInt64 v)]) (g_c dX8_set_56 g_n) rfl rfl ?_
  refine V_goto C (tgt := 97) dX8_set_59 (by decide) ?_
  refine V_callSI C cs_X8_110 (c_X8_in32 σ v 0 16777215 (by decide) (by decide)) (by decide) (by decide) (fun _ h => h) (As := [.long (Int32.toInt64 v), .long 0, .long 16777215]) (rest := []) rfl rfl (Nat.le_of_ble_eq_true rfl) dX8_set_97 ?_
  refine V_if_ne_b C (tgt := 106) dX8_set_100 (by decide) (fun h100 => ?_) (fun h100 => ?_)
  · skip
    refine V_blk C (pc' := 107) (σ' := σ) (L' := [some (.ref 63), some (.int 1), some (.int o), some (.int v), none]) (st' := [.int 1]) (g_c dX8_set_106 g_n) rfl rfl ?_
    refine V_if_ne C (tgt := 119) dX8_set_107 (by decide) (fun _ => ?_) (fun z => absurd z (by decide))
    refine V_blk C (pc' := 121) (σ' := σ) (L' := [some (.ref 63), some (.int 1), some (.int o), some (.int v), none]) (st' := [.int 1, .int 1]) (g_c dX8_set_119 (g_c dX8_set_120 g_n)) rfl rfl ?_
    refine V_icmp_ne C (tgt := 131) dX8_set_121 (by decide) (fun z => absurd z (by decide)) (fun _ => ?_)
    refine V_blk C (pc' := 128) (σ' := σ) (L' := [some (.ref 63), some (.int 1), some (.int o), some (.int v), none]) (st' := [.int (σ 63 8)]) (g_c dX8_set_124 (g_c dX8_set_125 g_n)) rfl rfl ?_
    refine V_goto C (tgt := 189) dX8_set_128 (by decide) ?_
    refine V_blk C (pc' := 192) (σ' := σ) (L' := [some (.ref 63), some (.int 1), some (.int o), some (.int v), some (.int (σ 63 8))]) (st' := [.int 1]) (g_c dX8_set_189 (g_c dX8_set_191 g_n)) rfl rfl ?_
    refine V_if_ne C (tgt := 205) dX8_set_192 (by decide) (fun _ => ?_) (fun z => absurd z (by decide))
    refine V_blk C (pc' := 207) (σ' := σ) (L' := [some (.ref 63), some (.int 1), some (.int o), some (.int v), some (.int (σ 63 8))]) (st' := [.int 1, .int 1]) (g_c dX8_set_205 (g_c dX8_set_206 g_n)) rfl rfl ?_
    refine V_icmp_ne C (tgt := 218) dX8_set_207 (by decide) (fun z => absurd z (by decide)) (fun _ => ?_)
    refine V_blk C (pc' := 215) (σ' := (g_up σ 63 8 v)) (L' := [some (.ref 63), some (.int 1), some (.int o), some (.int v), some (.int (σ 63 8))]) (st' := []) (g_c dX8_set_210 (g_c dX8_set_211 (g_c dX8_set_212 g_n))) rfl rfl ?_
    refine V_goto C (tgt := 281) dX8_set_215 (by decide) ?_
    refine V_blk C (pc' := 283) (σ' := (g_up σ 63 8 v)) (L' := [some (.ref 63), some (.int 1), some (.int o), some (.int v), some (.int (σ 63 8))]) (st' := [.int (σ 63 8)]) (g_c dX8_set_281 g_n) rfl rfl ?_
    refine V_iret C dX8_set_283 ?_
    exact ⟨by rw [if_pos h100], by rw [if_pos h100]⟩
  · skip
    refine V_blk C (pc' := 105) (σ' := σ) (L' := [some (.ref 63), some (.int 1), some (.int o), some (.int v), none]) (st' := [.int (-2)]) (g_c dX8_set_103 g_n) rfl rfl ?_
    refine V_iret C dX8_set_105 ?_
    exact ⟨by rw [if_neg (fun z => h100 z)], by rw [if_neg (fun z => h100 z)]⟩
set_option maxHeartbeats 4000000 in
set_option maxRecDepth 100000 in
theorem c_X7_set2 (σ : gS) (o v : Int32) : g_Met yX7_set cX7_set 4 (some .int) 3 kX [.ref 0, .int 2, .int o, .int v] σ (fun rv s => rv = some (.int (if g_in v 1 5 then (σ 1 11) else (-2))) ∧ s = (if g_in v 1 5 then (g_up σ 1 11 v) else σ)) := by
  refine g_Met.of (own := 7) (L := [some (.ref 0), some (.int 2), some (.int o), some (.int v)]) (by decide) rfl rfl (fun ad => Nat.le_of_ble_eq_true rfl) (fun ad => rfl) (fun X G K C => ?_)
  refine V_blk C (pc' := 1) (σ' := σ) (L' := [some (.ref 0), some (.int 2), some (.int o), some (.int v)]) (st' := [.int 2]) (g_c dX7_set_0 g_n) rfl rfl ?_
  refine V_tsw C 2 78 (tgt := 79) dX7_set_1 (by decide) (by decide) (by decide) (by decide) (fun _ => ?_) (fun z => absurd rfl z)
  refine V_blk C (pc' := 82) (σ' := σ) (L' := [some (.ref 0), some (.int 2), some (.int o), some (.int v)]) (st' := [.int v, .int 2, .ref 0]) (g_c dX7_set_79 (g_c dX7_set_80 (g_c dX7_set_81 g_n))) rfl rfl ?_
  refine V_callVI C cv_X7_97 (c_X7_changed2 σ v) ⟨_, _, _, _, rfl, rfl⟩ (by rfl) (by decide) (by decide) (fun _ h => h) (As := [.int 2, .int v]) (rest := []) rfl rfl (Nat.le_of_ble_eq_true rfl) dX7_set_82 ?_
  refine V_iret C dX7_set_85 ?_
  exact ⟨rfl, rfl⟩
-- M2
set_option maxHeartbeats 4000000 in
set_option maxRecDepth 100000 in
theorem c_X8_set2 (σ : gS) (o v : Int32) : g_Met yX8_set cX8_set 5 (some .int) 3 kM [.ref 63, .int 2, .int o, .int v] σ (fun rv s => rv = some (.int (if g_in v 1 5 then (σ 63 9) else (-2))) ∧ s = (if g_in v 1 5 then (g_up σ 63 9 v) else σ)) := by
  refine g_Met.of (own := 8) (L := [some (.ref 63), some (.int 2), some (.int o), some (.int v), none]) (by decide) rfl rfl (fun ad => Nat.le_of_ble_eq_true rfl) (fun ad => rfl) (fun X G K C => ?_)
  refine V_blk C (pc' := 6) (σ' := σ) (L' := [some (.ref 63), some (.int 2), some (.int o), some (.int v), none]) (st' := [.long 6, .long 0, .long (Int32.toInt64 2)]) (g_c dX8_set_0 (g_c dX8_set_1 (g_c dX8_set_2 (g_c dX8_set_3 g_n)))) rfl rfl ?_
  refine V_callSI C cs_X8_110 (c_X8_in32 σ 2 0 6 (by decide) (by decide)) (by decide) (by decide) (fun _ h => h) (As := [.long (Int32.toInt64 2), .long 0, .long 6]) (rest := []) rfl rfl (Nat.le_of_ble_eq_true rfl) dX8_set_6 ?_
  refine V_if_eq_b C (tgt := 36) dX8_set_9 (by decide) (fun z => absurd (by decide) z) (fun _ => ?_)
  refine V_blk C (pc' := 13) (σ' := σ) (L' := [some (.ref 63), some (.int 2), some (.int o), some (.int v), none]) (st' := [.int 2]) (g_c dX8_set_12 g_n) rfl rfl ?_
  refine V_if_ne C (tgt := 23) dX8_set_13 (by decide) (fun _ => ?_) (fun z => absurd z (by decide))
  refine V_blk C (pc' := 25) (σ' := σ) (L' := [some (.ref 63), some (.int 2), some (.int o), some (.int v), none]) (st' := [.int 3, .int 2]) (g_c dX8_set_23 (g_c dX8_set_24 g_n)) rfl rfl ?_
  refine V_icmp_le2 C (tgt := 39) dX8_set_25 (by decide) (fun _ => ?_) (fun z => absurd z (by decide))
  refine V_blk C (pc' := 43) (σ' := σ) (L' := [some (.ref 63), some (.int 2), some (.int o), some (.int v), none]) (st' := [.int 2, .int 2, .long (Int32.toInt64 v)]) (g_c dX8_set_39 (g_c dX8_set_40 (g_c dX8_set_41 (g_c dX8_set_42 g_n)))) rfl rfl ?_
  refine V_icmp_ne C (tgt := 50) dX8_set_43 (by decide) (fun z => absurd z (by decide)) (fun _ => ?_)
  refine V_blk C (pc' := 47) (σ' := σ) (L' := [some (.ref 63), some (.int 2), some (.int o), some (.int v), none]) (st' := [.long 1, .long (Int32.toInt64 v)]) (g_c dX8_set_46 g_n) rfl rfl ?_
  refine V_goto C (tgt := 51) dX8_set_47 (by decide) ?_
  refine V_blk C (pc' := 53) (σ' := σ) (L' := [some (.ref 63), some (.int 2), some (.int o), some (.int v), none]) (st' := [.int 1, .int 2, .long 1, .long (Int32.toInt64 v)]) (g_c dX8_set_51 (g_c dX8_set_52 g_n)) rfl rfl ?_
  refine V_icmp_ne C (tgt := 62) dX8_set_53 (by decide) (fun _ => ?_) (fun z => absurd z (by decide))
  refine V_blk C (pc' := 64) (σ' := σ) (L' := [some (.ref 63), some (.int 2), some (.int o), some (.int v), none]) (st' := [.int 2, .int 2, .long 1, .long (Int32.toInt64 v)]) (g_c dX8_set_62 (g_c dX8_set_63 g_n)) rfl rfl ?_
  refine V_icmp_ne C (tgt := 73) dX8_set_64 (by decide) (fun z => absurd z (by decide)) (fun _ => ?_)
  refine V_blk C (pc' := 70) (σ' := σ) (L' := [some (.ref 63), some (.int 2), some (.int o), some (.int v), none]) (st' := [.long 5, .long 1, .long (Int32.toInt64 v)]) (g_c dX8_set_67 g_n) rfl rfl ?_
  refine V_goto C (tgt := 97) dX8_set_70 (by decide) ?_
  refine V_callSI C cs_X8_110 (c_X8_in32 σ v 1 5 (by decide) (by decide)) (by decide) (by decide) (fun _ h => h) (As := [.long (Int32.toInt64 v), .long 1, .long 5]) (rest := []) rfl rfl (Nat.le_of_ble_eq_true rfl) dX8_set_97 ?_
  refine V_if_ne_b C (tgt := 106) dX8_set_100 (by decide) (fun h100 => ?_) (fun h100 => ?_)
  · skip
    refine V_blk C (pc' := 107) (σ' := σ) (L' := [some (.ref 63), some (.int 2), some (.int o), some (.int v), none]) (st' := [.int 2]) (g_c dX8_set_106 g_n) rfl rfl ?_
    refine V_if_ne C (tgt := 119) dX8_set_107 (by decide) (fun _ => ?_) (fun z => absurd z (by decide))
    refine V_blk C (pc' := 121) (σ' := σ) (L' := [some (.ref 63), some (.int 2), some (.int o), some (.int v), none]) (st' := [.int 1, .int 2]) (g_c dX8_set_119 (g_c dX8_set_120 g_n)) rfl rfl ?_
    refine V_icmp_ne C (tgt := 131) dX8_set_121 (by decide) (fun _ => ?_) (fun z => absurd z (by decide))
    refine V_blk C (pc' := 133) (σ' := σ) (L' := [some (.ref 63), some (.int 2), some (.int o), some (.int v), none]) (st' := [.int 2, .int 2]) (g_c dX8_set_131 (g_c dX8_set_132 g_n)) rfl rfl ?_
    refine V_icmp_ne C (tgt := 143) dX8_set_133 (by decide) (fun z => absurd z (by decide)) (fun _ => ?_)
    refine V_blk C (pc' := 140) (σ' := σ) (L' := [some (.ref 63), some (.int 2), some (.int o), some (.int v), none]) (st' := [.int (σ 63 9)]) (g_c dX8_set_136 (g_c dX8_set_137 g_n)) rfl rfl ?_
    refine V_goto C (tgt := 189) dX8_set_140 (by decide) ?_
    refine V_blk C (pc' := 192) (σ' := σ) (L' := [some (.ref 63), some (.int 2), some (.int o), some (.int v), some (.int (σ 63 9))]) (st' := [.int 2]) (g_c dX8_set_189 (g_c dX8_set_191 g_n)) rfl rfl ?_
    refine V_if_ne C (tgt := 205) dX8_set_192 (by decide) (fun _ => ?_) (fun z => absurd z (by decide))
    refine V_blk C (pc' := 207) (σ' := σ) (L' := [some (.ref 63), some (.int 2), some (.int o), some (.int v), some (.int (σ 63 9))]) (st' := [.int 1, .int 2]) (g_c dX8_set_205 (g_c dX8_set_206 g_n)) rfl rfl ?_
    refine V_icmp_ne C (tgt := 218) dX8_set_207 (by decide) (fun _ => ?_) (fun z => absurd z (by decide))
    refine V_blk C (pc' := 220) (σ' := σ) (L' := [some (.ref 63), some (.int 2), some (.int o), some (.int v), some (.int (σ 63 9))]) (st' := [.int 2, .int 2]) (g_c dX8_set_218 (g_c dX8_set_219 g_n)) rfl rfl ?_
    refine V_icmp_ne C (tgt := 231) dX8_set_220 (by decide) (fun z => absurd z (by decide)) (fun _ => ?_)
    refine V_blk C (pc' := 228) (σ' := (g_up σ 63 9 v)) (L' := [some (.ref 63), some (.int 2), some (.int o), some (.int v), some (.int (σ 63 9))]) (st' := []) (g_c dX8_set_223 (g_c dX8_set_224 (g_c dX8_set_225 g_n))) rfl rfl ?_
    refine V_goto C (tgt := 281) dX8_set_228 (by decide) ?_
    refine V_blk C (pc' := 283) (σ' := (g_up σ 63 9 v)) (L' := [some (.ref 63), some (.int 2), some (.int o), some (.int v), some (.int (σ 63 9))]) (st' := [.int (σ 63 9)]) (g_c dX8_set_281 g_n) rfl rfl ?_
    refine V_iret C dX8_set_283 ?_
    exact ⟨by rw [if_pos h100], by rw [if_pos h100]⟩
  · skip
    refine V_blk C (pc' := 105) (σ' := σ) (L' := [some (.ref 63), some (.int 2), some (.int o), some (.int v), none]) (st' := [.int (-2)]) (g_c dX8_set_103 g_n) rfl rfl ?_
    refine V_iret C dX8_set_105 ?_
    exact ⟨by rw [if_neg (fun z => h100 z)], by rw [if_neg (fun z => h100 z)]⟩
set_option maxHeartbeats 4000000 in
set_option maxRecDepth 100000 in
theorem c_X7_set3 (σ : gS) (o v : Int32) : g_Met yX7_set cX7_set 4 (some .int) 3 kX [.ref 0, .int 3, .int o, .int v] σ (fun rv s => rv = some (.int (if g_in v 0 1 then (σ 1 12) else (-2))) ∧ s = (if g_in v 0 1 then (g_up σ 1 12 v) else σ)) := by
  refine g_Met.of (own := 7) (L := [some (.ref 0), some (.int 3), some (.int o), some (.int v)]) (by decide) rfl rfl (fun ad => Nat.le_of_ble_eq_true rfl) (fun ad => rfl) (fun X G K C => ?_)
  refine V_blk C (pc' := 1) (σ' := σ) (L' := [some (.ref 0), some (.int 3), some (.int o), some (.int v)]) (st' := [.int 3]) (g_c dX7_set_0 g_n) rfl rfl ?_
  refine V_tsw C 3 78 (tgt := 79) dX7_set_1 (by decide) (by decide) (by decide) (by decide) (fun _ => ?_) (fun z => absurd rfl z)
  refine V_blk C (pc' := 82) (σ' := σ) (L' := [some (.ref 0), some (.int 3), some (.int o), some (.int v)]) (st' := [.int v, .int 3, .ref 0]) (g_c dX7_set_79 (g_c dX7_set_80 (g_c dX7_set_81 g_n))) rfl rfl ?_
  refine V_callVI C cv_X7_97 (c_X7_changed3 σ v) ⟨_, _, _, _, rfl, rfl⟩ (by rfl) (by decide) (by decide) (fun _ h => h) (As := [.int 3, .int v]) (rest := []) rfl rfl (Nat.le_of_ble_eq_true rfl) dX7_set_82 ?_
  refine V_iret C dX7_set_85 ?_
  exact ⟨rfl, rfl⟩
-- M3
set_option maxHeartbeats 4000000 in
set_option maxRecDepth 100000 in
theorem c_X8_set3 (σ : gS) (o v : Int32) : g_Met yX8_set cX8_set 5 (some .int) 3 kM [.ref 63, .int 3, .int o, .int v] σ (fun rv s => rv = some (.int (if g_in v 0 1 then (σ 63 10) else (-2))) ∧ s = (if g_in v 0 1 then (g_up σ 63 10 v) else σ)) := by
  refine g_Met.of (own := 8) (L := [some (.ref 63), some (.int 3), some (.int o), some (.int v), none]) (by decide) rfl rfl (fun ad => Nat.le_of_ble_eq_true rfl) (fun ad => rfl) (fun X G K C => ?_)
  refine V_blk C (pc' := 6) (σ' := σ) (L' := [some (.ref 63), some (.int 3), some (.int o), some (.int v), none]) (st' := [.long 6, .long 0, .long (Int32.toInt64 3)]) (g_c dX8_set_0 (g_c dX8_set_1 (g_c dX8_set_2 (g_c dX8_set_3 g_n)))) rfl rfl ?_
  refine V_callSI C cs_X8_110 (c_X8_in32 σ 3 0 6 (by decide) (by decide)) (by decide) (by decide) (fun _ h => h) (As := [.long (Int32.toInt64 3), .long 0, .long 6]) (rest := []) rfl rfl (Nat.le_of_ble_eq_true rfl) dX8_set_6 ?_
  refine V_if_eq_b C (tgt := 36) dX8_set_9 (by decide) (fun z => absurd (by decide) z) (fun _ => ?_)
  refine V_blk C (pc' := 13) (σ' := σ) (L' := [some (.ref 63), some (.int 3), some (.int o), some (.int v), none]) (st' := [.int 3]) (g_c dX8_set_12 g_n) rfl rfl ?_
  refine V_if_ne C (tgt := 23) dX8_set_13 (by decide) (fun _ => ?_) (fun z => absurd z (by decide))
  refine V_blk C (pc' := 25) (σ' := σ) (L' := [some (.ref 63), some (.int 3), some (.int o), some (.int v), none]) (st' := [.int 3, .int 3]) (g_c dX8_set_23 (g_c dX8_set_24 g_n)) rfl rfl ?_
  refine V_icmp_le2 C (tgt := 39) dX8_set_25 (by decide) (fun _ => ?_) (fun z => absurd z (by decide))
  refine V_blk C (pc' := 43) (σ' := σ) (L' := [some (.ref 63), some (.int 3), some (.int o), some (.int v), none]) (st' := [.int 2, .int 3, .long (Int32.toInt64 v)]) (g_c dX8_set_39 (g_c dX8_set_40 (g_c dX8_set_41 (g_c dX8_set_42 g_n)))) rfl rfl ?_
  refine V_icmp_ne C (tgt := 50) dX8_set_43 (by decide) (fun _ => ?_) (fun z => absurd z (by decide))
  refine V_blk C (pc' := 53) (σ' := σ) (L' := [some (.ref 63), some (.int 3), some (.int o), some (.int v), none]) (st' := [.int 1, .int 3, .long 0, .long (Int32.toInt64 v)]) (g_c dX8_set_50 (g_c dX8_set_51 (g_c dX8_set_52 g_n))) rfl rfl ?_
  refine V_icmp_ne C (tgt := 62) dX8_set_53 (by decide) (fun _ => ?_) (fun z => absurd z (by decide))
  refine V_blk C (pc' := 64) (σ' := σ) (L' := [some (.ref 63), some (.int 3), some (.int o), some (.int v), none]) (st' := [.int 2, .int 3, .long 0, .long (Int32.toInt64 v)]) (g_c dX8_set_62 (g_c dX8_set_63 g_n)) rfl rfl ?_
  refine V_icmp_ne C (tgt := 73) dX8_set_64 (by decide) (fun _ => ?_) (fun z => absurd z (by decide))
  refine V_blk C (pc' := 75) (σ' := σ) (L' := [some (.ref 63), some (.int 3), some (.int o), some (.int v), none]) (st' := [.int 3, .int 3, .long 0, .long (Int32.toInt64 v)]) (g_c dX8_set_73 (g_c dX8_set_74 g_n)) rfl rfl ?_
  refine V_icmp_ne C (tgt := 82) dX8_set_75 (by decide) (fun z => absurd z (by decide)) (fun _ => ?_)
  refine V_blk C (pc' := 79) (σ' := σ) (L' := [some (.ref 63), some (.int 3), some (.int o), some (.int v), none]) (st' := [.long 1, .long 0, .long (Int32.toInt64 v)]) (g_c dX8_set_78 g_n) rfl rfl ?_
  refine V_goto C (tgt := 97) dX8_set_79 (by decide) ?_
  refine V_callSI C cs_X8_110 (c_X8_in32 σ v 0 1 (by decide) (by decide)) (by decide) (by decide) (fun _ h => h) (As := [.long (Int32.toInt64 v), .long 0, .long 1]) (rest := []) rfl rfl (Nat.le_of_ble_eq_true rfl) dX8_set_97 ?_
  refine V_if_ne_b C (tgt := 106) dX8_set_100 (by decide) (fun h100 => ?_) (fun h100 => ?_)
  · skip
    refine V_blk C (pc' := 107) (σ' := σ) (L' := [some (.ref 63), some (.int 3), some (.int o), some (.int v), none]) (st' := [.int 3]) (g_c dX8_set_106 g_n) rfl rfl ?_
    refine V_if_ne C (tgt := 119) dX8_set_107 (by decide) (fun _ => ?_) (fun z => absurd z (by decide))
    refine V_blk C (pc' := 121) (σ' := σ) (L' := [some (.ref 63), some (.int 3), some (.int o), some (.int v), none]) (st' := [.int 1, .int 3]) (g_c dX8_set_119 (g_c dX8_set_120 g_n)) rfl rfl ?_
    refine V_icmp_ne C (tgt := 131) dX8_set_121 (by decide) (fun _ => ?_) (fun z => absurd z (by decide))
    refine V_blk C (pc' := 133) (σ' := σ) (L' := [some (.ref 63), some (.int 3), some (.int o), some (.int v), none]) (st' := [.int 2, .int 3]) (g_c dX8_set_131 (g_c dX8_set_132 g_n)) rfl rfl ?_
    refine V_icmp_ne C (tgt := 143) dX8_set_133 (by decide) (fun _ => ?_) (fun z => absurd z (by decide))
    refine V_blk C (pc' := 145) (σ' := σ) (L' := [some (.ref 63), some (.int 3), some (.int o), some (.int v), none]) (st' := [.int 3, .int 3]) (g_c dX8_set_143 (g_c dX8_set_144 g_n)) rfl rfl ?_
    refine V_icmp_ne C (tgt := 155) dX8_set_145 (by decide) (fun z => absurd z (by decide)) (fun _ => ?_)
    refine V_blk C (pc' := 152) (σ' := σ) (L' := [some (.ref 63), some (.int 3), some (.int o), some (.int v), none]) (st' := [.int (σ 63 10)]) (g_c dX8_set_148 (g_c dX8_set_149 g_n)) rfl rfl ?_
    refine V_goto C (tgt := 189) dX8_set_152 (by decide) ?_
    refine V_blk C (pc' := 192) (σ' := σ) (L' := [some (.ref 63), some (.int 3), some (.int o), some (.int v), some (.int (σ 63 10))]) (st' := [.int 3]) (g_c dX8_set_189 (g_c dX8_set_191 g_n)) rfl rfl ?_
    refine V_if_ne C (tgt := 205) dX8_set_192 (by decide) (fun _ => ?_) (fun z => absurd z (by decide))
    refine V_blk C (pc' := 207) (σ' := σ) (L' := [some (.ref 63), some (.int 3), some (.int o), some (.int v), some (.int (σ 63 10))]) (st' := [.int 1, .int 3]) (g_c dX8_set_205 (g_c dX8_set_206 g_n)) rfl rfl ?_
    refine V_icmp_ne C (tgt := 218) dX8_set_207 (by decide) (fun _ => ?_) (fun z => absurd z (by decide))
    refine V_blk C (pc' := 220) (σ' := σ) (L' := [some (.ref 63), some (.int 3), some (.int o), some (.int v), some (.int (σ 63 10))]) (st' := [.int 2, .int 3]) (g_c dX8_set_218 (g_c dX8_set_219 g_n)) rfl rfl ?_
    refine V_icmp_ne C (tgt := 231) dX8_set_220 (by decide) (fun _ => ?_) (fun z => absurd z (by decide))
    refine V_blk C (pc' := 233) (σ' := σ) (L' := [some (.ref 63), some (.int 3), some (.int o), some (.int v), some (.int (σ 63 10))]) (st' := [.int 3, .int 3]) (g_c dX8_set_231 (g_c dX8_set_232 g_n)) rfl rfl ?_
    refine V_icmp_ne C (tgt := 244) dX8_set_233 (by decide) (fun z => absurd z (by decide)) (fun _ => ?_)
    refine V_blk C (pc' := 241) (σ' := (g_up σ 63 10 v)) (L' := [some (.ref 63), some (.int 3), some (.int o), some (.int v), some (.int (σ 63 10))]) (st' := []) (g_c dX8_set_236 (g_c dX8_set_237 (g_c dX8_set_238 g_n))) rfl rfl ?_
    refine V_goto C (tgt := 281) dX8_set_241 (by decide) ?_
    refine V_blk C (pc' := 283) (σ' := (g_up σ 63 10 v)) (L' := [some (.ref 63), some (.int 3), some (.int o), some (.int v), some (.int (σ 63 10))]) (st' := [.int (σ 63 10)]) (g_c dX8_set_281 g_n) rfl rfl ?_
    refine V_iret C dX8_set_283 ?_
    exact ⟨by rw [if_pos h100], by rw [if_pos h100]⟩
  · skip
    refine V_blk C (pc' := 105) (σ' := σ) (L' := [some (.ref 63), some (.int 3), some (.int o), some (.int v), none]) (st' := [.int (-2)]) (g_c dX8_set_103 g_n) rfl rfl ?_
    refine V_iret C dX8_set_105 ?_
    exact ⟨by rw [if_neg (fun z => h100 z)], by rw [if_neg (fun z => h100 z)]⟩
set_option maxHeartbeats 4000000 in
set_option maxRecDepth 100000 in
theorem c_X7_set4 (σ : gS) (o v : Int32) {nd : Nat} (hd : σ 1 8 = nI nd) (hd6 : nd ≤ 6) : g_Met yX7_set cX7_set 4 (some .int) 3 kX [.ref 0, .int 4, .int o, .int v] σ (fun rv s => rv = some (.int (if g_in o 0 ((σ 1 8) - 1) ∧ g_in v 0 9 then (σ 4 (ix o)) else (-2))) ∧ s = (if g_in o 0 ((σ 1 8) - 1) ∧ g_in v 0 9 then (g_up σ 4 (ix o) v) else σ)) := by
  refine g_Met.of (own := 7) (L := [some (.ref 0), some (.int 4), some (.int o), some (.int v)]) (by decide) rfl rfl (fun ad => Nat.le_of_ble_eq_true rfl) (fun ad => rfl) (fun X G K C => ?_)
  refine V_blk C (pc' := 1) (σ' := σ) (L' := [some (.ref 0), some (.int 4), some (.int o), some (.int v)]) (st' := [.int 4]) (g_c dX7_set_0 g_n) rfl rfl ?_
  refine V_tsw C 4 85 (tgt := 86) dX7_set_1 (by decide) (by decide) (by decide) (by decide) (fun _ => ?_) (fun z => absurd rfl z)
  refine V_blk C (pc' := 88) (σ' := σ) (L' := [some (.ref 0), some (.int 4), some (.int o), some (.int v)]) (st' := [.int o, .ref 0]) (g_c dX7_set_86 (g_c dX7_set_87 g_n)) rfl rfl ?_
  refine V_callVI C cv_X7_101 (c_X7_isDrip σ o) ⟨_, _, _, _, rfl, rfl⟩ (by rfl) (by decide) (by decide) (fun _ h => h) (As := [.int o]) (rest := []) rfl rfl (Nat.le_of_ble_eq_true rfl) dX7_set_88 ?_
  refine V_if_eq_b C (tgt := 119) dX7_set_91 (by decide) (fun h91 => ?_) (fun h91 => ?_)
  · skip
    refine V_blk C (pc' := 121) (σ' := σ) (L' := [some (.ref 0), some (.int 4), some (.int o), some (.int v)]) (st' := [.int (-2)]) (g_c dX7_set_119 g_n) rfl rfl ?_
    refine V_iret C dX7_set_121 ?_
    exact ⟨by rw [if_neg (fun z => h91 z.1)], by rw [if_neg (fun z => h91 z.1)]⟩
  · skip
    refine V_blk C (pc' := 98) (σ' := σ) (L' := [some (.ref 0), some (.int 4), some (.int o), some (.int v)]) (st' := [.int 9, .int 0, .int v]) (g_c dX7_set_94 (g_c dX7_set_95 (g_c dX7_set_96 g_n))) rfl rfl ?_
    refine V_callSI C cs_X7_85 (c_X7_isIn σ v 0 9) (by decide) (by decide) (fun _ h => h) (As := [.int v, .int 0, .int 9]) (rest := []) rfl rfl (Nat.le_of_ble_eq_true rfl) dX7_set_98 ?_
    refine V_if_eq_b C (tgt := 119) dX7_set_101 (by decide) (fun h101 => ?_) (fun h101 => ?_)
    · skip
      refine V_blk C (pc' := 121) (σ' := σ) (L' := [some (.ref 0), some (.int 4), some (.int o), some (.int v)]) (st' := [.int (-2)]) (g_c dX7_set_119 g_n) rfl rfl ?_
      refine V_iret C dX7_set_121 ?_
      exact ⟨by rw [if_neg (fun z => h101 z.2)], by rw [if_neg (fun z => h101 z.2)]⟩
    · skip
      refine V_blk C (pc' := 113) (σ' := σ) (L' := [some (.ref 0), some (.int 4), some (.int o), some (.int v)]) (st' := [.int v, .int o, .ref 4]) (g_c dX7_set_104 (g_c dX7_set_105 (g_c dX7_set_108 (g_c dX7_set_111 (g_c dX7_set_112 g_n))))) rfl rfl ?_
      refine V_callSI C cs_X7_93 (c_X7_swapped_4 σ o v (g_vp h91 hd hd6 (by decide))) (by decide) (by decide) (fun _ h => h) (As := [.ref 4, .int o, .int v]) (rest := []) rfl rfl (Nat.le_of_ble_eq_true rfl) dX7_set_113 ?_
      refine V_goto C (tgt := 121) dX7_set_116 (by decide) ?_
      refine V_iret C dX7_set_121 ?_
      exact ⟨by rw [if_pos ⟨h91, h101⟩], by rw [if_pos ⟨h91, h101⟩]⟩
-- M4
set_option maxHeartbeats 4000000 in
set_option maxRecDepth 100000 in
theorem c_X8_set4 (σ : gS) (o v : Int32) {nd : Nat} (hd : σ 63 15 = nI nd) (hd6 : nd ≤ 6) : g_Met yX8_set cX8_set 5 (some .int) 3 kM [.ref 63, .int 4, .int o, .int v] σ (fun rv s => rv = some (.int (if g_in o 0 ((σ 63 15) - 1) ∧ g_in v 0 9 then (σ 69 (ix o)) else (-2))) ∧ s = (if g_in o 0 ((σ 63 15) - 1) ∧ g_in v 0 9 then (g_up σ 69 (ix o) v) else σ)) := by
  refine g_Met.of (own := 8) (L := [some (.ref 63), some (.int 4), some (.int o), some (.int v), none]) (by decide) rfl rfl (fun ad => Nat.le_of_ble_eq_true rfl) (fun ad => rfl) (fun X G K C => ?_)
  refine V_blk C (pc' := 6) (σ' := σ) (L' := [some (.ref 63), some (.int 4), some (.int o), some (.int v), none]) (st' := [.long 6, .long 0, .long (Int32.toInt64 4)]) (g_c dX8_set_0 (g_c dX8_set_1 (g_c dX8_set_2 (g_c dX8_set_3 g_n)))) rfl rfl ?_
  refine V_callSI C cs_X8_110 (c_X8_in32 σ 4 0 6 (by decide) (by decide)) (by decide) (by decide) (fun _ h => h) (As := [.long (Int32.toInt64 4), .long 0, .long 6]) (rest := []) rfl rfl (Nat.le_of_ble_eq_true rfl) dX8_set_6 ?_
  refine V_if_eq_b C (tgt := 36) dX8_set_9 (by decide) (fun z => absurd (by decide) z) (fun _ => ?_)
  refine V_blk C (pc' := 13) (σ' := σ) (L' := [some (.ref 63), some (.int 4), some (.int o), some (.int v), none]) (st' := [.int 4]) (g_c dX8_set_12 g_n) rfl rfl ?_
  refine V_if_ne C (tgt := 23) dX8_set_13 (by decide) (fun _ => ?_) (fun z => absurd z (by decide))
  refine V_blk C (pc' := 25) (σ' := σ) (L' := [some (.ref 63), some (.int 4), some (.int o), some (.int v), none]) (st' := [.int 3, .int 4]) (g_c dX8_set_23 (g_c dX8_set_24 g_n)) rfl rfl ?_
  refine V_icmp_le2 C (tgt := 39) dX8_set_25 (by decide) (fun z => absurd z (by decide)) (fun _ => ?_)
  refine V_blk C (pc' := 30) (σ' := σ) (L' := [some (.ref 63), some (.int 4), some (.int o), some (.int v), none]) (st' := [.int o, .ref 63]) (g_c dX8_set_28 (g_c dX8_set_29 g_n)) rfl rfl ?_
  refine V_callVI C cv_X8_127 (c_X8_isDrip σ o) ⟨_, _, _, _, rfl, rfl⟩ (by rfl) (by decide) (by decide) (fun _ h => h) (As := [.int o]) (rest := []) rfl rfl (Nat.le_of_ble_eq_true rfl) dX8_set_30 ?_
  refine V_if_ne_b C (tgt := 39) dX8_set_33 (by decide) (fun h33 => ?_) (fun h33 => ?_)
  · skip
    refine V_blk C (pc' := 43) (σ' := σ) (L' := [some (.ref 63), some (.int 4), some (.int o), some (.int v), none]) (st' := [.int 2, .int 4, .long (Int32.toInt64 v)]) (g_c dX8_set_39 (g_c dX8_set_40 (g_c dX8_set_41 (g_c dX8_set_42 g_n)))) rfl rfl ?_
    refine V_icmp_ne C (tgt := 50) dX8_set_43 (by decide) (fun _ => ?_) (fun z => absurd z (by decide))
    refine V_blk C (pc' := 53) (σ' := σ) (L' := [some (.ref 63), some (.int 4), some (.int o), some (.int v), none]) (st' := [.int 1, .int 4, .long 0, .long (Int32.toInt64 v)]) (g_c dX8_set_50 (g_c dX8_set_51 (g_c dX8_set_52 g_n))) rfl rfl ?_
    refine V_icmp_ne C (tgt := 62) dX8_set_53 (by decide) (fun _ => ?_) (fun z => absurd z (by decide))
    refine V_blk C (pc' := 64) (σ' := σ) (L' := [some (.ref 63), some (.int 4), some (.int o), some (.int v), none]) (st' := [.int 2, .int 4, .long 0, .long (Int32.toInt64 v)]) (g_c dX8_set_62 (g_c dX8_set_63 g_n)) rfl rfl ?_
    refine V_icmp_ne C (tgt := 73) dX8_set_64 (by decide) (fun _ => ?_) (fun z => absurd z (by decide))
    refine V_blk C (pc' := 75) (σ' := σ) (L' := [some (.ref 63), some (.int 4), some (.int o), some (.int v), none]) (st' := [.int 3, .int 4, .long 0, .long (Int32.toInt64 v)]) (g_c dX8_set_73 (g_c dX8_set_74 g_n)) rfl rfl ?_
    refine V_icmp_ne C (tgt := 82) dX8_set_75 (by decide) (fun _ => ?_) (fun z => absurd z (by decide))
    refine V_blk C (pc' := 85) (σ' := σ) (L' := [some (.ref 63), some (.int 4), some (.int o), some (.int v), none]) (st' := [.int 6, .int 4, .long 0, .long (Int32.toInt64 v)]) (g_c dX8_set_82 (g_c dX8_set_83 g_n)) rfl rfl ?_
    refine V_icmp_ne C (tgt := 94) dX8_set_85 (by decide) (fun _ => ?_) (fun z => absurd z (by decide))
    refine V_blk C (pc' := 97) (σ' := σ) (L' := [some (.ref 63), some (.int 4), some (.int o), some (.int v), none]) (st' := [.long 9, .long 0, .long (Int32.toInt64 v)]) (g_c dX8_set_94 g_n) rfl rfl ?_
    refine V_callSI C cs_X8_110 (c_X8_in32 σ v 0 9 (by decide) (by decide)) (by decide) (by decide) (fun _ h => h) (As := [.long (Int32.toInt64 v), .long 0, .long 9]) (rest := []) rfl rfl (Nat.le_of_ble_eq_true rfl) dX8_set_97 ?_
    refine V_if_ne_b C (tgt := 106) dX8_set_100 (by decide) (fun h100 => ?_) (fun h100 => ?_)
    · skip
      refine V_blk C (pc' := 107) (σ' := σ) (L' := [some (.ref 63), some (.int 4), some (.int o), some (.int v), none]) (st' := [.int 4]) (g_c dX8_set_106 g_n) rfl rfl ?_
      refine V_if_ne C (tgt := 119) dX8_set_107 (by decide) (fun _ => ?_) (fun z => absurd z (by decide))
      refine V_blk C (pc' := 121) (σ' := σ) (L' := [some (.ref 63), some (.int 4), some (.int o), some (.int v), none]) (st' := [.int 1, .int 4]) (g_c dX8_set_119 (g_c dX8_set_120 g_n)) rfl rfl ?_
      refine V_icmp_ne C (tgt := 131) dX8_set_121 (by decide) (fun _ => ?_) (fun z => absurd z (by decide))
      refine V_blk C (pc' := 133) (σ' := σ) (L' := [some (.ref 63), some (.int 4), some (.int o), some (.int v), none]) (st' := [.int 2, .int 4]) (g_c dX8_set_131 (g_c dX8_set_132 g_n)) rfl rfl ?_
      refine V_icmp_ne C (tgt := 143) dX8_set_133 (by decide) (fun _ => ?_) (fun z => absurd z (by decide))
      refine V_blk C (pc' := 145) (σ' := σ) (L' := [some (.ref 63), some (.int 4), some (.int o), some (.int v), none]) (st' := [.int 3, .int 4]) (g_c dX8_set_143 (g_c dX8_set_144 g_n)) rfl rfl ?_
      refine V_icmp_ne C (tgt := 155) dX8_set_145 (by decide) (fun _ => ?_) (fun z => absurd z (by decide))
      refine V_blk C (pc' := 157) (σ' := σ) (L' := [some (.ref 63), some (.int 4), some (.int o), some (.int v), none]) (st' := [.int 4, .int 4]) (g_c dX8_set_155 (g_c dX8_set_156 g_n)) rfl rfl ?_
      refine V_icmp_ne C (tgt := 169) dX8_set_157 (by decide) (fun z => absurd z (by decide)) (fun _ => ?_)
      refine V_blk C (pc' := 165) (σ' := σ) (L' := [some (.ref 63), some (.int 4), some (.int o), some (.int v), none]) (st' := [.int o, .ref 69]) (g_c dX8_set_160 (g_c dX8_set_161 (g_c dX8_set_164 g_n))) rfl rfl ?_
      refine V_iald C (k := 69) (n := 6) (by rfl) (by rfl) (g_vp h33 hd hd6 (by decide)) dX8_set_165 ?_
      refine V_goto C (tgt := 189) dX8_set_166 (by decide) ?_
      refine V_blk C (pc' := 192) (σ' := σ) (L' := [some (.ref 63), some (.int 4), some (.int o), some (.int v), some (.int (σ 69 (Int32.toNatClampNeg o)))]) (st' := [.int 4]) (g_c dX8_set_189 (g_c dX8_set_191 g_n)) rfl rfl ?_
      refine V_if_ne C (tgt := 205) dX8_set_192 (by decide) (fun _ => ?_) (fun z => absurd z (by decide))
      refine V_blk C (pc' := 207) (σ' := σ) (L' := [some (.ref 63), some (.int 4), some (.int o), some (.int v), some (.int (σ 69 (Int32.toNatClampNeg o)))]) (st' := [.int 1, .int 4]) (g_c dX8_set_205 (g_c dX8_set_206 g_n)) rfl rfl ?_
      refine V_icmp_ne C (tgt := 218) dX8_set_207 (by decide) (fun _ => ?_) (fun z => absurd z (by decide))
      refine V_blk C (pc' := 220) (σ' := σ) (L' := [some (.ref 63), some (.int 4), some (.int o), some (.int v), some (.int (σ 69 (Int32.toNatClampNeg o)))]) (st' := [.int 2, .int 4]) (g_c dX8_set_218 (g_c dX8_set_219 g_n)) rfl rfl ?_
      refine V_icmp_ne C (tgt := 231) dX8_set_220 (by decide) (fun _ => ?_) (fun z => absurd z (by decide))
      refine V_blk C (pc' := 233) (σ' := σ) (L' := [some (.ref 63), some (.int 4), some (.int o), some (.int v), some (.int (σ 69 (Int32.toNatClampNeg o)))]) (st' := [.int 3, .int 4]) (g_c dX8_set_231 (g_c dX8_set_232 g_n)) rfl rfl ?_
      refine V_icmp_ne C (tgt := 244) dX8_set_233 (by decide) (fun _ => ?_) (fun z => absurd z (by decide))
      refine V_blk C (pc' := 246) (σ' := σ) (L' := [some (.ref 63), some (.int 4), some (.int o), some (.int v), some (.int (σ 69 (Int32.toNatClampNeg o)))]) (st' := [.int 4, .int 4]) (g_c dX8_set_244 (g_c dX8_set_245 g_n)) rfl rfl ?_
      refine V_icmp_ne C (tgt := 259) dX8_set_246 (by decide) (fun z => absurd z (by decide)) (fun _ => ?_)
      refine V_blk C (pc' := 255) (σ' := σ) (L' := [some (.ref 63), some (.int 4), some (.int o), some (.int v), some (.int (σ 69 (Int32.toNatClampNeg o)))]) (st' := [.int v, .int o, .ref 69]) (g_c dX8_set_249 (g_c dX8_set_250 (g_c dX8_set_253 (g_c dX8_set_254 g_n)))) rfl rfl ?_
      refine V_iast C (k := 69) (n := 6) (by rfl) (by rfl) (g_vp h33 hd hd6 (by decide)) dX8_set_255 ?_
      refine V_goto C (tgt := 281) dX8_set_256 (by decide) ?_
      refine V_blk C (pc' := 283) (σ' := (g_up σ 69 (Int32.toNatClampNeg o) v)) (L' := [some (.ref 63), some (.int 4), some (.int o), some (.int v), some (.int (σ 69 (Int32.toNatClampNeg o)))]) (st' := [.int (σ 69 (Int32.toNatClampNeg o))]) (g_c dX8_set_281 g_n) rfl rfl ?_
      refine V_iret C dX8_set_283 ?_
      exact ⟨by rw [if_pos ⟨h33, h100⟩], by rw [if_pos ⟨h33, h100⟩]⟩
    · skip
      refine V_blk C (pc' := 105) (σ' := σ) (L' := [some (.ref 63), some (.int 4), some (.int o), some (.int v), none]) (st' := [.int (-2)]) (g_c dX8_set_103 g_n) rfl rfl ?_
      refine V_iret C dX8_set_105 ?_
      exact ⟨by rw [if_neg (fun z => h100 z.2)], by rw [if_neg (fun z => h100 z.2)]⟩
  · skip
    refine V_blk C (pc' := 38) (σ' := σ) (L' := [some (.ref 63), some (.int 4), some (.int o), some (.int v), none]) (st' := [.int (-2)]) (g_c dX8_set_36 g_n) rfl rfl ?_
    refine V_iret C dX8_set_38 ?_
    exact ⟨by rw [if_neg (fun z => h33 z.1)], by rw [if_neg (fun z => h33 z.1)]⟩
set_option maxHeartbeats 4000000 in
set_option maxRecDepth 100000 in
theorem c_X7_set5 (σ : gS) (o v : Int32) {nd : Nat} (hd : σ 1 8 = nI nd) (hd6 : nd ≤ 6) : g_Met yX7_set cX7_set 4 (some .int) 3 kX [.ref 0, .int 5, .int o, .int v] σ (fun rv s => rv = some (.int (if g_in o 0 ((σ 1 8) - 1) ∧ g_in v 0 9 then (σ 5 (ix o)) else (-2))) ∧ s = (if g_in o 0 ((σ 1 8) - 1) ∧ g_in v 0 9 then (g_up σ 5 (ix o) v) else σ)) := by
  refine g_Met.of (own := 7) (L := [some (.ref 0), some (.int 5), some (.int o), some (.int v)]) (by decide) rfl rfl (fun ad => Nat.le_of_ble_eq_true rfl) (fun ad => rfl) (fun X G K C => ?_)
  refine V_blk C (pc' := 1) (σ' := σ) (L' := [some (.ref 0), some (.int 5), some (.int o), some (.int v)]) (st' := [.int 5]) (g_c dX7_set_0 g_n) rfl rfl ?_
  refine V_tsw C 5 121 (tgt := 122) dX7_set_1 (by decide) (by decide) (by decide) (by decide) (fun _ => ?_) (fun z => absurd rfl z)
  refine V_blk C (pc' := 124) (σ' := σ) (L' := [some (.ref 0), some (.int 5), some (.int o), some (.int v)]) (st' := [.int o, .ref 0]) (g_c dX7_set_122 (g_c dX7_set_123 g_n)) rfl rfl ?_
  refine V_callVI C cv_X7_101 (c_X7_isDrip σ o) ⟨_, _, _, _, rfl, rfl⟩ (by rfl) (by decide) (by decide) (fun _ h => h) (As := [.int o]) (rest := []) rfl rfl (Nat.le_of_ble_eq_true rfl) dX7_set_124 ?_
  refine V_if_eq_b C (tgt := 155) dX7_set_127 (by decide) (fun h127 => ?_) (fun h127 => ?_)
  · skip
    refine V_blk C (pc' := 157) (σ' := σ) (L' := [some (.ref 0), some (.int 5), some (.int o), some (.int v)]) (st' := [.int (-2)]) (g_c dX7_set_155 g_n) rfl rfl ?_
    refine V_iret C dX7_set_157 ?_
    exact ⟨by rw [if_neg (fun z => h127 z.1)], by rw [if_neg (fun z => h127 z.1)]⟩
  · skip
    refine V_blk C (pc' := 134) (σ' := σ) (L' := [some (.ref 0), some (.int 5), some (.int o), some (.int v)]) (st' := [.int 9, .int 0, .int v]) (g_c dX7_set_130 (g_c dX7_set_131 (g_c dX7_set_132 g_n))) rfl rfl ?_
    refine V_callSI C cs_X7_85 (c_X7_isIn σ v 0 9) (by decide) (by decide) (fun _ h => h) (As := [.int v, .int 0, .int 9]) (rest := []) rfl rfl (Nat.le_of_ble_eq_true rfl) dX7_set_134 ?_
    refine V_if_eq_b C (tgt := 155) dX7_set_137 (by decide) (fun h137 => ?_) (fun h137 => ?_)
    · skip
      refine V_blk C (pc' := 157) (σ' := σ) (L' := [some (.ref 0), some (.int 5), some (.int o), some (.int v)]) (st' := [.int (-2)]) (g_c dX7_set_155 g_n) rfl rfl ?_
      refine V_iret C dX7_set_157 ?_
      exact ⟨by rw [if_neg (fun z => h137 z.2)], by rw [if_neg (fun z => h137 z.2)]⟩
    · skip
      refine V_blk C (pc' := 149) (σ' := σ) (L' := [some (.ref 0), some (.int 5), some (.int o), some (.int v)]) (st' := [.int v, .int o, .ref 5]) (g_c dX7_set_140 (g_c dX7_set_141 (g_c dX7_set_144 (g_c dX7_set_147 (g_c dX7_set_148 g_n))))) rfl rfl ?_
      refine V_callSI C cs_X7_93 (c_X7_swapped_5 σ o v (g_vp h127 hd hd6 (by decide))) (by decide) (by decide) (fun _ h => h) (As := [.ref 5, .int o, .int v]) (rest := []) rfl rfl (Nat.le_of_ble_eq_true rfl) dX7_set_149 ?_
      refine V_goto C (tgt := 157) dX7_set_152 (by decide) ?_
      refine V_iret C dX7_set_157 ?_
      exact ⟨by rw [if_pos ⟨h127, h137⟩], by rw [if_pos ⟨h127, h137⟩]⟩
-- M5
set_option maxHeartbeats 4000000 in
set_option maxRecDepth 100000 in
theorem c_X8_set5 (σ : gS) (o v : Int32) {nd : Nat} (hd : σ 63 15 = nI nd) (hd6 : nd ≤ 6) : g_Met yX8_set cX8_set 5 (some .int) 3 kM [.ref 63, .int 5, .int o, .int v] σ (fun rv s => rv = some (.int (if g_in o 0 ((σ 63 15) - 1) ∧ g_in v 0 9 then (σ 70 (ix o)) else (-2))) ∧ s = (if g_in o 0 ((σ 63 15) - 1) ∧ g_in v 0 9 then (g_up σ 70 (ix o) v) else σ)) := by
  refine g_Met.of (own := 8) (L := [some (.ref 63), some (.int 5), some (.int o), some (.int v), none]) (by decide) rfl rfl (fun ad => Nat.le_of_ble_eq_true rfl) (fun ad => rfl) (fun X G K C => ?_)
  refine V_blk C (pc' := 6) (σ' := σ) (L' := [some (.ref 63), some (.int 5), some (.int o), some (.int v), none]) (st' := [.long 6, .long 0, .long (Int32.toInt64 5)]) (g_c dX8_set_0 (g_c dX8_set_1 (g_c dX8_set_2 (g_c dX8_set_3 g_n)))) rfl rfl ?_
  refine V_callSI C cs_X8_110 (c_X8_in32 σ 5 0 6 (by decide) (by decide)) (by decide) (by decide) (fun _ h => h) (As := [.long (Int32.toInt64 5), .long 0, .long 6]) (rest := []) rfl rfl (Nat.le_of_ble_eq_true rfl) dX8_set_6 ?_
  refine V_if_eq_b C (tgt := 36) dX8_set_9 (by decide) (fun z => absurd (by decide) z) (fun _ => ?_)
  refine V_blk C (pc' := 13) (σ' := σ) (L' := [some (.ref 63), some (.int 5), some (.int o), some (.int v), none]) (st' := [.int 5]) (g_c dX8_set_12 g_n) rfl rfl ?_
  refine V_if_ne C (tgt := 23) dX8_set_13 (by decide) (fun _ => ?_) (fun z => absurd z (by decide))
  refine V_blk C (pc' := 25) (σ' := σ) (L' := [some (.ref 63), some (.int 5), some (.int o), some (.int v), none]) (st' := [.int 3, .int 5]) (g_c dX8_set_23 (g_c dX8_set_24 g_n)) rfl rfl ?_
  refine V_icmp_le2 C (tgt := 39) dX8_set_25 (by decide) (fun z => absurd z (by decide)) (fun _ => ?_)
  refine V_blk C (pc' := 30) (σ' := σ) (L' := [some (.ref 63), some (.int 5), some (.int o), some (.int v), none]) (st' := [.int o, .ref 63]) (g_c dX8_set_28 (g_c dX8_set_29 g_n)) rfl rfl ?_
  refine V_callVI C cv_X8_127 (c_X8_isDrip σ o) ⟨_, _, _, _, rfl, rfl⟩ (by rfl) (by decide) (by decide) (fun _ h => h) (As := [.int o]) (rest := []) rfl rfl (Nat.le_of_ble_eq_true rfl) dX8_set_30 ?_
  refine V_if_ne_b C (tgt := 39) dX8_set_33 (by decide) (fun h33 => ?_) (fun h33 => ?_)
  · skip
    refine V_blk C (pc' := 43) (σ' := σ) (L' := [some (.ref 63), some (.int 5), some (.int o), some (.int v), none]) (st' := [.int 2, .int 5, .long (Int32.toInt64 v)]) (g_c dX8_set_39 (g_c dX8_set_40 (g_c dX8_set_41 (g_c dX8_set_42 g_n)))) rfl rfl ?_
    refine V_icmp_ne C (tgt := 50) dX8_set_43 (by decide) (fun _ => ?_) (fun z => absurd z (by decide))
    refine V_blk C (pc' := 53) (σ' := σ) (L' := [some (.ref 63), some (.int 5), some (.int o), some (.int v), none]) (st' := [.int 1, .int 5, .long 0, .long (Int32.toInt64 v)]) (g_c dX8_set_50 (g_c dX8_set_51 (g_c dX8_set_52 g_n))) rfl rfl ?_
    refine V_icmp_ne C (tgt := 62) dX8_set_53 (by decide) (fun _ => ?_) (fun z => absurd z (by decide))
    refine V_blk C (pc' := 64) (σ' := σ) (L' := [some (.ref 63), some (.int 5), some (.int o), some (.int v), none]) (st' := [.int 2, .int 5, .long 0, .long (Int32.toInt64 v)]) (g_c dX8_set_62 (g_c dX8_set_63 g_n)) rfl rfl ?_
    refine V_icmp_ne C (tgt := 73) dX8_set_64 (by decide) (fun _ => ?_) (fun z => absurd z (by decide))
    refine V_blk C (pc' := 75) (σ' := σ) (L' := [some (.ref 63), some (.int 5), some (.int o), some (.int v), none]) (st' := [.int 3, .int 5, .long 0, .long (Int32.toInt64 v)]) (g_c dX8_set_73 (g_c dX8_set_74 g_n)) rfl rfl ?_
    refine V_icmp_ne C (tgt := 82) dX8_set_75 (by decide) (fun _ => ?_) (fun z => absurd z (by decide))
    refine V_blk C (pc' := 85) (σ' := σ) (L' := [some (.ref 63), some (.int 5), some (.int o), some (.int v), none]) (st' := [.int 6, .int 5, .long 0, .long (Int32.toInt64 v)]) (g_c dX8_set_82 (g_c dX8_set_83 g_n)) rfl rfl ?_
    refine V_icmp_ne C (tgt := 94) dX8_set_85 (by decide) (fun _ => ?_) (fun z => absurd z (by decide))
    refine V_blk C (pc' := 97) (σ' := σ) (L' := [some (.ref 63), some (.int 5), some (.int o), some (.int v), none]) (st' := [.long 9, .long 0, .long (Int32.toInt64 v)]) (g_c dX8_set_94 g_n) rfl rfl ?_
    refine V_callSI C cs_X8_110 (c_X8_in32 σ v 0 9 (by decide) (by decide)) (by decide) (by decide) (fun _ h => h) (As := [.long (Int32.toInt64 v), .long 0, .long 9]) (rest := []) rfl rfl (Nat.le_of_ble_eq_true rfl) dX8_set_97 ?_
    refine V_if_ne_b C (tgt := 106) dX8_set_100 (by decide) (fun h100 => ?_) (fun h100 => ?_)
    · skip
      refine V_blk C (pc' := 107) (σ' := σ) (L' := [some (.ref 63), some (.int 5), some (.int o), some (.int v), none]) (st' := [.int 5]) (g_c dX8_set_106 g_n) rfl rfl ?_
      refine V_if_ne C (tgt := 119) dX8_set_107 (by decide) (fun _ => ?_) (fun z => absurd z (by decide))
      refine V_blk C (pc' := 121) (σ' := σ) (L' := [some (.ref 63), some (.int 5), some (.int o), some (.int v), none]) (st' := [.int 1, .int 5]) (g_c dX8_set_119 (g_c dX8_set_120 g_n)) rfl rfl ?_
      refine V_icmp_ne C (tgt := 131) dX8_set_121 (by decide) (fun _ => ?_) (fun z => absurd z (by decide))
      refine V_blk C (pc' := 133) (σ' := σ) (L' := [some (.ref 63), some (.int 5), some (.int o), some (.int v), none]) (st' := [.int 2, .int 5]) (g_c dX8_set_131 (g_c dX8_set_132 g_n)) rfl rfl ?_
      refine V_icmp_ne C (tgt := 143) dX8_set_133 (by decide) (fun _ => ?_) (fun z => absurd z (by decide))
      refine V_blk C (pc' := 145) (σ' := σ) (L' := [some (.ref 63), some (.int 5), some (.int o), some (.int v), none]) (st' := [.int 3, .int 5]) (g_c dX8_set_143 (g_c dX8_set_144 g_n)) rfl rfl ?_
      refine V_icmp_ne C (tgt := 155) dX8_set_145 (by decide) (fun _ => ?_) (fun z => absurd z (by decide))
      refine V_blk C (pc' := 157) (σ' := σ) (L' := [some (.ref 63), some (.int 5), some (.int o), some (.int v), none]) (st' := [.int 4, .int 5]) (g_c dX8_set_155 (g_c dX8_set_156 g_n)) rfl rfl ?_
      refine V_icmp_ne C (tgt := 169) dX8_set_157 (by decide) (fun _ => ?_) (fun z => absurd z (by decide))
      refine V_blk C (pc' := 171) (σ' := σ) (L' := [some (.ref 63), some (.int 5), some (.int o), some (.int v), none]) (st' := [.int 5, .int 5]) (g_c dX8_set_169 (g_c dX8_set_170 g_n)) rfl rfl ?_
      refine V_icmp_ne C (tgt := 183) dX8_set_171 (by decide) (fun z => absurd z (by decide)) (fun _ => ?_)
      refine V_blk C (pc' := 179) (σ' := σ) (L' := [some (.ref 63), some (.int 5), some (.int o), some (.int v), none]) (st' := [.int o, .ref 70]) (g_c dX8_set_174 (g_c dX8_set_175 (g_c dX8_set_178 g_n))) rfl rfl ?_
      refine V_iald C (k := 70) (n := 6) (by rfl) (by rfl) (g_vp h33 hd hd6 (by decide)) dX8_set_179 ?_
      refine V_goto C (tgt := 189) dX8_set_180 (by decide) ?_
      refine V_blk C (pc' := 192) (σ' := σ) (L' := [some (.ref 63), some (.int 5), some (.int o), some (.int v), some (.int (σ 70 (Int32.toNatClampNeg o)))]) (st' := [.int 5]) (g_c dX8_set_189 (g_c dX8_set_191 g_n)) rfl rfl ?_
      refine V_if_ne C (tgt := 205) dX8_set_192 (by decide) (fun _ => ?_) (fun z => absurd z (by decide))
      refine V_blk C (pc' := 207) (σ' := σ) (L' := [some (.ref 63), some (.int 5), some (.int o), some (.int v), some (.int (σ 70 (Int32.toNatClampNeg o)))]) (st' := [.int 1, .int 5]) (g_c dX8_set_205 (g_c dX8_set_206 g_n)) rfl rfl ?_
      refine V_icmp_ne C (tgt := 218) dX8_set_207 (by decide) (fun _ => ?_) (fun z => absurd z (by decide))
      refine V_blk C (pc' := 220) (σ' := σ) (L' := [some (.ref 63), some (.int 5), some (.int o), some (.int v), some (.int (σ 70 (Int32.toNatClampNeg o)))]) (st' := [.int 2, .int 5]) (g_c dX8_set_218 (g_c dX8_set_219 g_n)) rfl rfl ?_
      refine V_icmp_ne C (tgt := 231) dX8_set_220 (by decide) (fun _ => ?_) (fun z => absurd z (by decide))
      refine V_blk C (pc' := 233) (σ' := σ) (L' := [some (.ref 63), some (.int 5), some (.int o), some (.int v), some (.int (σ 70 (Int32.toNatClampNeg o)))]) (st' := [.int 3, .int 5]) (g_c dX8_set_231 (g_c dX8_set_232 g_n)) rfl rfl ?_
      refine V_icmp_ne C (tgt := 244) dX8_set_233 (by decide) (fun _ => ?_) (fun z => absurd z (by decide))
      refine V_blk C (pc' := 246) (σ' := σ) (L' := [some (.ref 63), some (.int 5), some (.int o), some (.int v), some (.int (σ 70 (Int32.toNatClampNeg o)))]) (st' := [.int 4, .int 5]) (g_c dX8_set_244 (g_c dX8_set_245 g_n)) rfl rfl ?_
      refine V_icmp_ne C (tgt := 259) dX8_set_246 (by decide) (fun _ => ?_) (fun z => absurd z (by decide))
      refine V_blk C (pc' := 261) (σ' := σ) (L' := [some (.ref 63), some (.int 5), some (.int o), some (.int v), some (.int (σ 70 (Int32.toNatClampNeg o)))]) (st' := [.int 5, .int 5]) (g_c dX8_set_259 (g_c dX8_set_260 g_n)) rfl rfl ?_
      refine V_icmp_ne C (tgt := 274) dX8_set_261 (by decide) (fun z => absurd z (by decide)) (fun _ => ?_)
      refine V_blk C (pc' := 270) (σ' := σ) (L' := [some (.ref 63), some (.int 5), some (.int o), some (.int v), some (.int (σ 70 (Int32.toNatClampNeg o)))]) (st' := [.int v, .int o, .ref 70]) (g_c dX8_set_264 (g_c dX8_set_265 (g_c dX8_set_268 (g_c dX8_set_269 g_n)))) rfl rfl ?_
      refine V_iast C (k := 70) (n := 6) (by rfl) (by rfl) (g_vp h33 hd hd6 (by decide)) dX8_set_270 ?_
      refine V_goto C (tgt := 281) dX8_set_271 (by decide) ?_
      refine V_blk C (pc' := 283) (σ' := (g_up σ 70 (Int32.toNatClampNeg o) v)) (L' := [some (.ref 63), some (.int 5), some (.int o), some (.int v), some (.int (σ 70 (Int32.toNatClampNeg o)))]) (st' := [.int (σ 70 (Int32.toNatClampNeg o))]) (g_c dX8_set_281 g_n) rfl rfl ?_
      refine V_iret C dX8_set_283 ?_
      exact ⟨by rw [if_pos ⟨h33, h100⟩], by rw [if_pos ⟨h33, h100⟩]⟩
    · skip
      refine V_blk C (pc' := 105) (σ' := σ) (L' := [some (.ref 63), some (.int 5), some (.int o), some (.int v), none]) (st' := [.int (-2)]) (g_c dX8_set_103 g_n) rfl rfl ?_
      refine V_iret C dX8_set_105 ?_
      exact ⟨by rw [if_neg (fun z => h100 z.2)], by rw [if_neg (fun z => h100 z.2)]⟩
  · skip
    refine V_blk C (pc' := 38) (σ' := σ) (L' := [some (.ref 63), some (.int 5), some (.int o), some (.int v), none]) (st' := [.int (-2)]) (g_c dX8_set_36 g_n) rfl rfl ?_
    refine V_iret C dX8_set_38 ?_
    exact ⟨by rw [if_neg (fun z => h33 z.1)], by rw [if_neg (fun z => h33 z.1)]⟩
set_option maxHeartbeats 4000000 in
set_option maxRecDepth 100000 in
theorem c_X7_set6 (σ : gS) (o v : Int32) {nd : Nat} (hd : σ 1 8 = nI nd) (hd6 : nd ≤ 6) : g_Met yX7_set cX7_set 4 (some .int) 3 kX [.ref 0, .int 6, .int o, .int v] σ (fun rv s => rv = some (.int (if g_in o 0 ((σ 1 8) - 1) ∧ g_in v 0 7 then (σ 6 (ix o)) else (-2))) ∧ s = (if g_in o 0 ((σ 1 8) - 1) ∧ g_in v 0 7 then (g_up σ 6 (ix o) v) else σ)) := by
  refine g_Met.of (own := 7) (L := [some (.ref 0), some (.int 6), some (.int o), some (.int v)]) (by decide) rfl rfl (fun ad => Nat.le_of_ble_eq_true rfl) (fun ad => rfl) (fun X G K C => ?_)
  refine V_blk C (pc' := 1) (σ' := σ) (L' := [some (.ref 0), some (.int 6), some (.int o), some (.int v)]) (st' := [.int 6]) (g_c dX7_set_0 g_n) rfl rfl ?_
  refine V_tsw C 6 157 (tgt := 158) dX7_set_1 (by decide) (by decide) (by decide) (by decide) (fun _ => ?_) (fun z => absurd rfl z)
  refine V_blk C (pc' := 160) (σ' := σ) (L' := [some (.ref 0), some (.int 6), some (.int o), some (.int v)]) (st' := [.int o, .ref 0]) (g_c dX7_set_158 (g_c dX7_set_159 g_n)) rfl rfl ?_
  refine V_callVI C cv_X7_101 (c_X7_isDrip σ o) ⟨_, _, _, _, rfl, rfl⟩ (by rfl) (by decide) (by decide) (fun _ h => h) (As := [.int o]) (rest := []) rfl rfl (Nat.le_of_ble_eq_true rfl) dX7_set_160 ?_
  refine V_if_eq_b C (tgt := 188) dX7_set_163 (by decide) (fun h163 => ?_) (fun h163 => ?_)
  · skip
    refine V_blk C (pc' := 190) (σ' := σ) (L' := [some (.ref 0), some (.int 6), some (.int o), some (.int v)]) (st' := [.int (-2)]) (g_c dX7_set_188 g_n) rfl rfl ?_
    refine V_iret C dX7_set_190 ?_
    exact ⟨by rw [if_neg (fun z => h163 z.1)], by rw [if_neg (fun z => h163 z.1)]⟩
  · skip
    refine V_blk C (pc' := 167) (σ' := σ) (L' := [some (.ref 0), some (.int 6), some (.int o), some (.int v)]) (st' := [.int v]) (g_c dX7_set_166 g_n) rfl rfl ?_
    refine V_callSI C cs_X7_110 (c_X7_isPlace σ v) (by decide) (by decide) (fun _ h => h) (As := [.int v]) (rest := []) rfl rfl (Nat.le_of_ble_eq_true rfl) dX7_set_167 ?_
    refine V_if_eq_b C (tgt := 188) dX7_set_170 (by decide) (fun h170 => ?_) (fun h170 => ?_)
    · skip
      refine V_blk C (pc' := 190) (σ' := σ) (L' := [some (.ref 0), some (.int 6), some (.int o), some (.int v)]) (st' := [.int (-2)]) (g_c dX7_set_188 g_n) rfl rfl ?_
      refine V_iret C dX7_set_190 ?_
      exact ⟨by rw [if_neg (fun z => h170 z.2)], by rw [if_neg (fun z => h170 z.2)]⟩
    · skip
      refine V_blk C (pc' := 182) (σ' := σ) (L' := [some (.ref 0), some (.int 6), some (.int o), some (.int v)]) (st' := [.int v, .int o, .ref 6]) (g_c dX7_set_173 (g_c dX7_set_174 (g_c dX7_set_177 (g_c dX7_set_180 (g_c dX7_set_181 g_n))))) rfl rfl ?_
      refine V_callSI C cs_X7_93 (c_X7_swapped_6 σ o v (g_vp h163 hd hd6 (by decide))) (by decide) (by decide) (fun _ h => h) (As := [.ref 6, .int o, .int v]) (rest := []) rfl rfl (Nat.le_of_ble_eq_true rfl) dX7_set_182 ?_
      refine V_goto C (tgt := 190) dX7_set_185 (by decide) ?_
      refine V_iret C dX7_set_190 ?_
      exact ⟨by rw [if_pos ⟨h163, h170⟩], by rw [if_pos ⟨h163, h170⟩]⟩
-- M6
set_option maxHeartbeats 4000000 in
set_option maxRecDepth 100000 in
theorem c_X8_set6 (σ : gS) (o v : Int32) {nd : Nat} (hd : σ 63 15 = nI nd) (hd6 : nd ≤ 6) : g_Met yX8_set cX8_set 5 (some .int) 3 kM [.ref 63, .int 6, .int o, .int v] σ (fun rv s => rv = some (.int (if g_in o 0 ((σ 63 15) - 1) ∧ g_in v 0 7 then (σ 71 (ix o)) else (-2))) ∧ s = (if g_in o 0 ((σ 63 15) - 1) ∧ g_in v 0 7 then (g_up σ 71 (ix o) v) else σ)) := by
  refine g_Met.of (own := 8) (L := [some (.ref 63), some (.int 6), some (.int o), some (.int v), none]) (by decide) rfl rfl (fun ad => Nat.le_of_ble_eq_true rfl) (fun ad => rfl) (fun X G K C => ?_)
  refine V_blk C (pc' := 6) (σ' := σ) (L' := [some (.ref 63), some (.int 6), some (.int o), some (.int v), none]) (st' := [.long 6, .long 0, .long (Int32.toInt64 6)]) (g_c dX8_set_0 (g_c dX8_set_1 (g_c dX8_set_2 (g_c dX8_set_3 g_n)))) rfl rfl ?_
  refine V_callSI C cs_X8_110 (c_X8_in32 σ 6 0 6 (by decide) (by decide)) (by decide) (by decide) (fun _ h => h) (As := [.long (Int32.toInt64 6), .long 0, .long 6]) (rest := []) rfl rfl (Nat.le_of_ble_eq_true rfl) dX8_set_6 ?_
  refine V_if_eq_b C (tgt := 36) dX8_set_9 (by decide) (fun z => absurd (by decide) z) (fun _ => ?_)
  refine V_blk C (pc' := 13) (σ' := σ) (L' := [some (.ref 63), some (.int 6), some (.int o), some (.int v), none]) (st' := [.int 6]) (g_c dX8_set_12 g_n) rfl rfl ?_
  refine V_if_ne C (tgt := 23) dX8_set_13 (by decide) (fun _ => ?_) (fun z => absurd z (by decide))
  refine V_blk C (pc' := 25) (σ' := σ) (L' := [some (.ref 63), some (.int 6), some (.int o), some (.int v), none]) (st' := [.int 3, .int 6]) (g_c dX8_set_23 (g_c dX8_set_24 g_n)) rfl rfl ?_
  refine V_icmp_le2 C (tgt := 39) dX8_set_25 (by decide) (fun z => absurd z (by decide)) (fun _ => ?_)
  refine V_blk C (pc' := 30) (σ' := σ) (L' := [some (.ref 63), some (.int 6), some (.int o), some (.int v), none]) (st' := [.int o, .ref 63]) (g_c dX8_set_28 (g_c dX8_set_29 g_n)) rfl rfl ?_
  refine V_callVI C cv_X8_127 (c_X8_isDrip σ o) ⟨_, _, _, _, rfl, rfl⟩ (by rfl) (by decide) (by decide) (fun _ h => h) (As := [.int o]) (rest := []) rfl rfl (Nat.le_of_ble_eq_true rfl) dX8_set_30 ?_
  refine V_if_ne_b C (tgt := 39) dX8_set_33 (by decide) (fun h33 => ?_) (fun h33 => ?_)
  · skip
    refine V_blk C (pc' := 43) (σ' := σ) (L' := [some (.ref 63), some (.int 6), some (.int o), some (.int v), none]) (st' := [.int 2, .int 6, .long (Int32.toInt64 v)]) (g_c dX8_set_39 (g_c dX8_set_40 (g_c dX8_set_41 (g_c dX8_set_42 g_n)))) rfl rfl ?_
    refine V_icmp_ne C (tgt := 50) dX8_set_43 (by decide) (fun _ => ?_) (fun z => absurd z (by decide))
    refine V_blk C (pc' := 53) (σ' := σ) (L' := [some (.ref 63), some (.int 6), some (.int o), some (.int v), none]) (st' := [.int 1, .int 6, .long 0, .long (Int32.toInt64 v)]) (g_c dX8_set_50 (g_c dX8_set_51 (g_c dX8_set_52 g_n))) rfl rfl ?_
    refine V_icmp_ne C (tgt := 62) dX8_set_53 (by decide) (fun _ => ?_) (fun z => absurd z (by decide))
    refine V_blk C (pc' := 64) (σ' := σ) (L' := [some (.ref 63), some (.int 6), some (.int o), some (.int v), none]) (st' := [.int 2, .int 6, .long 0, .long (Int32.toInt64 v)]) (g_c dX8_set_62 (g_c dX8_set_63 g_n)) rfl rfl ?_
    refine V_icmp_ne C (tgt := 73) dX8_set_64 (by decide) (fun _ => ?_) (fun z => absurd z (by decide))
    refine V_blk C (pc' := 75) (σ' := σ) (L' := [some (.ref 63), some (.int 6), some (.int o), some (.int v), none]) (st' := [.int 3, .int 6, .long 0, .long (Int32.toInt64 v)]) (g_c dX8_set_73 (g_c dX8_set_74 g_n)) rfl rfl ?_
    refine V_icmp_ne C (tgt := 82) dX8_set_75 (by decide) (fun _ => ?_) (fun z => absurd z (by decide))
    refine V_blk C (pc' := 85) (σ' := σ) (L' := [some (.ref 63), some (.int 6), some (.int o), some (.int v), none]) (st' := [.int 6, .int 6, .long 0, .long (Int32.toInt64 v)]) (g_c dX8_set_82 (g_c dX8_set_83 g_n)) rfl rfl ?_
    refine V_icmp_ne C (tgt := 94) dX8_set_85 (by decide) (fun z => absurd z (by decide)) (fun _ => ?_)
    refine V_blk C (pc' := 91) (σ' := σ) (L' := [some (.ref 63), some (.int 6), some (.int o), some (.int v), none]) (st' := [.long 7, .long 0, .long (Int32.toInt64 v)]) (g_c dX8_set_88 g_n) rfl rfl ?_
    refine V_goto C (tgt := 97) dX8_set_91 (by decide) ?_
    refine V_callSI C cs_X8_110 (c_X8_in32 σ v 0 7 (by decide) (by decide)) (by decide) (by decide) (fun _ h => h) (As := [.long (Int32.toInt64 v), .long 0, .long 7]) (rest := []) rfl rfl (Nat.le_of_ble_eq_true rfl) dX8_set_97 ?_
    refine V_if_ne_b C (tgt := 106) dX8_set_100 (by decide) (fun h100 => ?_) (fun h100 => ?_)
    · skip
      refine V_blk C (pc' := 107) (σ' := σ) (L' := [some (.ref 63), some (.int 6), some (.int o), some (.int v), none]) (st' := [.int 6]) (g_c dX8_set_106 g_n) rfl rfl ?_
      refine V_if_ne C (tgt := 119) dX8_set_107 (by decide) (fun _ => ?_) (fun z => absurd z (by decide))
      refine V_blk C (pc' := 121) (σ' := σ) (L' := [some (.ref 63), some (.int 6), some (.int o), some (.int v), none]) (st' := [.int 1, .int 6]) (g_c dX8_set_119 (g_c dX8_set_120 g_n)) rfl rfl ?_
      refine V_icmp_ne C (tgt := 131) dX8_set_121 (by decide) (fun _ => ?_) (fun z => absurd z (by decide))
      refine V_blk C (pc' := 133) (σ' := σ) (L' := [some (.ref 63), some (.int 6), some (.int o), some (.int v), none]) (st' := [.int 2, .int 6]) (g_c dX8_set_131 (g_c dX8_set_132 g_n)) rfl rfl ?_
      refine V_icmp_ne C (tgt := 143) dX8_set_133 (by decide) (fun _ => ?_) (fun z => absurd z (by decide))
      refine V_blk C (pc' := 145) (σ' := σ) (L' := [some (.ref 63), some (.int 6), some (.int o), some (.int v), none]) (st' := [.int 3, .int 6]) (g_c dX8_set_143 (g_c dX8_set_144 g_n)) rfl rfl ?_
      refine V_icmp_ne C (tgt := 155) dX8_set_145 (by decide) (fun _ => ?_) (fun z => absurd z (by decide))
      refine V_blk C (pc' := 157) (σ' := σ) (L' := [some (.ref 63), some (.int 6), some (.int o), some (.int v), none]) (st' := [.int 4, .int 6]) (g_c dX8_set_155 (g_c dX8_set_156 g_n)) rfl rfl ?_
      refine V_icmp_ne C (tgt := 169) dX8_set_157 (by decide) (fun _ => ?_) (fun z => absurd z (by decide))
      refine V_blk C (pc' := 171) (σ' := σ) (L' := [some (.ref 63), some (.int 6), some (.int o), some (.int v), none]) (st' := [.int 5, .int 6]) (g_c dX8_set_169 (g_c dX8_set_170 g_n)) rfl rfl ?_
      refine V_icmp_ne C (tgt := 183) dX8_set_171 (by decide) (fun _ => ?_) (fun z => absurd z (by decide))
      refine V_blk C (pc' := 188) (σ' := σ) (L' := [some (.ref 63), some (.int 6), some (.int o), some (.int v), none]) (st' := [.int o, .ref 71]) (g_c dX8_set_183 (g_c dX8_set_184 (g_c dX8_set_187 g_n))) rfl rfl ?_
      refine V_iald C (k := 71) (n := 6) (by rfl) (by rfl) (g_vp h33 hd hd6 (by decide)) dX8_set_188 ?_
      refine V_blk C (pc' := 192) (σ' := σ) (L' := [some (.ref 63), some (.int 6), some (.int o), some (.int v), some (.int (σ 71 (Int32.toNatClampNeg o)))]) (st' := [.int 6]) (g_c dX8_set_189 (g_c dX8_set_191 g_n)) rfl rfl ?_
      refine V_if_ne C (tgt := 205) dX8_set_192 (by decide) (fun _ => ?_) (fun z => absurd z (by decide))
      refine V_blk C (pc' := 207) (σ' := σ) (L' := [some (.ref 63), some (.int 6), some (.int o), some (.int v), some (.int (σ 71 (Int32.toNatClampNeg o)))]) (st' := [.int 1, .int 6]) (g_c dX8_set_205 (g_c dX8_set_206 g_n)) rfl rfl ?_
      refine V_icmp_ne C (tgt := 218) dX8_set_207 (by decide) (fun _ => ?_) (fun z => absurd z (by decide))
      refine V_blk C (pc' := 220) (σ' := σ) (L' := [some (.ref 63), some (.int 6), some (.int o), some (.int v), some (.int (σ 71 (Int32.toNatClampNeg o)))]) (st' := [.int 2, .int 6]) (g_c dX8_set_218 (g_c dX8_set_219 g_n)) rfl rfl ?_
      refine V_icmp_ne C (tgt := 231) dX8_set_220 (by decide) (fun _ => ?_) (fun z => absurd z (by decide))
      refine V_blk C (pc' := 233) (σ' := σ) (L' := [some (.ref 63), some (.int 6), some (.int o), some (.int v), some (.int (σ 71 (Int32.toNatClampNeg o)))]) (st' := [.int 3, .int 6]) (g_c dX8_set_231 (g_c dX8_set_232 g_n)) rfl rfl ?_
      refine V_icmp_ne C (tgt := 244) dX8_set_233 (by decide) (fun _ => ?_) (fun z => absurd z (by decide))
      refine V_blk C (pc' := 246) (σ' := σ) (L' := [some (.ref 63), some (.int 6), some (.int o), some (.int v), some (.int (σ 71 (Int32.toNatClampNeg o)))]) (st' := [.int 4, .int 6]) (g_c dX8_set_244 (g_c dX8_set_245 g_n)) rfl rfl ?_
      refine V_icmp_ne C (tgt := 259) dX8_set_246 (by decide) (fun _ => ?_) (fun z => absurd z (by decide))
      refine V_blk C (pc' := 261) (σ' := σ) (L' := [some (.ref 63), some (.int 6), some (.int o), some (.int v), some (.int (σ 71 (Int32.toNatClampNeg o)))]) (st' := [.int 5, .int 6]) (g_c dX8_set_259 (g_c dX8_set_260 g_n)) rfl rfl ?_
      refine V_icmp_ne C (tgt := 274) dX8_set_261 (by decide) (fun _ => ?_) (fun z => absurd z (by decide))
      refine V_blk C (pc' := 280) (σ' := σ) (L' := [some (.ref 63), some (.int 6), some (.int o), some (.int v), some (.int (σ 71 (Int32.toNatClampNeg o)))]) (st' := [.int v, .int o, .ref 71]) (g_c dX8_set_274 (g_c dX8_set_275 (g_c dX8_set_278 (g_c dX8_set_279 g_n)))) rfl rfl ?_
      refine V_iast C (k := 71) (n := 6) (by rfl) (by rfl) (g_vp h33 hd hd6 (by decide)) dX8_set_280 ?_
      refine V_blk C (pc' := 283) (σ' := (g_up σ 71 (Int32.toNatClampNeg o) v)) (L' := [some (.ref 63), some (.int 6), some (.int o), some (.int v), some (.int (σ 71 (Int32.toNatClampNeg o)))]) (st' := [.int (σ 71 (Int32.toNatClampNeg o))]) (g_c dX8_set_281 g_n) rfl rfl ?_
      refine V_iret C dX8_set_283 ?_
      exact ⟨by rw [if_pos ⟨h33, h100⟩], by rw [if_pos ⟨h33, h100⟩]⟩
    · skip
      refine V_blk C (pc' := 105) (σ' := σ) (L' := [some (.ref 63), some (.int 6), some (.int o), some (.int v), none]) (st' := [.int (-2)]) (g_c dX8_set_103 g_n) rfl rfl ?_
      refine V_iret C dX8_set_105 ?_
      exact ⟨by rw [if_neg (fun z => h100 z.2)], by rw [if_neg (fun z => h100 z.2)]⟩
  · skip
    refine V_blk C (pc' := 38) (σ' := σ) (L' := [some (.ref 63), some (.int 6), some (.int o), some (.int v), none]) (st' := [.int (-2)]) (g_c dX8_set_36 g_n) rfl rfl ?_
    refine V_iret C dX8_set_38 ?_
    exact ⟨by rw [if_neg (fun z => h33 z.1)], by rw [if_neg (fun z => h33 z.1)]⟩
set_option maxHeartbeats 4000000 in
set_option maxRecDepth 100000 in
theorem c_X7_setOut (σ : gS) (w o v : Int32) (hw : ¬ g_in w 0 6) : g_Met yX7_set cX7_set 4 (some .int) 3 kX [.ref 0, .int w, .int o, .int v] σ (fun rv s => rv = some (.int (-2)) ∧ s = σ) := by
  refine g_Met.of (own := 7) (L := [some (.ref 0), some (.int w), some (.int o), some (.int v)]) (by decide) rfl rfl (fun ad => Nat.le_of_ble_eq_true rfl) (fun ad => rfl) (fun X G K C => ?_)
  refine V_blk C (pc' := 1) (σ' := σ) (L' := [some (.ref 0), some (.int w), some (.int o), some (.int v)]) (st' := [.int w]) (g_c dX7_set_0 g_n) rfl rfl ?_
  refine V_tso C (tgt := 191) dX7_set_1 (g_tso2 hw (by decide) (by decide)) (by decide) ?_
  refine V_blk C (pc' := 193) (σ' := σ) (L' := [some (.ref 0), some (.int w), some (.int o), some (.int v)]) (st' := [.int (-2)]) (g_c dX7_set_191 g_n) rfl rfl ?_
  refine V_iret C dX7_set_193 ?_
  exact ⟨rfl, rfl⟩
set_option maxHeartbeats 4000000 in
set_option maxRecDepth 100000 in
theorem c_X7_vessel (σ : gS) (size : Int32) {nv : Nat} (hv : σ 1 9 = nI nv) (hv5 : nv ≤ 5) : g_Met yX7_vessel cX7_vessel 3 (some .int) 3 kX [.ref 0, .int size] σ (fun rv s => rv = some (.int (if g_in size 1 99 then (if g_in (σ 1 9) 0 4 then (σ 1 9) else (-4)) else (-2))) ∧ s = (if g_in size 1 99 then (if g_in (σ 1 9) 0 4 then (g_up (g_up (g_up (g_up σ 7 (Int32.toNatClampNeg (σ 1 9)) size) 8 (Int32.toNatClampNeg (σ 1 9)) (-1)) 9 (Int32.toNatClampNeg (σ 1 9)) 0) 1 9 ((σ 1 9) + 1)) else σ) else σ)) := by
  refine g_Met.of (own := 7) (L := [some (.ref 0), some (.int size), none]) (by decide) rfl rfl (fun ad => Nat.le_of_ble_eq_true rfl) (fun ad => rfl) (fun X G K C => ?_)
  refine V_blk C (pc' := 4) (σ' := σ) (L' := [some (.ref 0), some (.int size), none]) (st' := [.int 99, .int 1, .int size]) (g_c dX7_vessel_0 (g_c dX7_vessel_1 (g_c dX7_vessel_2 g_n))) rfl rfl ?_
  refine V_callSI C cs_X7_85 (c_X7_isIn σ size 1 99) (by decide) (by decide) (fun _ h => h) (As := [.int size, .int 1, .int 99]) (rest := []) rfl rfl (Nat.le_of_ble_eq_true rfl) dX7_vessel_4 ?_
  refine V_if_ne_b C (tgt := 13) dX7_vessel_7 (by decide) (fun h7 => ?_) (fun h7 => ?_)
  · skip
    refine V_blk C (pc' := 24) (σ' := σ) (L' := [some (.ref 0), some (.int size), some (.int (σ 1 9))]) (st' := [.int 4, .int 0, .int (σ 1 9)]) (g_c dX7_vessel_13 (g_c dX7_vessel_14 (g_c dX7_vessel_17 (g_c dX7_vessel_20 (g_c dX7_vessel_21 (g_c dX7_vessel_22 (g_c dX7_vessel_23 g_n))))))) rfl rfl ?_
    refine V_callSI C cs_X7_85 (c_X7_isIn σ (σ 1 9) 0 4) (by decide) (by decide) (fun _ h => h) (As := [.int (σ 1 9), .int 0, .int 4]) (rest := []) rfl rfl (Nat.le_of_ble_eq_true rfl) dX7_vessel_24 ?_
    refine V_if_ne_b C (tgt := 33) dX7_vessel_27 (by decide) (fun h27 => ?_) (fun h27 => ?_)
    · skip
      refine V_blk C (pc' := 42) (σ' := σ) (L' := [some (.ref 0), some (.int size), some (.int (σ 1 9))]) (st' := [.int size, .int (σ 1 9), .ref 7]) (g_c dX7_vessel_33 (g_c dX7_vessel_34 (g_c dX7_vessel_37 (g_c dX7_vessel_40 (g_c dX7_vessel_41 g_n))))) rfl rfl ?_
      refine V_iast C (k := 7) (n := 5) (by rfl) (by rfl) (g_vpc h27 (by decide)) dX7_vessel_42 ?_
      refine V_blk C (pc' := 52) (σ' := (g_up σ 7 (Int32.toNatClampNeg (σ 1 9)) size)) (L' := [some (.ref 0), some (.int size), some (.int (σ 1 9))]) (st' := [.int (-1), .int (σ 1 9), .ref 8]) (g_c dX7_vessel_43 (g_c dX7_vessel_44 (g_c dX7_vessel_47 (g_c dX7_vessel_50 (g_c dX7_vessel_51 g_n))))) rfl rfl ?_
      refine V_iast C (k := 8) (n := 5) (by rfl) (by rfl) (g_vpc h27 (by decide)) dX7_vessel_52 ?_
      refine V_blk C (pc' := 62) (σ' := (g_up (g_up σ 7 (Int32.toNatClampNeg (σ 1 9)) size) 8 (Int32.toNatClampNeg (σ 1 9)) (-1))) (L' := [some (.ref 0), some (.int size), some (.int (σ 1 9))]) (st' := [.int 0, .int (σ 1 9), .ref 9]) (g_c dX7_vessel_53 (g_c dX7_vessel_54 (g_c dX7_vessel_57 (g_c dX7_vessel_60 (g_c dX7_vessel_61 g_n))))) rfl rfl ?_
      refine V_iast C (k := 9) (n := 5) (by rfl) (by rfl) (g_vpc h27 (by decide)) dX7_vessel_62 ?_
      refine V_blk C (pc' := 74) (σ' := (g_up (g_up (g_up (g_up σ 7 (Int32.toNatClampNeg (σ 1 9)) size) 8 (Int32.toNatClampNeg (σ 1 9)) (-1)) 9 (Int32.toNatClampNeg (σ 1 9)) 0) 1 9 ((σ 1 9) + 1))) (L' := [some (.ref 0), some (.int size), some (.int (σ 1 9))]) (st' := [.int (σ 1 9)]) (g_c dX7_vessel_63 (g_c dX7_vessel_64 (g_c dX7_vessel_67 (g_c dX7_vessel_68 (g_c dX7_vessel_69 (g_c dX7_vessel_70 (g_c dX7_vessel_73 g_n))))))) rfl rfl ?_
      refine V_iret C dX7_vessel_74 ?_
      exact ⟨by rw [if_pos h7, if_pos h27], by rw [if_pos h7, if_pos h27]⟩
    · skip
      refine V_blk C (pc' := 32) (σ' := σ) (L' := [some (.ref 0), some (.int size), some (.int (σ 1 9))]) (st' := [.int (-4)]) (g_c dX7_vessel_30 g_n) rfl rfl ?_
      refine V_iret C dX7_vessel_32 ?_
      exact ⟨by rw [if_pos h7, if_neg (fun z => h27 z)], by rw [if_pos h7, if_neg (fun z => h27 z)]⟩
  · skip
    refine V_blk C (pc' := 12) (σ' := σ) (L' := [some (.ref 0), some (.int size), none]) (st' := [.int (-2)]) (g_c dX7_vessel_10 g_n) rfl rfl ?_
    refine V_iret C dX7_vessel_12 ?_
    exact ⟨by rw [if_neg (fun z => h7 z)], by rw [if_neg (fun z => h7 z)]⟩
set_option maxHeartbeats 4000000 in
set_option maxRecDepth 100000 in
theorem c_X8_vessel (σ : gS) (size : Int32) {nv : Nat} (hv : σ 63 19 = nI nv) (hv5 : nv ≤ 5) : g_Met yX8_vessel cX8_vessel 2 (some .int) 3 kM [.ref 63, .int size] σ (fun rv s => rv = some (.int (if g_in size 1 99 then (if (σ 63 19) = 5 then (-4) else (((σ 63 19) + 1) - 1)) else (-2))) ∧ s = (if g_in size 1 99 then (if (σ 63 19) = 5 then σ else (g_up (g_up (g_up (g_up σ 72 (Int32.toNatClampNeg (σ 63 19)) size) 73 (Int32.toNatClampNeg (σ 63 19)) (-1)) 74 (Int32.toNatClampNeg (σ 63 19)) 0) 63 19 ((σ 63 19) + 1))) else σ)) := by
  refine g_Met.of (own := 8) (L := [some (.ref 63), some (.int size)]) (by decide) rfl rfl (fun ad => Nat.le_of_ble_eq_true rfl) (fun ad => rfl) (fun X G K C => ?_)
  refine V_blk C (pc' := 6) (σ' := σ) (L' := [some (.ref 63), some (.int size)]) (st' := [.long 99, .long 1, .long (Int32.toInt64 size)]) (g_c dX8_vessel_0 (g_c dX8_vessel_1 (g_c dX8_vessel_2 (g_c dX8_vessel_3 g_n)))) rfl rfl ?_
  refine V_callSI C cs_X8_110 (c_X8_in32 σ size 1 99 (by decide) (by decide)) (by decide) (by decide) (fun _ h => h) (As := [.long (Int32.toInt64 size), .long 1, .long 99]) (rest := []) rfl rfl (Nat.le_of_ble_eq_true rfl) dX8_vessel_6 ?_
  refine V_if_ne_b C (tgt := 15) dX8_vessel_9 (by decide) (fun h9 => ?_) (fun h9 => ?_)
  · skip
    refine V_blk C (pc' := 20) (σ' := σ) (L' := [some (.ref 63), some (.int size)]) (st' := [.int 5, .int (σ 63 19)]) (g_c dX8_vessel_15 (g_c dX8_vessel_16 (g_c dX8_vessel_19 g_n))) rfl rfl ?_
    refine V_icmp_ne C (tgt := 26) dX8_vessel_20 (by decide) (fun h20 => ?_) (fun h20 => ?_)
    · skip
      refine V_blk C (pc' := 35) (σ' := σ) (L' := [some (.ref 63), some (.int size)]) (st' := [.int size, .int (σ 63 19), .ref 72]) (g_c dX8_vessel_26 (g_c dX8_vessel_27 (g_c dX8_vessel_30 (g_c dX8_vessel_31 (g_c dX8_vessel_34 g_n))))) rfl rfl ?_
      refine V_iast C (k := 72) (n := 5) (by rfl) (by rfl) (g_vpE (N := 5) hv hv5 h20 (by decide)) dX8_vessel_35 ?_
      refine V_blk C (pc' := 45) (σ' := (g_up σ 72 (Int32.toNatClampNeg (σ 63 19)) size)) (L' := [some (.ref 63), some (.int size)]) (st' := [.int (-1), .int (σ 63 19), .ref 73]) (g_c dX8_vessel_36 (g_c dX8_vessel_37 (g_c dX8_vessel_40 (g_c dX8_vessel_41 (g_c dX8_vessel_44 g_n))))) rfl rfl ?_
      refine V_iast C (k := 73) (n := 5) (by rfl) (by rfl) (g_vpE (N := 5) hv hv5 h20 (by decide)) dX8_vessel_45 ?_
      refine V_blk C (pc' := 55) (σ' := (g_up (g_up σ 72 (Int32.toNatClampNeg (σ 63 19)) size) 73 (Int32.toNatClampNeg (σ 63 19)) (-1))) (L' := [some (.ref 63), some (.int size)]) (st' := [.int 0, .int (σ 63 19), .ref 74]) (g_c dX8_vessel_46 (g_c dX8_vessel_47 (g_c dX8_vessel_50 (g_c dX8_vessel_51 (g_c dX8_vessel_54 g_n))))) rfl rfl ?_
      refine V_iast C (k := 74) (n := 5) (by rfl) (by rfl) (g_vpE (N := 5) hv hv5 h20 (by decide)) dX8_vessel_55 ?_
      refine V_blk C (pc' := 72) (σ' := (g_up (g_up (g_up (g_up σ 72 (Int32.toNatClampNeg (σ 63 19)) size) 73 (Int32.toNatClampNeg (σ 63 19)) (-1)) 74 (Int32.toNatClampNeg (σ 63 19)) 0) 63 19 ((σ 63 19) + 1))) (L' := [some (.ref 63), some (.int size)]) (st' := [.int (((σ 63 19) + 1) - 1)]) (g_c dX8_vessel_56 (g_c dX8_vessel_57 (g_c dX8_vessel_58 (g_c dX8_vessel_61 (g_c dX8_vessel_62 (g_c dX8_vessel_63 (g_c dX8_vessel_66 (g_c dX8_vessel_67 (g_c dX8_vessel_70 (g_c dX8_vessel_71 g_n)))))))))) rfl rfl ?_
      refine V_iret C dX8_vessel_72 ?_
      exact ⟨by rw [if_pos h9, if_neg (fun z => h20 z)], by rw [if_pos h9, if_neg (fun z => h20 z)]⟩
    · skip
      refine V_blk C (pc' := 25) (σ' := σ) (L' := [some (.ref 63), some (.int size)]) (st' := [.int (-4)]) (g_c dX8_vessel_23 g_n) rfl rfl ?_
      refine V_iret C dX8_vessel_25 ?_
      exact ⟨by rw [if_pos h9, if_pos h20], by rw [if_pos h9, if_pos h20]⟩
  · skip
    refine V_blk C (pc' := 14) (σ' := σ) (L' := [some (.ref 63), some (.int size)]) (st' := [.int (-2)]) (g_c dX8_vessel_12 g_n) rfl rfl ?_
    refine V_iret C dX8_vessel_14 ?_
    exact ⟨by rw [if_neg (fun z => h9 z)], by rw [if_neg (fun z => h9 z)]⟩
set_option maxHeartbeats 4000000 in
set_option maxRecDepth 100000 in
theorem c_X8_drip (σ : gS) (kind what place : Int32) {nd : Nat} (hd : σ 63 15 = nI nd) (hd6 : nd ≤ 6) : g_Met yX8_drip cX8_drip 4 (some .int) 3 kM [.ref 63, .int kind, .int what, .int place] σ (fun rv s => rv = some (.int (if g_in kind 0 5 then (if g_in what 0 99 then (if g_in place 0 7 then (if (σ 63 15) = 6 then (-4) else (((σ 63 15) + 1) - 1)) else (-2)) else (-2)) else (-2))) ∧ s = (if g_in kind 0 5 then (if g_in what 0 99 then (if g_in place 0 7 then (if (σ 63 15) = 6 then σ else (g_up (g_up (g_up (g_up (g_up σ 68 (Int32.toNatClampNeg (σ 63 15)) kind) 69 (Int32.toNatClampNeg (σ 63 15)) (what / 10)) 70 (Int32.toNatClampNeg (σ 63 15)) (what - what / 10 * 10)) 71 (Int32.toNatClampNeg (σ 63 15)) place) 63 15 ((σ 63 15) + 1))) else σ) else σ) else σ)) := by
  refine g_Met.of (own := 8) (L := [some (.ref 63), some (.int kind), some (.int what), some (.int place)]) (by decide) rfl rfl (fun ad => Nat.le_of_ble_eq_true rfl) (fun ad => rfl) (fun X G K C => ?_)
  refine V_blk C (pc' := 6) (σ' := σ) (L' := [some (.ref 63), some (.int kind), some (.int what), some (.int place)]) (st' := [.long 5, .long 0, .long (Int32.toInt64 kind)]) (g_c dX8_drip_0 (g_c dX8_drip_1 (g_c dX8_drip_2 (g_c dX8_drip_3 g_n)))) rfl rfl ?_
  refine V_callSI C cs_X8_110 (c_X8_in32 σ kind 0 5 (by decide) (by decide)) (by decide) (by decide) (fun _ h => h) (As := [.long (Int32.toInt64 kind), .long 0, .long 5]) (rest := []) rfl rfl (Nat.le_of_ble_eq_true rfl) dX8_drip_6 ?_
  refine V_if_eq_b C (tgt := 31) dX8_drip_9 (by decide) (fun h9 => ?_) (fun h9 => ?_)
  · skip
    refine V_blk C (pc' := 33) (σ' := σ) (L' := [some (.ref 63), some (.int kind), some (.int what), some (.int place)]) (st' := [.int (-2)]) (g_c dX8_drip_31 g_n) rfl rfl ?_
    refine V_iret C dX8_drip_33 ?_
    exact ⟨by rw [if_neg (fun z => h9 z)], by rw [if_neg (fun z => h9 z)]⟩
  · skip
    refine V_blk C (pc' := 18) (σ' := σ) (L' := [some (.ref 63), some (.int kind), some (.int what), some (.int place)]) (st' := [.long 99, .long 0, .long (Int32.toInt64 what)]) (g_c dX8_drip_12 (g_c dX8_drip_13 (g_c dX8_drip_14 (g_c dX8_drip_15 g_n)))) rfl rfl ?_
    refine V_callSI C cs_X8_110 (c_X8_in32 σ what 0 99 (by decide) (by decide)) (by decide) (by decide) (fun _ h => h) (As := [.long (Int32.toInt64 what), .long 0, .long 99]) (rest := []) rfl rfl (Nat.le_of_ble_eq_true rfl) dX8_drip_18 ?_
    refine V_if_eq_b C (tgt := 31) dX8_drip_21 (by decide) (fun h21 => ?_) (fun h21 => ?_)
    · skip
      refine V_blk C (pc' := 33) (σ' := σ) (L' := [some (.ref 63), some (.int kind), some (.int what), some (.int place)]) (st' := [.int (-2)]) (g_c dX8_drip_31 g_n) rfl rfl ?_
      refine V_iret C dX8_drip_33 ?_
      exact ⟨by rw [if_pos h9, if_neg (fun z => h21 z)], by rw [if_pos h9, if_neg (fun z => h21 z)]⟩
    · skip
      refine V_blk C (pc' := 25) (σ' := σ) (L' := [some (.ref 63), some (.int kind), some (.int what), some (.int place)]) (st' := [.int place]) (g_c dX8_drip_24 g_n) rfl rfl ?_
      refine V_callSI C cs_X8_144 (c_X8_isPlace σ place) (by decide) (by decide) (fun _ h => h) (As := [.int place]) (rest := []) rfl rfl (Nat.le_of_ble_eq_true rfl) dX8_drip_25 ?_
      refine V_if_ne_b C (tgt := 34) dX8_drip_28 (by decide) (fun h28 => ?_) (fun h28 => ?_)
      · skip
        refine V_blk C (pc' := 40) (σ' := σ) (L' := [some (.ref 63), some (.int kind), some (.int what), some (.int place)]) (st' := [.int 6, .int (σ 63 15)]) (g_c dX8_drip_34 (g_c dX8_drip_35 (g_c dX8_drip_38 g_n))) rfl rfl ?_
        refine V_icmp_ne C (tgt := 46) dX8_drip_40 (by decide) (fun h40 => ?_) (fun h40 => ?_)
        · skip
          refine V_blk C (pc' := 55) (σ' := σ) (L' := [some (.ref 63), some (.int kind), some (.int what), some (.int place)]) (st' := [.int kind, .int (σ 63 15), .ref 68]) (g_c dX8_drip_46 (g_c dX8_drip_47 (g_c dX8_drip_50 (g_c dX8_drip_51 (g_c dX8_drip_54 g_n))))) rfl rfl ?_
          refine V_iast C (k := 68) (n := 6) (by rfl) (by rfl) (g_vpE (N := 6) hd hd6 h40 (by decide)) dX8_drip_55 ?_
          refine V_blk C (pc' := 67) (σ' := (g_up σ 68 (Int32.toNatClampNeg (σ 63 15)) kind)) (L' := [some (.ref 63), some (.int kind), some (.int what), some (.int place)]) (st' := [.int 10, .int what, .int (σ 63 15), .ref 69]) (g_c dX8_drip_56 (g_c dX8_drip_57 (g_c dX8_drip_60 (g_c dX8_drip_61 (g_c dX8_drip_64 (g_c dX8_drip_65 g_n)))))) rfl rfl ?_
          refine V_idiv C (by decide) dX8_drip_67 ?_
          refine V_iast C (k := 69) (n := 6) (by rfl) (by rfl) (g_vpE (N := 6) hd hd6 h40 (by decide)) dX8_drip_68 ?_
          refine V_blk C (pc' := 80) (σ' := (g_up (g_up σ 68 (Int32.toNatClampNeg (σ 63 15)) kind) 69 (Int32.toNatClampNeg (σ 63 15)) (what / 10))) (L' := [some (.ref 63), some (.int kind), some (.int what), some (.int place)]) (st' := [.int 10, .int what, .int (σ 63 15), .ref 70]) (g_c dX8_drip_69 (g_c dX8_drip_70 (g_c dX8_drip_73 (g_c dX8_drip_74 (g_c dX8_drip_77 (g_c dX8_drip_78 g_n)))))) rfl rfl ?_
          refine V_irem C (by decide) dX8_drip_80 ?_
          refine V_iast C (k := 70) (n := 6) (by rfl) (by rfl) (g_vpE (N := 6) hd hd6 h40 (by decide)) dX8_drip_81 ?_
          refine V_blk C (pc' := 91) (σ' := (g_up (g_up (g_up σ 68 (Int32.toNatClampNeg (σ 63 15)) kind) 69 (Int32.toNatClampNeg (σ 63 15)) (what / 10)) 70 (Int32.toNatClampNeg (σ 63 15)) (what - what / 10 * 10))) (L' := [some (.ref 63), some (.int kind), some (.int what), some (.int place)]) (st' := [.int place, .int (σ 63 15), .ref 71]) (g_c dX8_drip_82 (g_c dX8_drip_83 (g_c dX8_drip_86 (g_c dX8_drip_87 (g_c dX8_drip_90 g_n))))) rfl rfl ?_
          refine V_iast C (k := 71) (n := 6) (by rfl) (by rfl) (g_vpE (N := 6) hd hd6 h40 (by decide)) dX8_drip_91 ?_
          refine V_blk C (pc' := 108) (σ' := (g_up (g_up (g_up (g_up (g_up σ 68 (Int32.toNatClampNeg (σ 63 15)) kind) 69 (Int32.toNatClampNeg (σ 63 15)) (what / 10)) 70 (Int32.toNatClampNeg (σ 63 15)) (what - what / 10 * 10)) 71 (Int32.toNatClampNeg (σ 63 15)) place) 63 15 ((σ 63 15) + 1))) (L' := [some (.ref 63), some (.int kind), some (.int what), some (.int place)]) (st' := [.int (((σ 63 15) + 1) - 1)]) (g_c dX8_drip_92 (g_c dX8_drip_93 (g_c dX8_drip_94 (g_c dX8_drip_97 (g_c dX8_drip_98 (g_c dX8_drip_99 (g_c dX8_drip_102 (g_c dX8_drip_103 (g_c dX8_drip_106 (g_c dX8_drip_107 g_n)))))))))) rfl rfl ?_
          refine V_iret C dX8_drip_108 ?_
          exact ⟨by rw [if_pos h9, if_pos h21, if_pos h28, if_neg (fun z => h40 z)], by rw [if_pos h9, if_pos h21, if_pos h28, if_neg (fun z => h40 z)]⟩
        · skip
          refine V_blk C (pc' := 45) (σ' := σ) (L' := [some (.ref 63), some (.int kind), some (.int what), some (.int place)]) (st' := [.int (-4)]) (g_c dX8_drip_43 g_n) rfl rfl ?_
          refine V_iret C dX8_drip_45 ?_
          exact ⟨by rw [if_pos h9, if_pos h21, if_pos h28, if_pos h40], by rw [if_pos h9, if_pos h21, if_pos h28, if_pos h40]⟩
      · skip
        refine V_blk C (pc' := 33) (σ' := σ) (L' := [some (.ref 63), some (.int kind), some (.int what), some (.int place)]) (st' := [.int (-2)]) (g_c dX8_drip_31 g_n) rfl rfl ?_
        refine V_iret C dX8_drip_33 ?_
        exact ⟨by rw [if_pos h9, if_pos h21, if_neg (fun z => h28 z)], by rw [if_pos h9, if_pos h21, if_neg (fun z => h28 z)]⟩
set_option maxHeartbeats 4000000 in
set_option maxRecDepth 100000 in
theorem c_X7_fill (σ : gS) (o v : Int32) {nv : Nat} (hv : σ 1 9 = nI nv) (hv5 : nv ≤ 5) : g_Met yX7_fill cX7_fill 3 (some .int) 3 kX [.ref 0, .int o, .int v] σ (fun rv s => rv = some (.int (if g_in o 0 ((σ 1 9) - 1) then (if g_in v 0 (σ 7 (Int32.toNatClampNeg o)) then (σ 9 (ix o)) else (-2)) else (-2))) ∧ s = (if g_in o 0 ((σ 1 9) - 1) then (if g_in v 0 (σ 7 (Int32.toNatClampNeg o)) then (g_up σ 9 (ix o) v) else σ) else σ)) := by
  refine g_Met.of (own := 7) (L := [some (.ref 0), some (.int o), some (.int v)]) (by decide) rfl rfl (fun ad => Nat.le_of_ble_eq_true rfl) (fun ad => rfl) (fun X G K C => ?_)
  refine V_blk C (pc' := 2) (σ' := σ) (L' := [some (.ref 0), some (.int o), some (.int v)]) (st' := [.int o, .ref 0]) (g_c dX7_fill_0 (g_c dX7_fill_1 g_n)) rfl rfl ?_
  refine V_callVI C cv_X7_137 (c_X7_isVessel σ o) ⟨_, _, _, _, rfl, rfl⟩ (by rfl) (by decide) (by decide) (fun _ h => h) (As := [.int o]) (rest := []) rfl rfl (Nat.le_of_ble_eq_true rfl) dX7_fill_2 ?_
  refine V_if_eq_b C (tgt := 25) dX7_fill_5 (by decide) (fun h5 => ?_) (fun h5 => ?_)
  · skip
    refine V_blk C (pc' := 27) (σ' := σ) (L' := [some (.ref 0), some (.int o), some (.int v)]) (st' := [.int (-2)]) (g_c dX7_fill_25 g_n) rfl rfl ?_
    refine V_iret C dX7_fill_27 ?_
    exact ⟨by rw [if_neg (fun z => h5 z)], by rw [if_neg (fun z => h5 z)]⟩
  · skip
    refine V_blk C (pc' := 18) (σ' := σ) (L' := [some (.ref 0), some (.int o), some (.int v)]) (st' := [.int o, .ref 7, .int 0, .int v]) (g_c dX7_fill_8 (g_c dX7_fill_9 (g_c dX7_fill_10 (g_c dX7_fill_11 (g_c dX7_fill_14 (g_c dX7_fill_17 g_n)))))) rfl rfl ?_
    refine V_iald C (k := 7) (n := 5) (by rfl) (by rfl) (g_vp h5 hv hv5 (by decide)) dX7_fill_18 ?_
    refine V_callSI C cs_X7_85 (c_X7_isIn σ v 0 (σ 7 (Int32.toNatClampNeg o))) (by decide) (by decide) (fun _ h => h) (As := [.int v, .int 0, .int (σ 7 (Int32.toNatClampNeg o))]) (rest := []) rfl rfl (Nat.le_of_ble_eq_true rfl) dX7_fill_19 ?_
    refine V_if_ne_b C (tgt := 28) dX7_fill_22 (by decide) (fun h22 => ?_) (fun h22 => ?_)
    · skip
      refine V_blk C (pc' := 37) (σ' := σ) (L' := [some (.ref 0), some (.int o), some (.int v)]) (st' := [.int v, .int o, .ref 9]) (g_c dX7_fill_28 (g_c dX7_fill_29 (g_c dX7_fill_32 (g_c dX7_fill_35 (g_c dX7_fill_36 g_n))))) rfl rfl ?_
      refine V_callSI C cs_X7_93 (c_X7_swapped_9 σ o v (g_vp h5 hv hv5 (by decide))) (by decide) (by decide) (fun _ h => h) (As := [.ref 9, .int o, .int v]) (rest := []) rfl rfl (Nat.le_of_ble_eq_true rfl) dX7_fill_37 ?_
      refine V_iret C dX7_fill_40 ?_
      exact ⟨by rw [if_pos h5, if_pos h22], by rw [if_pos h5, if_pos h22]⟩
    · skip
      refine V_blk C (pc' := 27) (σ' := σ) (L' := [some (.ref 0), some (.int o), some (.int v)]) (st' := [.int (-2)]) (g_c dX7_fill_25 g_n) rfl rfl ?_
      refine V_iret C dX7_fill_27 ?_
      exact ⟨by rw [if_pos h5, if_neg (fun z => h22 z)], by rw [if_pos h5, if_neg (fun z => h22 z)]⟩
set_option maxHeartbeats 4000000 in
set_option maxRecDepth 100000 in
theorem c_X8_fill (σ : gS) (o v : Int32) {nv : Nat} (hv : σ 63 19 = nI nv) (hv5 : nv ≤ 5) : g_Met yX8_fill cX8_fill 4 (some .int) 3 kM [.ref 63, .int o, .int v] σ (fun rv s => rv = some (.int (if g_in o 0 ((σ 63 19) - 1) then (if g_in v 0 (σ 72 (Int32.toNatClampNeg o)) then (σ 74 (ix o)) else (-2)) else (-2))) ∧ s = (if g_in o 0 ((σ 63 19) - 1) then (if g_in v 0 (σ 72 (Int32.toNatClampNeg o)) then (g_up σ 74 (ix o) v) else σ) else σ)) := by
  refine g_Met.of (own := 8) (L := [some (.ref 63), some (.int o), some (.int v), none]) (by decide) rfl rfl (fun ad => Nat.le_of_ble_eq_true rfl) (fun ad => rfl) (fun X G K C => ?_)
  refine V_blk C (pc' := 2) (σ' := σ) (L' := [some (.ref 63), some (.int o), some (.int v), none]) (st' := [.int o, .ref 63]) (g_c dX8_fill_0 (g_c dX8_fill_1 g_n)) rfl rfl ?_
  refine V_callVI C cv_X8_147 (c_X8_isVessel σ o) ⟨_, _, _, _, rfl, rfl⟩ (by rfl) (by decide) (by decide) (fun _ h => h) (As := [.int o]) (rest := []) rfl rfl (Nat.le_of_ble_eq_true rfl) dX8_fill_2 ?_
  refine V_if_eq_b C (tgt := 24) dX8_fill_5 (by decide) (fun h5 => ?_) (fun h5 => ?_)
  · skip
    refine V_blk C (pc' := 26) (σ' := σ) (L' := [some (.ref 63), some (.int o), some (.int v), none]) (st' := [.int (-2)]) (g_c dX8_fill_24 g_n) rfl rfl ?_
    refine V_iret C dX8_fill_26 ?_
    exact ⟨by rw [if_neg (fun z => h5 z)], by rw [if_neg (fun z => h5 z)]⟩
  · skip
    refine V_blk C (pc' := 16) (σ' := σ) (L' := [some (.ref 63), some (.int o), some (.int v), none]) (st' := [.int o, .ref 72, .long 0, .long (Int32.toInt64 v)]) (g_c dX8_fill_8 (g_c dX8_fill_9 (g_c dX8_fill_10 (g_c dX8_fill_11 (g_c dX8_fill_12 (g_c dX8_fill_15 g_n)))))) rfl rfl ?_
    refine V_iald C (k := 72) (n := 5) (by rfl) (by rfl) (g_vp h5 hv hv5 (by decide)) dX8_fill_16 ?_
    refine V_blk C (pc' := 18) (σ' := σ) (L' := [some (.ref 63), some (.int o), some (.int v), none]) (st' := [.long (Int32.toInt64 (σ 72 (Int32.toNatClampNeg o))), .long 0, .long (Int32.toInt64 v)]) (g_c dX8_fill_17 g_n) rfl rfl ?_
    refine V_callSI C cs_X8_110 (c_X8_in32 σ v 0 (σ 72 (Int32.toNatClampNeg o)) (by decide) rfl) (by decide) (by decide) (fun _ h => h) (As := [.long (Int32.toInt64 v), .long 0, .long (Int32.toInt64 (σ 72 (Int32.toNatClampNeg o)))]) (rest := []) rfl rfl (Nat.le_of_ble_eq_true rfl) dX8_fill_18 ?_
    refine V_if_ne_b C (tgt := 27) dX8_fill_21 (by decide) (fun h21 => ?_) (fun h21 => ?_)
    · skip
      refine V_blk C (pc' := 32) (σ' := σ) (L' := [some (.ref 63), some (.int o), some (.int v), none]) (st' := [.int o, .ref 74]) (g_c dX8_fill_27 (g_c dX8_fill_28 (g_c dX8_fill_31 g_n))) rfl rfl ?_
      refine V_iald C (k := 74) (n := 5) (by rfl) (by rfl) (g_vp h5 hv hv5 (by decide)) dX8_fill_32 ?_
      refine V_blk C (pc' := 40) (σ' := σ) (L' := [some (.ref 63), some (.int o), some (.int v), some (.int (σ 74 (Int32.toNatClampNeg o)))]) (st' := [.int v, .int o, .ref 74]) (g_c dX8_fill_33 (g_c dX8_fill_34 (g_c dX8_fill_35 (g_c dX8_fill_38 (g_c dX8_fill_39 g_n))))) rfl rfl ?_
      refine V_iast C (k := 74) (n := 5) (by rfl) (by rfl) (g_vp h5 hv hv5 (by decide)) dX8_fill_40 ?_
      refine V_blk C (pc' := 42) (σ' := (g_up σ 74 (Int32.toNatClampNeg o) v)) (L' := [some (.ref 63), some (.int o), some (.int v), some (.int (σ 74 (Int32.toNatClampNeg o)))]) (st' := [.int (σ 74 (Int32.toNatClampNeg o))]) (g_c dX8_fill_41 g_n) rfl rfl ?_
      refine V_iret C dX8_fill_42 ?_
      exact ⟨by rw [if_pos h5, if_pos h21], by rw [if_pos h5, if_pos h21]⟩
    · skip
      refine V_blk C (pc' := 26) (σ' := σ) (L' := [some (.ref 63), some (.int o), some (.int v), none]) (st' := [.int (-2)]) (g_c dX8_fill_24 g_n) rfl rfl ?_
      refine V_iret C dX8_fill_26 ?_
      exact ⟨by rw [if_pos h5, if_neg (fun z => h21 z)], by rw [if_pos h5, if_neg (fun z => h21 z)]⟩
set_option maxHeartbeats 4000000 in
set_option maxRecDepth 100000 in
theorem c_X7_told0 (σ : gS) (o : Int32) {nd : Nat} (hd : σ 1 8 = nI nd) (hd6 : nd ≤ 6) : g_Met yX7_told cX7_told 3 (some .int) 3 kX [.ref 0, .int o, .int 0] σ (fun rv s => rv = some (.int (if g_in o 0 ((σ 1 8) - 1) then (σ 3 (ix o)) else (-100))) ∧ s = σ) := by
  refine g_Met.of (own := 7) (L := [some (.ref 0), some (.int o), some (.int 0)]) (by decide) rfl rfl (fun ad => Nat.le_of_ble_eq_true rfl) (fun ad => rfl) (fun X G K C => ?_)
  refine V_blk C (pc' := 3) (σ' := σ) (L' := [some (.ref 0), some (.int o), some (.int 0)]) (st' := [.int 3, .int 0, .int 0]) (g_c dX7_told_0 (g_c dX7_told_1 (g_c dX7_told_2 g_n))) rfl rfl ?_
  refine V_callSI C cs_X7_85 (c_X7_isIn σ 0 0 3) (by decide) (by decide) (fun _ h => h) (As := [.int 0, .int 0, .int 3]) (rest := []) rfl rfl (Nat.le_of_ble_eq_true rfl) dX7_told_3 ?_
  refine V_if_eq_b C (tgt := 20) dX7_told_6 (by decide) (fun z => absurd (by decide) z) (fun _ => ?_)
  refine V_blk C (pc' := 11) (σ' := σ) (L' := [some (.ref 0), some (.int o), some (.int 0)]) (st' := [.int o, .ref 0]) (g_c dX7_told_9 (g_c dX7_told_10 g_n)) rfl rfl ?_
  refine V_callVI C cv_X7_101 (c_X7_isDrip σ o) ⟨_, _, _, _, rfl, rfl⟩ (by rfl) (by decide) (by decide) (fun _ h => h) (As := [.int o]) (rest := []) rfl rfl (Nat.le_of_ble_eq_true rfl) dX7_told_11 ?_
  refine V_if_ne_b C (tgt := 31) dX7_told_14 (by decide) (fun h14 => ?_) (fun h14 => ?_)
  · skip
    refine V_blk C (pc' := 32) (σ' := σ) (L' := [some (.ref 0), some (.int o), some (.int 0)]) (st' := [.int 0]) (g_c dX7_told_31 g_n) rfl rfl ?_
    refine V_tsw C 0 44 (tgt := 76) dX7_told_32 (by decide) (by decide) (by decide) (by decide) (fun _ => ?_) (fun z => absurd rfl z)
    refine V_blk C (pc' := 84) (σ' := σ) (L' := [some (.ref 0), some (.int o), some (.int 0)]) (st' := [.int o, .ref 3]) (g_c dX7_told_76 (g_c dX7_told_77 (g_c dX7_told_80 (g_c dX7_told_83 g_n)))) rfl rfl ?_
    refine V_iald C (k := 3) (n := 6) (by rfl) (by rfl) (g_vp h14 hd hd6 (by decide)) dX7_told_84 ?_
    refine V_iret C dX7_told_85 ?_
    exact ⟨by rw [if_pos h14], rfl⟩
  · skip
    refine V_goto C (tgt := 28) dX7_told_17 (by decide) ?_
    refine V_blk C (pc' := 30) (σ' := σ) (L' := [some (.ref 0), some (.int o), some (.int 0)]) (st' := [.int (-100)]) (g_c dX7_told_28 g_n) rfl rfl ?_
    refine V_iret C dX7_told_30 ?_
    exact ⟨by rw [if_neg (fun z => h14 z)], rfl⟩
set_option maxHeartbeats 4000000 in
set_option maxRecDepth 100000 in
theorem c_X8_told0 (σ : gS) (o : Int32) {nd : Nat} (hd : σ 63 15 = nI nd) (hd6 : nd ≤ 6) : g_Met yX8_told cX8_told 3 (some .int) 3 kM [.ref 63, .int o, .int 0] σ (fun rv s => rv = some (.int (if g_in o 0 ((σ 63 15) - 1) then (σ 68 (ix o)) else (-100))) ∧ s = σ) := by
  refine g_Met.of (own := 8) (L := [some (.ref 63), some (.int o), some (.int 0)]) (by decide) rfl rfl (fun ad => Nat.le_of_ble_eq_true rfl) (fun ad => rfl) (fun X G K C => ?_)
  refine V_blk C (pc' := 6) (σ' := σ) (L' := [some (.ref 63), some (.int o), some (.int 0)]) (st' := [.long 6, .long 0, .long (Int32.toInt64 0)]) (g_c dX8_told_0 (g_c dX8_told_1 (g_c dX8_told_2 (g_c dX8_told_3 g_n)))) rfl rfl ?_
  refine V_callSI C cs_X8_110 (c_X8_in32 σ 0 0 6 (by decide) (by decide)) (by decide) (by decide) (fun _ h => h) (As := [.long (Int32.toInt64 0), .long 0, .long 6]) (rest := []) rfl rfl (Nat.le_of_ble_eq_true rfl) dX8_told_6 ?_
  refine V_if_eq_b C (tgt := 36) dX8_told_9 (by decide) (fun z => absurd (by decide) z) (fun _ => ?_)
  refine V_blk C (pc' := 14) (σ' := σ) (L' := [some (.ref 63), some (.int o), some (.int 0)]) (st' := [.int 4, .int 0]) (g_c dX8_told_12 (g_c dX8_told_13 g_n)) rfl rfl ?_
  refine V_icmp_ge2 C (tgt := 28) dX8_told_14 (by decide) (fun z => absurd z (by decide)) (fun _ => ?_)
  refine V_blk C (pc' := 19) (σ' := σ) (L' := [some (.ref 63), some (.int o), some (.int 0)]) (st' := [.int o, .ref 63]) (g_c dX8_told_17 (g_c dX8_told_18 g_n)) rfl rfl ?_
  refine V_callVI C cv_X8_127 (c_X8_isDrip σ o) ⟨_, _, _, _, rfl, rfl⟩ (by rfl) (by decide) (by decide) (fun _ h => h) (As := [.int o]) (rest := []) rfl rfl (Nat.le_of_ble_eq_true rfl) dX8_told_19 ?_
  refine V_if_eq_b C (tgt := 36) dX8_told_22 (by decide) (fun h22 => ?_) (fun h22 => ?_)
  · skip
    refine V_blk C (pc' := 38) (σ' := σ) (L' := [some (.ref 63), some (.int o), some (.int 0)]) (st' := [.int (-100)]) (g_c dX8_told_36 g_n) rfl rfl ?_
    refine V_iret C dX8_told_38 ?_
    exact ⟨by rw [if_neg (fun z => h22 z)], rfl⟩
  · skip
    refine V_goto C (tgt := 39) dX8_told_25 (by decide) ?_
    refine V_blk C (pc' := 41) (σ' := σ) (L' := [some (.ref 63), some (.int o), some (.int 0)]) (st' := [.int 4, .int 0]) (g_c dX8_told_39 (g_c dX8_told_40 g_n)) rfl rfl ?_
    refine V_icmp_ge2 C (tgt := 92) dX8_told_41 (by decide) (fun z => absurd z (by decide)) (fun _ => ?_)
    refine V_blk C (pc' := 45) (σ' := σ) (L' := [some (.ref 63), some (.int o), some (.int 0)]) (st' := [.int 0]) (g_c dX8_told_44 g_n) rfl rfl ?_
    refine V_if_ne C (tgt := 57) dX8_told_45 (by decide) (fun z => absurd z (by decide)) (fun _ => ?_)
    refine V_blk C (pc' := 53) (σ' := σ) (L' := [some (.ref 63), some (.int o), some (.int 0)]) (st' := [.int o, .ref 68]) (g_c dX8_told_48 (g_c dX8_told_49 (g_c dX8_told_52 g_n))) rfl rfl ?_
    refine V_iald C (k := 68) (n := 6) (by rfl) (by rfl) (g_vp h22 hd hd6 (by decide)) dX8_told_53 ?_
    refine V_goto C (tgt := 91) dX8_told_54 (by decide) ?_
    refine V_iret C dX8_told_91 ?_
    exact ⟨by rw [if_pos h22], rfl⟩
set_option maxHeartbeats 4000000 in
set_option maxRecDepth 100000 in
theorem c_X7_told1 (σ : gS) (o : Int32) {nd : Nat} (hd : σ 1 8 = nI nd) (hd6 : nd ≤ 6) : g_Met yX7_told cX7_told 3 (some .int) 3 kX [.ref 0, .int o, .int 1] σ (fun rv s => rv = some (.int (if g_in o 0 ((σ 1 8) - 1) then (σ 4 (ix o)) else (-100))) ∧ s = σ) := by
  refine g_Met.of (own := 7) (L := [some (.ref 0), some (.int o), some (.int 1)]) (by decide) rfl rfl (fun ad => Nat.le_of_ble_eq_true rfl) (fun ad => rfl) (fun X G K C => ?_)
  refine V_blk C (pc' := 3) (σ' := σ) (L' := [some (.ref 0), some (.int o), some (.int 1)]) (st' := [.int 3, .int 0, .int 1]) (g_c dX7_told_0 (g_c dX7_told_1 (g_c dX7_told_2 g_n))) rfl rfl ?_
  refine V_callSI C cs_X7_85 (c_X7_isIn σ 1 0 3) (by decide) (by decide) (fun _ h => h) (As := [.int 1, .int 0, .int 3]) (rest := []) rfl rfl (Nat.le_of_ble_eq_true rfl) dX7_told_3 ?_
  refine V_if_eq_b C (tgt := 20) dX7_told_6 (by decide) (fun z => absurd (by decide) z) (fun _ => ?_)
  refine V_blk C (pc' := 11) (σ' := σ) (L' := [some (.ref 0), some (.int o), some (.int 1)]) (st' := [.int o, .ref 0]) (g_c dX7_told_9 (g_c dX7_told_10 g_n)) rfl rfl ?_
  refine V_callVI C cv_X7_101 (c_X7_isDrip σ o) ⟨_, _, _, _, rfl, rfl⟩ (by rfl) (by decide) (by decide) (fun _ h => h) (As := [.int o]) (rest := []) rfl rfl (Nat.le_of_ble_eq_true rfl) dX7_told_11 ?_
  refine V_if_ne_b C (tgt := 31) dX7_told_14 (by decide) (fun h14 => ?_) (fun h14 => ?_)
  · skip
    refine V_blk C (pc' := 32) (σ' := σ) (L' := [some (.ref 0), some (.int o), some (.int 1)]) (st' := [.int 1]) (g_c dX7_told_31 g_n) rfl rfl ?_
    refine V_tsw C 1 54 (tgt := 86) dX7_told_32 (by decide) (by decide) (by decide) (by decide) (fun _ => ?_) (fun z => absurd rfl z)
    refine V_blk C (pc' := 94) (σ' := σ) (L' := [some (.ref 0), some (.int o), some (.int 1)]) (st' := [.int o, .ref 4]) (g_c dX7_told_86 (g_c dX7_told_87 (g_c dX7_told_90 (g_c dX7_told_93 g_n)))) rfl rfl ?_
    refine V_iald C (k := 4) (n := 6) (by rfl) (by rfl) (g_vp h14 hd hd6 (by decide)) dX7_told_94 ?_
    refine V_iret C dX7_told_95 ?_
    exact ⟨by rw [if_pos h14], rfl⟩
  · skip
    refine V_goto C (tgt := 28) dX7_told_17 (by decide) ?_
    refine V_blk C (pc' := 30) (σ' := σ) (L' := [some (.ref 0), some (.int o), some (.int 1)]) (st' := [.int (-100)]) (g_c dX7_told_28 g_n) rfl rfl ?_
    refine V_iret C dX7_told_30 ?_
    exact ⟨by rw [if_neg (fun z => h14 z)], rfl⟩
set_option maxHeartbeats 4000000 in
set_option maxRecDepth 100000 in
theorem c_X8_told1 (σ : gS) (o : Int32) {nd : Nat} (hd : σ 63 15 = nI nd) (hd6 : nd ≤ 6) : g_Met yX8_told cX8_told 3 (some .int) 3 kM [.ref 63, .int o, .int 1] σ (fun rv s => rv = some (.int (if g_in o 0 ((σ 63 15) - 1) then (σ 69 (ix o)) else (-100))) ∧ s = σ) := by
  refine g_Met.of (own := 8) (L := [some (.ref 63), some (.int o), some (.int 1)]) (by decide) rfl rfl (fun ad => Nat.le_of_ble_eq_true rfl) (fun ad => rfl) (fun X G K C => ?_)
  refine V_blk C (pc' := 6) (σ' := σ) (L' := [some (.ref 63), some (.int o), some (.int 1)]) (st' := [.long 6, .long 0, .long (Int32.toInt64 1)]) (g_c dX8_told_0 (g_c dX8_told_1 (g_c dX8_told_2 (g_c dX8_told_3 g_n)))) rfl rfl ?_
  refine V_callSI C cs_X8_110 (c_X8_in32 σ 1 0 6 (by decide) (by decide)) (by decide) (by decide) (fun _ h => h) (As := [.long (Int32.toInt64 1), .long 0, .long 6]) (rest := []) rfl rfl (Nat.le_of_ble_eq_true rfl) dX8_told_6 ?_
  refine V_if_eq_b C (tgt := 36) dX8_told_9 (by decide) (fun z => absurd (by decide) z) (fun _ => ?_)
  refine V_blk C (pc' := 14) (σ' := σ) (L' := [some (.ref 63), some (.int o), some (.int 1)]) (st' := [.int 4, .int 1]) (g_c dX8_told_12 (g_c dX8_told_13 g_n)) rfl rfl ?_
  refine V_icmp_ge2 C (tgt := 28) dX8_told_14 (by decide) (fun z => absurd z (by decide)) (fun _ => ?_)
  refine V_blk C (pc' := 19) (σ' := σ) (L' := [some (.ref 63), some (.int o), some (.int 1)]) (st' := [.int o, .ref 63]) (g_c dX8_told_17 (g_c dX8_told_18 g_n)) rfl rfl ?_
  refine V_callVI C cv_X8_127 (c_X8_isDrip σ o) ⟨_, _, _, _, rfl, rfl⟩ (by rfl) (by decide) (by decide) (fun _ h => h) (As := [.int o]) (rest := []) rfl rfl (Nat.le_of_ble_eq_true rfl) dX8_told_19 ?_
  refine V_if_eq_b C (tgt := 36) dX8_told_22 (by decide) (fun h22 => ?_) (fun h22 => ?_)
  · skip
    refine V_blk C (pc' := 38) (σ' := σ) (L' := [some (.ref 63), some (.int o), some (.int 1)]) (st' := [.int (-100)]) (g_c dX8_told_36 g_n) rfl rfl ?_
    refine V_iret C dX8_told_38 ?_
    exact ⟨by rw [if_neg (fun z => h22 z)], rfl⟩
  · skip
    refine V_goto C (tgt := 39) dX8_told_25 (by decide) ?_
    refine V_blk C (pc' := 41) (σ' := σ) (L' := [some (.ref 63), some (.int o), some (.int 1)]) (st' := [.int 4, .int 1]) (g_c dX8_told_39 (g_c dX8_told_40 g_n)) rfl rfl ?_
    refine V_icmp_ge2 C (tgt := 92) dX8_told_41 (by decide) (fun z => absurd z (by decide)) (fun _ => ?_)
    refine V_blk C (pc' := 45) (σ' := σ) (L' := [some (.ref 63), some (.int o), some (.int 1)]) (st' := [.int 1]) (g_c dX8_told_44 g_n) rfl rfl ?_
    refine V_if_ne C (tgt := 57) dX8_told_45 (by decide) (fun _ => ?_) (fun z => absurd z (by decide))
    refine V_blk C (pc' := 59) (σ' := σ) (L' := [some (.ref 63), some (.int o), some (.int 1)]) (st' := [.int 1, .int 1]) (g_c dX8_told_57 (g_c dX8_told_58 g_n)) rfl rfl ?_
    refine V_icmp_ne C (tgt := 71) dX8_told_59 (by decide) (fun z => absurd z (by decide)) (fun _ => ?_)
    refine V_blk C (pc' := 67) (σ' := σ) (L' := [some (.ref 63), some (.int o), some (.int 1)]) (st' := [.int o, .ref 69]) (g_c dX8_told_62 (g_c dX8_told_63 (g_c dX8_told_66 g_n))) rfl rfl ?_
    refine V_iald C (k := 69) (n := 6) (by rfl) (by rfl) (g_vp h22 hd hd6 (by decide)) dX8_told_67 ?_
    refine V_goto C (tgt := 91) dX8_told_68 (by decide) ?_
    refine V_iret C dX8_told_91 ?_
    exact ⟨by rw [if_pos h22], rfl⟩
set_option maxHeartbeats 4000000 in
set_option maxRecDepth 100000 in
theorem c_X7_told2 (σ : gS) (o : Int32) {nd : Nat} (hd : σ 1 8 = nI nd) (hd6 : nd ≤ 6) : g_Met yX7_told cX7_told 3 (some .int) 3 kX [.ref 0, .int o, .int 2] σ (fun rv s => rv = some (.int (if g_in o 0 ((σ 1 8) - 1) then (σ 5 (ix o)) else (-100))) ∧ s = σ) := by
  refine g_Met.of (own := 7) (L := [some (.ref 0), some (.int o), some (.int 2)]) (by decide) rfl rfl (fun ad => Nat.le_of_ble_eq_true rfl) (fun ad => rfl) (fun X G K C => ?_)
  refine V_blk C (pc' := 3) (σ' := σ) (L' := [some (.ref 0), some (.int o), some (.int 2)]) (st' := [.int 3, .int 0, .int 2]) (g_c dX7_told_0 (g_c dX7_told_1 (g_c dX7_told_2 g_n))) rfl rfl ?_
  refine V_callSI C cs_X7_85 (c_X7_isIn σ 2 0 3) (by decide) (by decide) (fun _ h => h) (As := [.int 2, .int 0, .int 3]) (rest := []) rfl rfl (Nat.le_of_ble_eq_true rfl) dX7_told_3 ?_
  refine V_if_eq_b C (tgt := 20) dX7_told_6 (by decide) (fun z => absurd (by decide) z) (fun _ => ?_)
  refine V_blk C (pc' := 11) (σ' := σ) (L' := [some (.ref 0), some (.int o), some (.int 2)]) (st' := [.int o, .ref 0]) (g_c dX7_told_9 (g_c dX7_told_10 g_n)) rfl rfl ?_
  refine V_callVI C cv_X7_101 (c_X7_isDrip σ o) ⟨_, _, _, _, rfl, rfl⟩ (by rfl) (by decide) (by decide) (fun _ h => h) (As := [.int o]) (rest := []) rfl rfl (Nat.le_of_ble_eq_true rfl) dX7_told_11 ?_
  refine V_if_ne_b C (tgt := 31) dX7_told_14 (by decide) (fun h14 => ?_) (fun h14 => ?_)
  · skip
    refine V_blk C (pc' := 32) (σ' := σ) (L' := [some (.ref 0), some (.int o), some (.int 2)]) (st' := [.int 2]) (g_c dX7_told_31 g_n) rfl rfl ?_
    refine V_tsw C 2 64 (tgt := 96) dX7_told_32 (by decide) (by decide) (by decide) (by decide) (fun _ => ?_) (fun z => absurd rfl z)
    refine V_blk C (pc' := 104) (σ' := σ) (L' := [some (.ref 0), some (.int o), some (.int 2)]) (st' := [.int o, .ref 5]) (g_c dX7_told_96 (g_c dX7_told_97 (g_c dX7_told_100 (g_c dX7_told_103 g_n)))) rfl rfl ?_
    refine V_iald C (k := 5) (n := 6) (by rfl) (by rfl) (g_vp h14 hd hd6 (by decide)) dX7_told_104 ?_
    refine V_iret C dX7_told_105 ?_
    exact ⟨by rw [if_pos h14], rfl⟩
  · skip
    refine V_goto C (tgt := 28) dX7_told_17 (by decide) ?_
    refine V_blk C (pc' := 30) (σ' := σ) (L' := [some (.ref 0), some (.int o), some (.int 2)]) (st' := [.int (-100)]) (g_c dX7_told_28 g_n) rfl rfl ?_
    refine V_iret C dX7_told_30 ?_
    exact ⟨by rw [if_neg (fun z => h14 z)], rfl⟩
set_option maxHeartbeats 4000000 in
set_option maxRecDepth 100000 in
theorem c_X8_told2 (σ : gS) (o : Int32) {nd : Nat} (hd : σ 63 15 = nI nd) (hd6 : nd ≤ 6) : g_Met yX8_told cX8_told 3 (some .int) 3 kM [.ref 63, .int o, .int 2] σ (fun rv s => rv = some (.int (if g_in o 0 ((σ 63 15) - 1) then (σ 70 (ix o)) else (-100))) ∧ s = σ) := by
  refine g_Met.of (own := 8) (L := [some (.ref 63), some (.int o), some (.int 2)]) (by decide) rfl rfl (fun ad => Nat.le_of_ble_eq_true rfl) (fun ad => rfl) (fun X G K C => ?_)
  refine V_blk C (pc' := 6) (σ' := σ) (L' := [some (.ref 63), some (.int o), some (.int 2)]) (st' := [.long 6, .long 0, .long (Int32.toInt64 2)]) (g_c dX8_told_0 (g_c dX8_told_1 (g_c dX8_told_2 (g_c dX8_told_3 g_n)))) rfl rfl ?_
  refine V_callSI C cs_X8_110 (c_X8_in32 σ 2 0 6 (by decide) (by decide)) (by decide) (by decide) (fun _ h => h) (As := [.long (Int32.toInt64 2), .long 0, .long 6]) (rest := []) rfl rfl (Nat.le_of_ble_eq_true rfl) dX8_told_6 ?_
  refine V_if_eq_b C (tgt := 36) dX8_told_9 (by decide) (fun z => absurd (by decide) z) (fun _ => ?_)
  refine V_blk C (pc' := 14) (σ' := σ) (L' := [some (.ref 63), some (.int o), some (.int 2)]) (st' := [.int 4, .int 2]) (g_c dX8_told_12 (g_c dX8_told_13 g_n)) rfl rfl ?_
  refine V_icmp_ge2 C (tgt := 28) dX8_told_14 (by decide) (fun z => absurd z (by decide)) (fun _ => ?_)
  refine V_blk C (pc' := 19) (σ' := σ) (L' := [some (.ref 63), some (.int o), some (.int 2)]) (st' := [.int o, .ref 63]) (g_c dX8_told_17 (g_c dX8_told_18 g_n)) rfl rfl ?_
  refine V_callVI C cv_X8_127 (c_X8_isDrip σ o) ⟨_, _, _, _, rfl, rfl⟩ (by rfl) (by decide) (by decide) (fun _ h => h) (As := [.int o]) (rest := []) rfl rfl (Nat.le_of_ble_eq_true rfl) dX8_told_19 ?_
  refine V_if_eq_b C (tgt := 36) dX8_told_22 (by decide) (fun h22 => ?_) (fun h22 => ?_)
  · skip
    refine V_blk C (pc' := 38) (σ' := σ) (L' := [some (.ref 63), some (.int o), some (.int 2)]) (st' := [.int (-100)]) (g_c dX8_told_36 g_n) rfl rfl ?_
    refine V_iret C dX8_told_38 ?_
    exact ⟨by rw [if_neg (fun z => h22 z)], rfl⟩
  · skip
    refine V_goto C (tgt := 39) dX8_told_25 (by decide) ?_
    refine V_blk C (pc' := 41) (σ' := σ) (L' := [some (.ref 63), some (.int o), some (.int 2)]) (st' := [.int 4, .int 2]) (g_c dX8_told_39 (g_c dX8_told_40 g_n)) rfl rfl ?_
    refine V_icmp_ge2 C (tgt := 92) dX8_told_41 (by decide) (fun z => absurd z (by decide)) (fun _ => ?_)
    refine V_blk C (pc' := 45) (σ' := σ) (L' := [some (.ref 63), some (.int o), some (.int 2)]) (st' := [.int 2]) (g_c dX8_told_44 g_n) rfl rfl ?_
    refine V_if_ne C (tgt := 57) dX8_told_45 (by decide) (fun _ => ?_) (fun z => absurd z (by decide))
    refine V_blk C (pc' := 59) (σ' := σ) (L' := [some (.ref 63), some (.int o), some (.int 2)]) (st' := [.int 1, .int 2]) (g_c dX8_told_57 (g_c dX8_told_58 g_n)) rfl rfl ?_
    refine V_icmp_ne C (tgt := 71) dX8_told_59 (by decide) (fun _ => ?_) (fun z => absurd z (by decide))
    refine V_blk C (pc' := 73) (σ' := σ) (L' := [some (.ref 63), some (.int o), some (.int 2)]) (st' := [.int 2, .int 2]) (g_c dX8_told_71 (g_c dX8_told_72 g_n)) rfl rfl ?_
    refine V_icmp_ne C (tgt := 85) dX8_told_73 (by decide) (fun z => absurd z (by decide)) (fun _ => ?_)
    refine V_blk C (pc' := 81) (σ' := σ) (L' := [some (.ref 63), some (.int o), some (.int 2)]) (st' := [.int o, .ref 70]) (g_c dX8_told_76 (g_c dX8_told_77 (g_c dX8_told_80 g_n))) rfl rfl ?_
    refine V_iald C (k := 70) (n := 6) (by rfl) (by rfl) (g_vp h22 hd hd6 (by decide)) dX8_told_81 ?_
    refine V_goto C (tgt := 91) dX8_told_82 (by decide) ?_
    refine V_iret C dX8_told_91 ?_
    exact ⟨by rw [if_pos h22], rfl⟩
set_option maxHeartbeats 4000000 in
set_option maxRecDepth 100000 in
theorem c_X7_told3 (σ : gS) (o : Int32) {nd : Nat} (hd : σ 1 8 = nI nd) (hd6 : nd ≤ 6) : g_Met yX7_told cX7_told 3 (some .int) 3 kX [.ref 0, .int o, .int 3] σ (fun rv s => rv = some (.int (if g_in o 0 ((σ 1 8) - 1) then (σ 6 (ix o)) else (-100))) ∧ s = σ) := by
  refine g_Met.of (own := 7) (L := [some (.ref 0), some (.int o), some (.int 3)]) (by decide) rfl rfl (fun ad => Nat.le_of_ble_eq_true rfl) (fun ad => rfl) (fun X G K C => ?_)
  refine V_blk C (pc' := 3) (σ' := σ) (L' := [some (.ref 0), some (.int o), some (.int 3)]) (st' := [.int 3, .int 0, .int 3]) (g_c dX7_told_0 (g_c dX7_told_1 (g_c dX7_told_2 g_n))) rfl rfl ?_
  refine V_callSI C cs_X7_85 (c_X7_isIn σ 3 0 3) (by decide) (by decide) (fun _ h => h) (As := [.int 3, .int 0, .int 3]) (rest := []) rfl rfl (Nat.le_of_ble_eq_true rfl) dX7_told_3 ?_
  refine V_if_eq_b C (tgt := 20) dX7_told_6 (by decide) (fun z => absurd (by decide) z) (fun _ => ?_)
  refine V_blk C (pc' := 11) (σ' := σ) (L' := [some (.ref 0), some (.int o), some (.int 3)]) (st' := [.int o, .ref 0]) (g_c dX7_told_9 (g_c dX7_told_10 g_n)) rfl rfl ?_
  refine V_callVI C cv_X7_101 (c_X7_isDrip σ o) ⟨_, _, _, _, rfl, rfl⟩ (by rfl) (by decide) (by decide) (fun _ h => h) (As := [.int o]) (rest := []) rfl rfl (Nat.le_of_ble_eq_true rfl) dX7_told_11 ?_
  refine V_if_ne_b C (tgt := 31) dX7_told_14 (by decide) (fun h14 => ?_) (fun h14 => ?_)
  · skip
    refine V_blk C (pc' := 32) (σ' := σ) (L' := [some (.ref 0), some (.int o), some (.int 3)]) (st' := [.int 3]) (g_c dX7_told_31 g_n) rfl rfl ?_
    refine V_tsw C 3 74 (tgt := 106) dX7_told_32 (by decide) (by decide) (by decide) (by decide) (fun _ => ?_) (fun z => absurd rfl z)
    refine V_blk C (pc' := 114) (σ' := σ) (L' := [some (.ref 0), some (.int o), some (.int 3)]) (st' := [.int o, .ref 6]) (g_c dX7_told_106 (g_c dX7_told_107 (g_c dX7_told_110 (g_c dX7_told_113 g_n)))) rfl rfl ?_
    refine V_iald C (k := 6) (n := 6) (by rfl) (by rfl) (g_vp h14 hd hd6 (by decide)) dX7_told_114 ?_
    refine V_iret C dX7_told_115 ?_
    exact ⟨by rw [if_pos h14], rfl⟩
  · skip
    refine V_goto C (tgt := 28) dX7_told_17 (by decide) ?_
    refine V_blk C (pc' := 30) (σ' := σ) (L' := [some (.ref 0), some (.int o), some (.int 3)]) (st' := [.int (-100)]) (g_c dX7_told_28 g_n) rfl rfl ?_
    refine V_iret C dX7_told_30 ?_
    exact ⟨by rw [if_neg (fun z => h14 z)], rfl⟩
set_option maxHeartbeats 4000000 in
set_option maxRecDepth 100000 in
theorem c_X8_told3 (σ : gS) (o : Int32) {nd : Nat} (hd : σ 63 15 = nI nd) (hd6 : nd ≤ 6) : g_Met yX8_told cX8_told 3 (some .int) 3 kM [.ref 63, .int o, .int 3] σ (fun rv s => rv = some (.int (if g_in o 0 ((σ 63 15) - 1) then (σ 71 (ix o)) else (-100))) ∧ s = σ) := by
  refine g_Met.of (own := 8) (L := [some (.ref 63), some (.int o), some (.int 3)]) (by decide) rfl rfl (fun ad => Nat.le_of_ble_eq_true rfl) (fun ad => rfl) (fun X G K C => ?_)
  refine V_blk C (pc' := 6) (σ' := σ) (L' := [some (.ref 63), some (.int o), some (.int 3)]) (st' := [.long 6, .long 0, .long (Int32.toInt64 3)]) (g_c dX8_told_0 (g_c dX8_told_1 (g_c dX8_told_2 (g_c dX8_told_3 g_n)))) rfl rfl ?_
  refine V_callSI C cs_X8_110 (c_X8_in32 σ 3 0 6 (by decide) (by decide)) (by decide) (by decide) (fun _ h => h) (As := [.long (Int32.toInt64 3), .long 0, .long 6]) (rest := []) rfl rfl (Nat.le_of_ble_eq_true rfl) dX8_told_6 ?_
  refine V_if_eq_b C (tgt := 36) dX8_told_9 (by decide) (fun z => absurd (by decide) z) (fun _ => ?_)
  refine V_blk C (pc' := 14) (σ' := σ) (L' := [some (.ref 63), some (.int o), some (.int 3)]) (st' := [.int 4, .int 3]) (g_c dX8_told_12 (g_c dX8_told_13 g_n)) rfl rfl ?_
  refine V_icmp_ge2 C (tgt := 28) dX8_told_14 (by decide) (fun z => absurd z (by decide)) (fun _ => ?_)
  refine V_blk C (pc' := 19) (σ' := σ) (L' := [some (.ref 63), some (.int o), some (.int 3)]) (st' := [.int o, .ref 63]) (g_c dX8_told_17 (g_c dX8_told_18 g_n)) rfl rfl ?_
  refine V_callVI C cv_X8_127 (c_X8_isDrip σ o) ⟨_, _, _, _, rfl, rfl⟩ (by rfl) (by decide) (by decide) (fun _ h => h) (As := [.int o]) (rest := []) rfl rfl (Nat.le_of_ble_eq_true rfl) dX8_told_19 ?_
  refine V_if_eq_b C (tgt := 36) dX8_told_22 (by decide) (fun h22 => ?_) (fun h22 => ?_)
  · skip
    refine V_blk C (pc' := 38) (σ' := σ) (L' := [some (.ref 63), some (.int o), some (.int 3)]) (st' := [.int (-100)]) (g_c dX8_told_36 g_n) rfl rfl ?_
    refine V_iret C dX8_told_38 ?_
    exact ⟨by rw [if_neg (fun z => h22 z)], rfl⟩
  · skip
    refine V_goto C (tgt := 39) dX8_told_25 (by decide) ?_
    refine V_blk C (pc' := 41) (σ' := σ) (L' := [some (.ref 63), some (.int o), some (.int 3)]) (st' := [.int 4, .int 3]) (g_c dX8_told_39 (g_c dX8_told_40 g_n)) rfl rfl ?_
    refine V_icmp_ge2 C (tgt := 92) dX8_told_41 (by decide) (fun z => absurd z (by decide)) (fun _ => ?_)
    refine V_blk C (pc' := 45) (σ' := σ) (L' := [some (.ref 63), some (.int o), some (.int 3)]) (st' := [.int 3]) (g_c dX8_told_44 g_n) rfl rfl ?_
    refine V_if_ne C (tgt := 57) dX8_told_45 (by decide) (fun _ => ?_) (fun z => absurd z (by decide))
    refine V_blk C (pc' := 59) (σ' := σ) (L' := [some (.ref 63), some (.int o), some (.int 3)]) (st' := [.int 1, .int 3]) (g_c dX8_told_57 (g_c dX8_told_58 g_n)) rfl rfl ?_
    refine V_icmp_ne C (tgt := 71) dX8_told_59 (by decide) (fun _ => ?_) (fun z => absurd z (by decide))
    refine V_blk C (pc' := 73) (σ' := σ) (L' := [some (.ref 63), some (.int o), some (.int 3)]) (st' := [.int 2, .int 3]) (g_c dX8_told_71 (g_c dX8_told_72 g_n)) rfl rfl ?_
    refine V_icmp_ne C (tgt := 85) dX8_told_73 (by decide) (fun _ => ?_) (fun z => absurd z (by decide))
    refine V_blk C (pc' := 90) (σ' := σ) (L' := [some (.ref 63), some (.int o), some (.int 3)]) (st' := [.int o, .ref 71]) (g_c dX8_told_85 (g_c dX8_told_86 (g_c dX8_told_89 g_n))) rfl rfl ?_
    refine V_iald C (k := 71) (n := 6) (by rfl) (by rfl) (g_vp h22 hd hd6 (by decide)) dX8_told_90 ?_
    refine V_iret C dX8_told_91 ?_
    exact ⟨by rw [if_pos h22], rfl⟩
set_option maxHeartbeats 4000000 in
set_option maxRecDepth 100000 in
theorem c_X7_told4 (σ : gS) (o : Int32) {nv : Nat} (hv : σ 1 9 = nI nv) (hv5 : nv ≤ 5) : g_Met yX7_told cX7_told 3 (some .int) 3 kX [.ref 0, .int o, .int 4] σ (fun rv s => rv = some (.int (if g_in o 0 ((σ 1 9) - 1) then (σ 7 (ix o)) else (-100))) ∧ s = σ) := by
  refine g_Met.of (own := 7) (L := [some (.ref 0), some (.int o), some (.int 4)]) (by decide) rfl rfl (fun ad => Nat.le_of_ble_eq_true rfl) (fun ad => rfl) (fun X G K C => ?_)
  refine V_blk C (pc' := 3) (σ' := σ) (L' := [some (.ref 0), some (.int o), some (.int 4)]) (st' := [.int 3, .int 0, .int 4]) (g_c dX7_told_0 (g_c dX7_told_1 (g_c dX7_told_2 g_n))) rfl rfl ?_
  refine V_callSI C cs_X7_85 (c_X7_isIn σ 4 0 3) (by decide) (by decide) (fun _ h => h) (As := [.int 4, .int 0, .int 3]) (rest := []) rfl rfl (Nat.le_of_ble_eq_true rfl) dX7_told_3 ?_
  refine V_if_eq_b C (tgt := 20) dX7_told_6 (by decide) (fun _ => ?_) (fun z => absurd z (by decide))
  refine V_blk C (pc' := 22) (σ' := σ) (L' := [some (.ref 0), some (.int o), some (.int 4)]) (st' := [.int o, .ref 0]) (g_c dX7_told_20 (g_c dX7_told_21 g_n)) rfl rfl ?_
  refine V_callVI C cv_X7_137 (c_X7_isVessel σ o) ⟨_, _, _, _, rfl, rfl⟩ (by rfl) (by decide) (by decide) (fun _ h => h) (As := [.int o]) (rest := []) rfl rfl (Nat.le_of_ble_eq_true rfl) dX7_told_22 ?_
  refine V_if_ne_b C (tgt := 31) dX7_told_25 (by decide) (fun h25 => ?_) (fun h25 => ?_)
  · skip
    refine V_blk C (pc' := 32) (σ' := σ) (L' := [some (.ref 0), some (.int o), some (.int 4)]) (st' := [.int 4]) (g_c dX7_told_31 g_n) rfl rfl ?_
    refine V_tsw C 4 84 (tgt := 116) dX7_told_32 (by decide) (by decide) (by decide) (by decide) (fun _ => ?_) (fun z => absurd rfl z)
    refine V_blk C (pc' := 124) (σ' := σ) (L' := [some (.ref 0), some (.int o), some (.int 4)]) (st' := [.int o, .ref 7]) (g_c dX7_told_116 (g_c dX7_told_117 (g_c dX7_told_120 (g_c dX7_told_123 g_n)))) rfl rfl ?_
    refine V_iald C (k := 7) (n := 5) (by rfl) (by rfl) (g_vp h25 hv hv5 (by decide)) dX7_told_124 ?_
    refine V_iret C dX7_told_125 ?_
    exact ⟨by rw [if_pos h25], rfl⟩
  · skip
    refine V_blk C (pc' := 30) (σ' := σ) (L' := [some (.ref 0), some (.int o), some (.int 4)]) (st' := [.int (-100)]) (g_c dX7_told_28 g_n) rfl rfl ?_
    refine V_iret C dX7_told_30 ?_
    exact ⟨by rw [if_neg (fun z => h25 z)], rfl⟩
set_option maxHeartbeats 4000000 in
set_option maxRecDepth 100000 in
theorem c_X8_told4 (σ : gS) (o : Int32) {nv : Nat} (hv : σ 63 19 = nI nv) (hv5 : nv ≤ 5) : g_Met yX8_told cX8_told 3 (some .int) 3 kM [.ref 63, .int o, .int 4] σ (fun rv s => rv = some (.int (if g_in o 0 ((σ 63 19) - 1) then (σ 72 (ix o)) else (-100))) ∧ s = σ) := by
  refine g_Met.of (own := 8) (L := [some (.ref 63), some (.int o), some (.int 4)]) (by decide) rfl rfl (fun ad => Nat.le_of_ble_eq_true rfl) (fun ad => rfl) (fun X G K C => ?_)
  refine V_blk C (pc' := 6) (σ' := σ) (L' := [some (.ref 63), some (.int o), some (.int 4)]) (st' := [.long 6, .long 0, .long (Int32.toInt64 4)]) (g_c dX8_told_0 (g_c dX8_told_1 (g_c dX8_told_2 (g_c dX8_told_3 g_n)))) rfl rfl ?_
  refine V_callSI C cs_X8_110 (c_X8_in32 σ 4 0 6 (by decide) (by decide)) (by decide) (by decide) (fun _ h => h) (As := [.long (Int32.toInt64 4), .long 0, .long 6]) (rest := []) rfl rfl (Nat.le_of_ble_eq_true rfl) dX8_told_6 ?_
  refine V_if_eq_b C (tgt := 36) dX8_told_9 (by decide) (fun z => absurd (by decide) z) (fun _ => ?_)
  refine V_blk C (pc' := 14) (σ' := σ) (L' := [some (.ref 63), some (.int o), some (.int 4)]) (st' := [.int 4, .int 4]) (g_c dX8_told_12 (g_c dX8_told_13 g_n)) rfl rfl ?_
  refine V_icmp_ge2 C (tgt := 28) dX8_told_14 (by decide) (fun _ => ?_) (fun z => absurd z (by decide))
  refine V_blk C (pc' := 30) (σ' := σ) (L' := [some (.ref 63), some (.int o), some (.int 4)]) (st' := [.int o, .ref 63]) (g_c dX8_told_28 (g_c dX8_told_29 g_n)) rfl rfl ?_
  refine V_callVI C cv_X8_147 (c_X8_isVessel σ o) ⟨_, _, _, _, rfl, rfl⟩ (by rfl) (by decide) (by decide) (fun _ h => h) (As := [.int o]) (rest := []) rfl rfl (Nat.le_of_ble_eq_true rfl) dX8_told_30 ?_
  refine V_if_ne_b C (tgt := 39) dX8_told_33 (by decide) (fun h33 => ?_) (fun h33 => ?_)
  · skip
    refine V_blk C (pc' := 41) (σ' := σ) (L' := [some (.ref 63), some (.int o), some (.int 4)]) (st' := [.int 4, .int 4]) (g_c dX8_told_39 (g_c dX8_told_40 g_n)) rfl rfl ?_
    refine V_icmp_ge2 C (tgt := 92) dX8_told_41 (by decide) (fun _ => ?_) (fun z => absurd z (by decide))
    refine V_blk C (pc' := 94) (σ' := σ) (L' := [some (.ref 63), some (.int o), some (.int 4)]) (st' := [.int 4, .int 4]) (g_c dX8_told_92 (g_c dX8_told_93 g_n)) rfl rfl ?_
    refine V_icmp_ne C (tgt := 106) dX8_told_94 (by decide) (fun z => absurd z (by decide)) (fun _ => ?_)
    refine V_blk C (pc' := 102) (σ' := σ) (L' := [some (.ref 63), some (.int o), some (.int 4)]) (st' := [.int o, .ref 72]) (g_c dX8_told_97 (g_c dX8_told_98 (g_c dX8_told_101 g_n))) rfl rfl ?_
    refine V_iald C (k := 72) (n := 5) (by rfl) (by rfl) (g_vp h33 hv hv5 (by decide)) dX8_told_102 ?_
    refine V_goto C (tgt := 126) dX8_told_103 (by decide) ?_
    refine V_iret C dX8_told_126 ?_
    exact ⟨by rw [if_pos h33], rfl⟩
  · skip
    refine V_blk C (pc' := 38) (σ' := σ) (L' := [some (.ref 63), some (.int o), some (.int 4)]) (st' := [.int (-100)]) (g_c dX8_told_36 g_n) rfl rfl ?_
    refine V_iret C dX8_told_38 ?_
    exact ⟨by rw [if_neg (fun z => h33 z)], rfl⟩
set_option maxHeartbeats 4000000 in
set_option maxRecDepth 100000 in
theorem c_X7_told5 (σ : gS) (o : Int32) {nv : Nat} (hv : σ 1 9 = nI nv) (hv5 : nv ≤ 5) : g_Met yX7_told cX7_told 3 (some .int) 3 kX [.ref 0, .int o, .int 5] σ (fun rv s => rv = some (.int (if g_in o 0 ((σ 1 9) - 1) then (σ 8 (ix o)) else (-100))) ∧ s = σ) := by
  refine g_Met.of (own := 7) (L := [some (.ref 0), some (.int o), some (.int 5)]) (by decide) rfl rfl (fun ad => Nat.le_of_ble_eq_true rfl) (fun ad => rfl) (fun X G K C => ?_)
  refine V_blk C (pc' := 3) (σ' := σ) (L' := [some (.ref 0), some (.int o), some (.int 5)]) (st' := [.int 3, .int 0, .int 5]) (g_c dX7_told_0 (g_c dX7_told_1 (g_c dX7_told_2 g_n))) rfl rfl ?_
  refine V_callSI C cs_X7_85 (c_X7_isIn σ 5 0 3) (by decide) (by decide) (fun _ h => h) (As := [.int 5, .int 0, .int 3]) (rest := []) rfl rfl (Nat.le_of_ble_eq_true rfl) dX7_told_3 ?_
  refine V_if_eq_b C (tgt := 20) dX7_told_6 (by decide) (fun _ => ?_) (fun z => absurd z (by decide))
  refine V_blk C (pc' := 22) (σ' := σ) (L' := [some (.ref 0), some (.int o), some (.int 5)]) (st' := [.int o, .ref 0]) (g_c dX7_told_20 (g_c dX7_told_21 g_n)) rfl rfl ?_
  refine V_callVI C cv_X7_137 (c_X7_isVessel σ o) ⟨_, _, _, _, rfl, rfl⟩ (by rfl) (by decide) (by decide) (fun _ h => h) (As := [.int o]) (rest := []) rfl rfl (Nat.le_of_ble_eq_true rfl) dX7_told_22 ?_
  refine V_if_ne_b C (tgt := 31) dX7_told_25 (by decide) (fun h25 => ?_) (fun h25 => ?_)
  · skip
    refine V_blk C (pc' := 32) (σ' := σ) (L' := [some (.ref 0), some (.int o), some (.int 5)]) (st' := [.int 5]) (g_c dX7_told_31 g_n) rfl rfl ?_
    refine V_tsw C 5 94 (tgt := 126) dX7_told_32 (by decide) (by decide) (by decide) (by decide) (fun _ => ?_) (fun z => absurd rfl z)
    refine V_blk C (pc' := 134) (σ' := σ) (L' := [some (.ref 0), some (.int o), some (.int 5)]) (st' := [.int o, .ref 8]) (g_c dX7_told_126 (g_c dX7_told_127 (g_c dX7_told_130 (g_c dX7_told_133 g_n)))) rfl rfl ?_
    refine V_iald C (k := 8) (n := 5) (by rfl) (by rfl) (g_vp h25 hv hv5 (by decide)) dX7_told_134 ?_
    refine V_iret C dX7_told_135 ?_
    exact ⟨by rw [if_pos h25], rfl⟩
  · skip
    refine V_blk C (pc' := 30) (σ' := σ) (L' := [some (.ref 0), some (.int o), some (.int 5)]) (st' := [.int (-100)]) (g_c dX7_told_28 g_n) rfl rfl ?_
    refine V_iret C dX7_told_30 ?_
    exact ⟨by rw [if_neg (fun z => h25 z)], rfl⟩
set_option maxHeartbeats 4000000 in
set_option maxRecDepth 100000 in
theorem c_X8_told5 (σ : gS) (o : Int32) {nv : Nat} (hv : σ 63 19 = nI nv) (hv5 : nv ≤ 5) : g_Met yX8_told cX8_told 3 (some .int) 3 kM [.ref 63, .int o, .int 5] σ (fun rv s => rv = some (.int (if g_in o 0 ((σ 63 19) - 1) then (σ 73 (ix o)) else (-100))) ∧ s = σ) := by
  refine g_Met.of (own := 8) (L := [some (.ref 63), some (.int o), some (.int 5)]) (by decide) rfl rfl (fun ad => Nat.le_of_ble_eq_true rfl) (fun ad => rfl) (fun X G K C => ?_)
  refine V_blk C (pc' := 6) (σ' := σ) (L' := [some (.ref 63), some (.int o), some (.int 5)]) (st' := [.long 6, .long 0, .long (Int32.toInt64 5)]) (g_c dX8_told_0 (g_c dX8_told_1 (g_c dX8_told_2 (g_c dX8_told_3 g_n)))) rfl rfl ?_
  refine V_callSI C cs_X8_110 (c_X8_in32 σ 5 0 6 (by decide) (by decide)) (by decide) (by decide) (fun _ h => h) (As := [.long (Int32.toInt64 5), .long 0, .long 6]) (rest := []) rfl rfl (Nat.le_of_ble_eq_true rfl) dX8_told_6 ?_
  refine V_if_eq_b C (tgt := 36) dX8_told_9 (by decide) (fun z => absurd (by decide) z) (fun _ => ?_)
  refine V_blk C (pc' := 14) (σ' := σ) (L' := [some (.ref 63), some (.int o), some (.int 5)]) (st' := [.int 4, .int 5]) (g_c dX8_told_12 (g_c dX8_told_13 g_n)) rfl rfl ?_
  refine V_icmp_ge2 C (tgt := 28) dX8_told_14 (by decide) (fun _ => ?_) (fun z => absurd z (by decide))
  refine V_blk C (pc' := 30) (σ' := σ) (L' := [some (.ref 63), some (.int o), some (.int 5)]) (st' := [.int o, .ref 63]) (g_c dX8_told_28 (g_c dX8_told_29 g_n)) rfl rfl ?_
  refine V_callVI C cv_X8_147 (c_X8_isVessel σ o) ⟨_, _, _, _, rfl, rfl⟩ (by rfl) (by decide) (by decide) (fun _ h => h) (As := [.int o]) (rest := []) rfl rfl (Nat.le_of_ble_eq_true rfl) dX8_told_30 ?_
  refine V_if_ne_b C (tgt := 39) dX8_told_33 (by decide) (fun h33 => ?_) (fun h33 => ?_)
  · skip
    refine V_blk C (pc' := 41) (σ' := σ) (L' := [some (.ref 63), some (.int o), some (.int 5)]) (st' := [.int 4, .int 5]) (g_c dX8_told_39 (g_c dX8_told_40 g_n)) rfl rfl ?_
    refine V_icmp_ge2 C (tgt := 92) dX8_told_41 (by decide) (fun _ => ?_) (fun z => absurd z (by decide))
    refine V_blk C (pc' := 94) (σ' := σ) (L' := [some (.ref 63), some (.int o), some (.int 5)]) (st' := [.int 4, .int 5]) (g_c dX8_told_92 (g_c dX8_told_93 g_n)) rfl rfl ?_
    refine V_icmp_ne C (tgt := 106) dX8_told_94 (by decide) (fun _ => ?_) (fun z => absurd z (by decide))
    refine V_blk C (pc' := 108) (σ' := σ) (L' := [some (.ref 63), some (.int o), some (.int 5)]) (st' := [.int 5, .int 5]) (g_c dX8_told_106 (g_c dX8_told_107 g_n)) rfl rfl ?_
    refine V_icmp_ne C (tgt := 120) dX8_told_108 (by decide) (fun z => absurd z (by decide)) (fun _ => ?_)
    refine V_blk C (pc' := 116) (σ' := σ) (L' := [some (.ref 63), some (.int o), some (.int 5)]) (st' := [.int o, .ref 73]) (g_c dX8_told_111 (g_c dX8_told_112 (g_c dX8_told_115 g_n))) rfl rfl ?_
    refine V_iald C (k := 73) (n := 5) (by rfl) (by rfl) (g_vp h33 hv hv5 (by decide)) dX8_told_116 ?_
    refine V_goto C (tgt := 126) dX8_told_117 (by decide) ?_
    refine V_iret C dX8_told_126 ?_
    exact ⟨by rw [if_pos h33], rfl⟩
  · skip
    refine V_blk C (pc' := 38) (σ' := σ) (L' := [some (.ref 63), some (.int o), some (.int 5)]) (st' := [.int (-100)]) (g_c dX8_told_36 g_n) rfl rfl ?_
    refine V_iret C dX8_told_38 ?_
    exact ⟨by rw [if_neg (fun z => h33 z)], rfl⟩
set_option maxHeartbeats 4000000 in
set_option maxRecDepth 100000 in
theorem c_X7_told6 (σ : gS) (o : Int32) {nv : Nat} (hv : σ 1 9 = nI nv) (hv5 : nv ≤ 5) : g_Met yX7_told cX7_told 3 (some .int) 3 kX [.ref 0, .int o, .int 6] σ (fun rv s => rv = some (.int (if g_in o 0 ((σ 1 9) - 1) then (σ 9 (ix o)) else (-100))) ∧ s = σ) := by
  refine g_Met.of (own := 7) (L := [some (.ref 0), some (.int o), some (.int 6)]) (by decide) rfl rfl (fun ad => Nat.le_of_ble_eq_true rfl) (fun ad => rfl) (fun X G K C => ?_)
  refine V_blk C (pc' := 3) (σ' := σ) (L' := [some (.ref 0), some (.int o), some (.int 6)]) (st' := [.int 3, .int 0, .int 6]) (g_c dX7_told_0 (g_c dX7_told_1 (g_c dX7_told_2 g_n))) rfl rfl ?_
  refine V_callSI C cs_X7_85 (c_X7_isIn σ 6 0 3) (by decide) (by decide) (fun _ h => h) (As := [.int 6, .int 0, .int 3]) (rest := []) rfl rfl (Nat.le_of_ble_eq_true rfl) dX7_told_3 ?_
  refine V_if_eq_b C (tgt := 20) dX7_told_6 (by decide) (fun _ => ?_) (fun z => absurd z (by decide))
  refine V_blk C (pc' := 22) (σ' := σ) (L' := [some (.ref 0), some (.int o), some (.int 6)]) (st' := [.int o, .ref 0]) (g_c dX7_told_20 (g_c dX7_told_21 g_n)) rfl rfl ?_
  refine V_callVI C cv_X7_137 (c_X7_isVessel σ o) ⟨_, _, _, _, rfl, rfl⟩ (by rfl) (by decide) (by decide) (fun _ h => h) (As := [.int o]) (rest := []) rfl rfl (Nat.le_of_ble_eq_true rfl) dX7_told_22 ?_
  refine V_if_ne_b C (tgt := 31) dX7_told_25 (by decide) (fun h25 => ?_) (fun h25 => ?_)
  · skip
    refine V_blk C (pc' := 32) (σ' := σ) (L' := [some (.ref 0), some (.int o), some (.int 6)]) (st' := [.int 6]) (g_c dX7_told_31 g_n) rfl rfl ?_
    refine V_tsw C 6 104 (tgt := 136) dX7_told_32 (by decide) (by decide) (by decide) (by decide) (fun _ => ?_) (fun z => absurd rfl z)
    refine V_blk C (pc' := 144) (σ' := σ) (L' := [some (.ref 0), some (.int o), some (.int 6)]) (st' := [.int o, .ref 9]) (g_c dX7_told_136 (g_c dX7_told_137 (g_c dX7_told_140 (g_c dX7_told_143 g_n)))) rfl rfl ?_
    refine V_iald C (k := 9) (n := 5) (by rfl) (by rfl) (g_vp h25 hv hv5 (by decide)) dX7_told_144 ?_
    refine V_iret C dX7_told_145 ?_
    exact ⟨by rw [if_pos h25], rfl⟩
  · skip
    refine V_blk C (pc' := 30) (σ' := σ) (L' := [some (.ref 0), some (.int o), some (.int 6)]) (st' := [.int (-100)]) (g_c dX7_told_28 g_n) rfl rfl ?_
    refine V_iret C dX7_told_30 ?_
    exact ⟨by rw [if_neg (fun z => h25 z)], rfl⟩
set_option maxHeartbeats 4000000 in
set_option maxRecDepth 100000 in
theorem c_X8_told6 (σ : gS) (o : Int32) {nv : Nat} (hv : σ 63 19 = nI nv) (hv5 : nv ≤ 5) : g_Met yX8_told cX8_told 3 (some .int) 3 kM [.ref 63, .int o, .int 6] σ (fun rv s => rv = some (.int (if g_in o 0 ((σ 63 19) - 1) then (σ 74 (ix o)) else (-100))) ∧ s = σ) := by
  refine g_Met.of (own := 8) (L := [some (.ref 63), some (.int o), some (.int 6)]) (by decide) rfl rfl (fun ad => Nat.le_of_ble_eq_true rfl) (fun ad => rfl) (fun X G K C => ?_)
  refine V_blk C (pc' := 6) (σ' := σ) (L' := [some (.ref 63), some (.int o), some (.int 6)]) (st' := [.long 6, .long 0, .long (Int32.toInt64 6)]) (g_c dX8_told_0 (g_c dX8_told_1 (g_c dX8_told_2 (g_c dX8_told_3 g_n)))) rfl rfl ?_
  refine V_callSI C cs_X8_110 (c_X8_in32 σ 6 0 6 (by decide) (by decide)) (by decide) (by decide) (fun _ h => h) (As := [.long (Int32.toInt64 6), .long 0, .long 6]) (rest := []) rfl rfl (Nat.le_of_ble_eq_true rfl) dX8_told_6 ?_
  refine V_if_eq_b C (tgt := 36) dX8_told_9 (by decide) (fun z => absurd (by decide) z) (fun _ => ?_)
  refine V_blk C (pc' := 14) (σ' := σ) (L' := [some (.ref 63), some (.int o), some (.int 6)]) (st' := [.int 4, .int 6]) (g_c dX8_told_12 (g_c dX8_told_13 g_n)) rfl rfl ?_
  refine V_icmp_ge2 C (tgt := 28) dX8_told_14 (by decide) (fun _ => ?_) (fun z => absurd z (by decide))
  refine V_blk C (pc' := 30) (σ' := σ) (L' := [some (.ref 63), some (.int o), some (.int 6)]) (st' := [.int o, .ref 63]) (g_c dX8_told_28 (g_c dX8_told_29 g_n)) rfl rfl ?_
  refine V_callVI C cv_X8_147 (c_X8_isVessel σ o) ⟨_, _, _, _, rfl, rfl⟩ (by rfl) (by decide) (by decide) (fun _ h => h) (As := [.int o]) (rest := []) rfl rfl (Nat.le_of_ble_eq_true rfl) dX8_told_30 ?_
  refine V_if_ne_b C (tgt := 39) dX8_told_33 (by decide) (fun h33 => ?_) (fun h33 => ?_)
  · skip
    refine V_blk C (pc' := 41) (σ' := σ) (L' := [some (.ref 63), some (.int o), some (.int 6)]) (st' := [.int 4, .int 6]) (g_c dX8_told_39 (g_c dX8_told_40 g_n)) rfl rfl ?_
    refine V_icmp_ge2 C (tgt := 92) dX8_told_41 (by decide) (fun _ => ?_) (fun z => absurd z (by decide))
    refine V_blk C (pc' := 94) (σ' := σ) (L' := [some (.ref 63), some (.int o), some (.int 6)]) (st' := [.int 4, .int 6]) (g_c dX8_told_92 (g_c dX8_told_93 g_n)) rfl rfl ?_
    refine V_icmp_ne C (tgt := 106) dX8_told_94 (by decide) (fun _ => ?_) (fun z => absurd z (by decide))
    refine V_blk C (pc' := 108) (σ' := σ) (L' := [some (.ref 63), some (.int o), some (.int 6)]) (st' := [.int 5, .int 6]) (g_c dX8_told_106 (g_c dX8_told_107 g_n)) rfl rfl ?_
    refine V_icmp_ne C (tgt := 120) dX8_told_108 (by decide) (fun _ => ?_) (fun z => absurd z (by decide))
    refine V_blk C (pc' := 125) (σ' := σ) (L' := [some (.ref 63), some (.int o), some (.int 6)]) (st' := [.int o, .ref 74]) (g_c dX8_told_120 (g_c dX8_told_121 (g_c dX8_told_124 g_n))) rfl rfl ?_
    refine V_iald C (k := 74) (n := 5) (by rfl) (by rfl) (g_vp h33 hv hv5 (by decide)) dX8_told_125 ?_
    refine V_iret C dX8_told_126 ?_
    exact ⟨by rw [if_pos h33], rfl⟩
  · skip
    refine V_blk C (pc' := 38) (σ' := σ) (L' := [some (.ref 63), some (.int o), some (.int 6)]) (st' := [.int (-100)]) (g_c dX8_told_36 g_n) rfl rfl ?_
    refine V_iret C dX8_told_38 ?_
    exact ⟨by rw [if_neg (fun z => h33 z)], rfl⟩
set_option maxHeartbeats 4000000 in
set_option maxRecDepth 100000 in
theorem c_X8_toldOut (σ : gS) (o w : Int32) (hw : ¬ g_in w 0 6) : g_Met yX8_told cX8_told 3 (some .int) 3 kM [.ref 63, .int o, .int w] σ (fun rv s => rv = some (.int (-100)) ∧ s = σ) := by
  refine g_Met.of (own := 8) (L := [some (.ref 63), some (.int o), some (.int w)]) (by decide) rfl rfl (fun ad => Nat.le_of_ble_eq_true rfl) (fun ad => rfl) (fun X G K C => ?_)
  refine V_blk C (pc' := 6) (σ' := σ) (L' := [some (.ref 63), some (.int o), some (.int w)]) (st' := [.long 6, .long 0, .long (Int32.toInt64 w)]) (g_c dX8_told_0 (g_c dX8_told_1 (g_c dX8_told_2 (g_c dX8_told_3 g_n)))) rfl rfl ?_
  refine V_callSI C cs_X8_110 (c_X8_in32 σ w 0 6 (by decide) (by decide)) (by decide) (by decide) (fun _ h => h) (As := [.long (Int32.toInt64 w), .long 0, .long 6]) (rest := []) rfl rfl (Nat.le_of_ble_eq_true rfl) dX8_told_6 ?_
  refine V_if_eq_b C (tgt := 36) dX8_told_9 (by decide) (fun h9 => ?_) (fun h9 => absurd h9 hw)
  refine V_blk C (pc' := 38) (σ' := σ) (L' := [some (.ref 63), some (.int o), some (.int w)]) (st' := [.int (-100)]) (g_c dX8_told_36 g_n) rfl rfl ?_
  refine V_iret C dX8_told_38 ?_
  exact ⟨rfl, rfl⟩
set_option maxHeartbeats 4000000 in
set_option maxRecDepth 100000 in
theorem c_X8_setOut (σ : gS) (w o v : Int32) (hw : ¬ g_in w 0 6) : g_Met yX8_set cX8_set 5 (some .int) 3 kM [.ref 63, .int w, .int o, .int v] σ (fun rv s => rv = some (.int (-2)) ∧ s = σ) := by
  refine g_Met.of (own := 8) (L := [some (.ref 63), some (.int w), some (.int o), some (.int v), none]) (by decide) rfl rfl (fun ad => Nat.le_of_ble_eq_true rfl) (fun ad => rfl) (fun X G K C => ?_)
  refine V_blk C (pc' := 6) (σ' := σ) (L' := [some (.ref 63), some (.int w), some (.int o), some (.int v), none]) (st' := [.long 6, .long 0, .long (Int32.toInt64 w)]) (g_c dX8_set_0 (g_c dX8_set_1 (g_c dX8_set_2 (g_c dX8_set_3 g_n)))) rfl rfl ?_
  refine V_callSI C cs_X8_110 (c_X8_in32 σ w 0 6 (by decide) (by decide)) (by decide) (by decide) (fun _ h => h) (As := [.long (Int32.toInt64 w), .long 0, .long 6]) (rest := []) rfl rfl (Nat.le_of_ble_eq_true rfl) dX8_set_6 ?_
  refine V_if_eq_b C (tgt := 36) dX8_set_9 (by decide) (fun h9 => ?_) (fun h9 => absurd h9 hw)
  refine V_blk C (pc' := 38) (σ' := σ) (L' := [some (.ref 63), some (.int w), some (.int o), some (.int v), none]) (st' := [.int (-2)]) (g_c dX8_set_36 g_n) rfl rfl ?_
  refine V_iret C dX8_set_38 ?_
  exact ⟨rfl, rfl⟩
set_option maxHeartbeats 4000000 in
set_option maxRecDepth 100000 in
theorem c_X7_toldOut (σ : gS) (o w : Int32) (hw : ¬ g_in w 0 6) : g_Met yX7_told cX7_told 3 (some .int) 3 kX [.ref 0, .int o, .int w] σ (fun rv s => rv = some (.int (-100)) ∧ s = σ) := by
  refine g_Met.of (own := 7) (L := [some (.ref 0), some (.int o), some (.int w)]) (by decide) rfl rfl (fun ad => Nat.le_of_ble_eq_true rfl) (fun ad => rfl) (fun X G K C => ?_)
  refine V_blk C (pc' := 3) (σ' := σ) (L' := [some (.ref 0), some (.int o), some (.int w)]) (st' := [.int 3, .int 0, .int w]) (g_c dX7_told_0 (g_c dX7_told_1 (g_c dX7_told_2 g_n))) rfl rfl ?_
  refine V_callSI C cs_X7_85 (c_X7_isIn σ w 0 3) (by decide) (by decide) (fun _ h => h) (As := [.int w, .int 0, .int 3]) (rest := []) rfl rfl (Nat.le_of_ble_eq_true rfl) dX7_told_3 ?_
  refine V_if_eq_b C (tgt := 20) dX7_told_6 (by decide) (fun h6 => ?_) (fun h6 => ?_)
  · skip
    refine V_blk C (pc' := 22) (σ' := σ) (L' := [some (.ref 0), some (.int o), some (.int w)]) (st' := [.int o, .ref 0]) (g_c dX7_told_20 (g_c dX7_told_21 g_n)) rfl rfl ?_
    refine V_callVI C cv_X7_137 (c_X7_isVessel σ o) ⟨_, _, _, _, rfl, rfl⟩ (by rfl) (by decide) (by decide) (fun _ h => h) (As := [.int o]) (rest := []) rfl rfl (Nat.le_of_ble_eq_true rfl) dX7_told_22 ?_
    refine V_if_ne_b C (tgt := 31) dX7_told_25 (by decide) (fun h25 => ?_) (fun h25 => ?_)
    · skip
      refine V_blk C (pc' := 32) (σ' := σ) (L' := [some (.ref 0), some (.int o), some (.int w)]) (st' := [.int w]) (g_c dX7_told_31 g_n) rfl rfl ?_
      refine V_tso C (tgt := 146) dX7_told_32 (g_tso2 hw (by decide) (by decide)) (by decide) ?_
      refine V_blk C (pc' := 148) (σ' := σ) (L' := [some (.ref 0), some (.int o), some (.int w)]) (st' := [.int (-100)]) (g_c dX7_told_146 g_n) rfl rfl ?_
      refine V_iret C dX7_told_148 ?_
      exact ⟨rfl, rfl⟩
    · skip
      refine V_blk C (pc' := 30) (σ' := σ) (L' := [some (.ref 0), some (.int o), some (.int w)]) (st' := [.int (-100)]) (g_c dX7_told_28 g_n) rfl rfl ?_
      refine V_iret C dX7_told_30 ?_
      exact ⟨rfl, rfl⟩
  · skip
    refine V_blk C (pc' := 11) (σ' := σ) (L' := [some (.ref 0), some (.int o), some (.int w)]) (st' := [.int o, .ref 0]) (g_c dX7_told_9 (g_c dX7_told_10 g_n)) rfl rfl ?_
    refine V_callVI C cv_X7_101 (c_X7_isDrip σ o) ⟨_, _, _, _, rfl, rfl⟩ (by rfl) (by decide) (by decide) (fun _ h => h) (As := [.int o]) (rest := []) rfl rfl (Nat.le_of_ble_eq_true rfl) dX7_told_11 ?_
    refine V_if_ne_b C (tgt := 31) dX7_told_14 (by decide) (fun h14 => ?_) (fun h14 => ?_)
    · skip
      refine V_blk C (pc' := 32) (σ' := σ) (L' := [some (.ref 0), some (.int o), some (.int w)]) (st' := [.int w]) (g_c dX7_told_31 g_n) rfl rfl ?_
      refine V_tso C (tgt := 146) dX7_told_32 (g_tso2 hw (by decide) (by decide)) (by decide) ?_
      refine V_blk C (pc' := 148) (σ' := σ) (L' := [some (.ref 0), some (.int o), some (.int w)]) (st' := [.int (-100)]) (g_c dX7_told_146 g_n) rfl rfl ?_
      refine V_iret C dX7_told_148 ?_
      exact ⟨rfl, rfl⟩
    · skip
      refine V_goto C (tgt := 28) dX7_told_17 (by decide) ?_
      refine V_blk C (pc' := 30) (σ' := σ) (L' := [some (.ref 0), some (.int o), some (.int w)]) (st' := [.int (-100)]) (g_c dX7_told_28 g_n) rfl rfl ?_
      refine V_iret C dX7_told_30 ?_
      exact ⟨rfl, rfl⟩
set_option maxHeartbeats 4000000 in
set_option maxRecDepth 100000 in
theorem c_X2_take (σ : gS) (v : Int32) {nz : Nat} (hz : σ 19 1 = nI nz) (hz160 : nz ≤ 160) : g_Met yX2_take cX2_take 2 (some .boolean) 3 kR [.ref 19, .int v] σ (fun rv s => rv = some (.int (if g_in (σ 19 1) 0 159 then 1 else 0)) ∧ s = (if g_in (σ 19 1) 0 159 then (g_up (g_up σ 20 (ix (σ 19 1)) v) 19 1 ((σ 19 1) + 1)) else σ)) := by
  refine g_Met.of (own := 2) (L := [some (.ref 19), some (.int v)]) (by decide) rfl rfl (fun ad => Nat.le_of_ble_eq_true rfl) (fun ad => rfl) (fun X G K C => ?_)
  refine V_blk C (pc' := 8) (σ' := σ) (L' := [some (.ref 19), some (.int v)]) (st' := [.int 159, .int 0, .int (σ 19 1)]) (g_c dX2_take_0 (g_c dX2_take_1 (g_c dX2_take_4 (g_c dX2_take_5 g_n)))) rfl rfl ?_
  refine V_callNI C cn_X2_21 (c_X7_isIn σ (σ 19 1) 0 159) (by decide) (by decide) (fun _ h => h) (As := [.int (σ 19 1), .int 0, .int 159]) (rest := []) rfl rfl (Nat.le_of_ble_eq_true rfl) dX2_take_8 ?_
  refine V_if_ne_b C (tgt := 16) dX2_take_11 (by decide) (fun h11 => ?_) (fun h11 => ?_)
  · skip
    refine V_blk C (pc' := 25) (σ' := σ) (L' := [some (.ref 19), some (.int v)]) (st' := [.int v, .int (σ 19 1), .ref 20]) (g_c dX2_take_16 (g_c dX2_take_17 (g_c dX2_take_20 (g_c dX2_take_21 (g_c dX2_take_24 g_n))))) rfl rfl ?_
    refine V_iast C (k := 20) (n := 160) (by rfl) (by rfl) (g_vpc h11 (by decide)) dX2_take_25 ?_
    refine V_blk C (pc' := 37) (σ' := (g_up (g_up σ 20 (Int32.toNatClampNeg (σ 19 1)) v) 19 1 ((σ 19 1) + 1))) (L' := [some (.ref 19), some (.int v)]) (st' := [.int 1]) (g_c dX2_take_26 (g_c dX2_take_27 (g_c dX2_take_28 (g_c dX2_take_31 (g_c dX2_take_32 (g_c dX2_take_33 (g_c dX2_take_36 g_n))))))) rfl rfl ?_
    refine V_zret C (by decide) dX2_take_37 ?_
    exact ⟨by rw [if_pos h11], by rw [if_pos h11]⟩
  · skip
    refine V_blk C (pc' := 15) (σ' := σ) (L' := [some (.ref 19), some (.int v)]) (st' := [.int 0]) (g_c dX2_take_14 g_n) rfl rfl ?_
    refine V_zret C (by decide) dX2_take_15 ?_
    exact ⟨by rw [if_neg (fun z => h11 z)], by rw [if_neg (fun z => h11 z)]⟩
set_option maxHeartbeats 4000000 in
set_option maxRecDepth 100000 in
theorem c_X8_feed (σ : gS) (v : Int32) {nz : Nat} (hz : σ 63 6 = nI nz) (hz160 : nz ≤ 160) : g_Met yX8_feed cX8_feed 2 (some .int) 3 kM [.ref 63, .int v] σ (fun rv s => rv = some (.int (if g_in v 0 255 then (if (σ 63 6) = 160 then (-4) else ((σ 63 6) + 1)) else (-2))) ∧ s = (if g_in v 0 255 then (if (σ 63 6) = 160 then σ else (g_up (g_up σ 66 (ix (σ 63 6)) v) 63 6 ((σ 63 6) + 1))) else σ)) := by
  refine g_Met.of (own := 8) (L := [some (.ref 63), some (.int v)]) (by decide) rfl rfl (fun ad => Nat.le_of_ble_eq_true rfl) (fun ad => rfl) (fun X G K C => ?_)
  refine V_blk C (pc' := 6) (σ' := σ) (L' := [some (.ref 63), some (.int v)]) (st' := [.long 255, .long 0, .long (Int32.toInt64 v)]) (g_c dX8_feed_0 (g_c dX8_feed_1 (g_c dX8_feed_2 (g_c dX8_feed_3 g_n)))) rfl rfl ?_
  refine V_callSI C cs_X8_110 (c_X8_in32 σ v 0 255 (by decide) (by decide)) (by decide) (by decide) (fun _ h => h) (As := [.long (Int32.toInt64 v), .long 0, .long 255]) (rest := []) rfl rfl (Nat.le_of_ble_eq_true rfl) dX8_feed_6 ?_
  refine V_if_ne_b C (tgt := 15) dX8_feed_9 (by decide) (fun h9 => ?_) (fun h9 => ?_)
  · skip
    refine V_blk C (pc' := 22) (σ' := σ) (L' := [some (.ref 63), some (.int v)]) (st' := [.int 160, .int (σ 63 6)]) (g_c dX8_feed_15 (g_c dX8_feed_16 (g_c dX8_feed_19 g_n))) rfl rfl ?_
    refine V_icmp_ne C (tgt := 28) dX8_feed_22 (by decide) (fun h22 => ?_) (fun h22 => ?_)
    · skip
      refine V_blk C (pc' := 37) (σ' := σ) (L' := [some (.ref 63), some (.int v)]) (st' := [.int v, .int (σ 63 6), .ref 66]) (g_c dX8_feed_28 (g_c dX8_feed_29 (g_c dX8_feed_32 (g_c dX8_feed_33 (g_c dX8_feed_36 g_n))))) rfl rfl ?_
      refine V_iast C (k := 66) (n := 160) (by rfl) (by rfl) (g_vpE (N := 160) hz hz160 h22 (by decide)) dX8_feed_37 ?_
      refine V_blk C (pc' := 52) (σ' := (g_up (g_up σ 66 (Int32.toNatClampNeg (σ 63 6)) v) 63 6 ((σ 63 6) + 1))) (L' := [some (.ref 63), some (.int v)]) (st' := [.int ((σ 63 6) + 1)]) (g_c dX8_feed_38 (g_c dX8_feed_39 (g_c dX8_feed_40 (g_c dX8_feed_43 (g_c dX8_feed_44 (g_c dX8_feed_45 (g_c dX8_feed_48 (g_c dX8_feed_49 g_n)))))))) rfl rfl ?_
      refine V_iret C dX8_feed_52 ?_
      exact ⟨by rw [if_pos h9, if_neg (fun z => h22 z)], by rw [if_pos h9, if_neg (fun z => h22 z)]⟩
    · skip
      refine V_blk C (pc' := 27) (σ' := σ) (L' := [some (.ref 63), some (.int v)]) (st' := [.int (-4)]) (g_c dX8_feed_25 g_n) rfl rfl ?_
      refine V_iret C dX8_feed_27 ?_
      exact ⟨by rw [if_pos h9, if_pos h22], by rw [if_pos h9, if_pos h22]⟩
  · skip
    refine V_blk C (pc' := 14) (σ' := σ) (L' := [some (.ref 63), some (.int v)]) (st' := [.int (-2)]) (g_c dX8_feed_12 g_n) rfl rfl ?_
    refine V_iret C dX8_feed_14 ?_
    exact ⟨by rw [if_neg (fun z => h9 z)], by rw [if_neg (fun z => h9 z)]⟩
set_option maxHeartbeats 4000000 in
set_option maxRecDepth 100000 in
theorem c_X7_force (σ : gS) (v : Int32) : g_Met yX7_force cX7_force 3 (some .int) 3 kX [.ref 0, .int v] σ (fun rv s => rv = some (.int (if g_in v 0 ((σ 0 5) - 1) then (σ 1 13) else (-2))) ∧ s = (if g_in v 0 ((σ 0 5) - 1) then (g_up σ 1 13 v) else σ)) := by
  refine g_Met.of (own := 7) (L := [some (.ref 0), some (.int v), none]) (by decide) rfl rfl (fun ad => Nat.le_of_ble_eq_true rfl) (fun ad => rfl) (fun X G K C => ?_)
  refine V_blk C (pc' := 8) (σ' := σ) (L' := [some (.ref 0), some (.int v), none]) (st' := [.int ((σ 0 5) - 1), .int 0, .int v]) (g_c dX7_force_0 (g_c dX7_force_1 (g_c dX7_force_2 (g_c dX7_force_3 (g_c dX7_force_6 (g_c dX7_force_7 g_n)))))) rfl rfl ?_
  refine V_callSI C cs_X7_85 (c_X7_isIn σ v 0 ((σ 0 5) - 1)) (by decide) (by decide) (fun _ h => h) (As := [.int v, .int 0, .int ((σ 0 5) - 1)]) (rest := []) rfl rfl (Nat.le_of_ble_eq_true rfl) dX7_force_8 ?_
  refine V_if_ne_b C (tgt := 17) dX7_force_11 (by decide) (fun h11 => ?_) (fun h11 => ?_)
  · skip
    refine V_blk C (pc' := 34) (σ' := (g_up σ 1 13 v)) (L' := [some (.ref 0), some (.int v), some (.int (σ 1 13))]) (st' := [.int (σ 1 13)]) (g_c dX7_force_17 (g_c dX7_force_18 (g_c dX7_force_21 (g_c dX7_force_24 (g_c dX7_force_25 (g_c dX7_force_26 (g_c dX7_force_29 (g_c dX7_force_30 (g_c dX7_force_33 g_n))))))))) rfl rfl ?_
    refine V_iret C dX7_force_34 ?_
    exact ⟨by rw [if_pos h11], by rw [if_pos h11]⟩
  · skip
    refine V_blk C (pc' := 16) (σ' := σ) (L' := [some (.ref 0), some (.int v), none]) (st' := [.int (-2)]) (g_c dX7_force_14 g_n) rfl rfl ?_
    refine V_iret C dX7_force_16 ?_
    exact ⟨by rw [if_neg (fun z => h11 z)], by rw [if_neg (fun z => h11 z)]⟩
set_option maxHeartbeats 4000000 in
set_option maxRecDepth 100000 in
theorem c_X8_force (σ : gS) (v : Int32) : g_Met yX8_force cX8_force 3 (some .int) 3 kM [.ref 63, .int v] σ (fun rv s => rv = some (.int (if g_in v 0 ((σ 63 3) - 1) then (σ 63 4) else (-2))) ∧ s = (if g_in v 0 ((σ 63 3) - 1) then (g_up σ 63 4 v) else σ)) := by
  refine g_Met.of (own := 8) (L := [some (.ref 63), some (.int v), none]) (by decide) rfl rfl (fun ad => Nat.le_of_ble_eq_true rfl) (fun ad => rfl) (fun X G K C => ?_)
  refine V_blk C (pc' := 10) (σ' := σ) (L' := [some (.ref 63), some (.int v), none]) (st' := [.long (Int32.toInt64 ((σ 63 3) - 1)), .long 0, .long (Int32.toInt64 v)]) (g_c dX8_force_0 (g_c dX8_force_1 (g_c dX8_force_2 (g_c dX8_force_3 (g_c dX8_force_4 (g_c dX8_force_7 (g_c dX8_force_8 (g_c dX8_force_9 g_n)))))))) rfl rfl ?_
  refine V_callSI C cs_X8_110 (c_X8_in32 σ v 0 ((σ 63 3) - 1) (by decide) rfl) (by decide) (by decide) (fun _ h => h) (As := [.long (Int32.toInt64 v), .long 0, .long (Int32.toInt64 ((σ 63 3) - 1))]) (rest := []) rfl rfl (Nat.le_of_ble_eq_true rfl) dX8_force_10 ?_
  refine V_if_ne_b C (tgt := 19) dX8_force_13 (by decide) (fun h13 => ?_) (fun h13 => ?_)
  · skip
    refine V_blk C (pc' := 30) (σ' := (g_up σ 63 4 v)) (L' := [some (.ref 63), some (.int v), some (.int (σ 63 4))]) (st' := [.int (σ 63 4)]) (g_c dX8_force_19 (g_c dX8_force_20 (g_c dX8_force_23 (g_c dX8_force_24 (g_c dX8_force_25 (g_c dX8_force_26 (g_c dX8_force_29 g_n))))))) rfl rfl ?_
    refine V_iret C dX8_force_30 ?_
    exact ⟨by rw [if_pos h13], by rw [if_pos h13]⟩
  · skip
    refine V_blk C (pc' := 18) (σ' := σ) (L' := [some (.ref 63), some (.int v), none]) (st' := [.int (-2)]) (g_c dX8_force_16 g_n) rfl rfl ?_
    refine V_iret C dX8_force_18 ?_
    exact ⟨by rw [if_neg (fun z => h13 z)], by rw [if_neg (fun z => h13 z)]⟩
set_option maxHeartbeats 4000000 in
set_option maxRecDepth 100000 in
theorem c_X7_count0 (σ : gS) : g_Met yX7_count cX7_count 2 (some .int) 3 kX [.ref 0, .int 0] σ (fun rv s => rv = some (.int (σ 1 8)) ∧ s = σ) := by
  refine g_Met.of (own := 7) (L := [some (.ref 0), some (.int 0)]) (by decide) rfl rfl (fun ad => Nat.le_of_ble_eq_true rfl) (fun ad => rfl) (fun X G K C => ?_)
  refine V_blk C (pc' := 1) (σ' := σ) (L' := [some (.ref 0), some (.int 0)]) (st' := [.int 0]) (g_c dX7_count_0 g_n) rfl rfl ?_
  refine V_tsw C 0 51 (tgt := 52) dX7_count_1 (by decide) (by decide) (by decide) (by decide) (fun _ => ?_) (fun z => absurd rfl z)
  refine V_blk C (pc' := 59) (σ' := σ) (L' := [some (.ref 0), some (.int 0)]) (st' := [.int (σ 1 8)]) (g_c dX7_count_52 (g_c dX7_count_53 (g_c dX7_count_56 g_n))) rfl rfl ?_
  refine V_iret C dX7_count_59 ?_
  exact ⟨rfl, rfl⟩
set_option maxHeartbeats 4000000 in
set_option maxRecDepth 100000 in
theorem c_X8_count0 (σ : gS) : g_Met yX8_count cX8_count 4 (some .int) 3 kM [.ref 63, .int 0] σ (fun rv s => rv = some (.int (σ 63 15)) ∧ s = σ) := by
  refine g_Met.of (own := 8) (L := [some (.ref 63), some (.int 0), none, none]) (by decide) rfl rfl (fun ad => Nat.le_of_ble_eq_true rfl) (fun ad => rfl) (fun X G K C => ?_)
  refine V_blk C (pc' := 6) (σ' := σ) (L' := [some (.ref 63), some (.int 0), none, none]) (st' := [.long 8, .long 0, .long (Int32.toInt64 0)]) (g_c dX8_count_0 (g_c dX8_count_1 (g_c dX8_count_2 (g_c dX8_count_3 g_n)))) rfl rfl ?_
  refine V_callSI C cs_X8_110 (c_X8_in32 σ 0 0 8 (by decide) (by decide)) (by decide) (by decide) (fun _ h => h) (As := [.long (Int32.toInt64 0), .long 0, .long 8]) (rest := []) rfl rfl (Nat.le_of_ble_eq_true rfl) dX8_count_6 ?_
  refine V_if_ne_b C (tgt := 15) dX8_count_9 (by decide) (fun _ => ?_) (fun z => absurd (by decide) z)
  refine V_blk C (pc' := 17) (σ' := σ) (L' := [some (.ref 63), some (.int 0), none, none]) (st' := [.int 5, .int 0]) (g_c dX8_count_15 (g_c dX8_count_16 g_n)) rfl rfl ?_
  refine V_icmp_ge2 C (tgt := 72) dX8_count_17 (by decide) (fun z => absurd z (by decide)) (fun _ => ?_)
  refine V_blk C (pc' := 21) (σ' := σ) (L' := [some (.ref 63), some (.int 0), none, none]) (st' := [.int 0]) (g_c dX8_count_20 g_n) rfl rfl ?_
  refine V_if_ne C (tgt := 31) dX8_count_21 (by decide) (fun z => absurd z (by decide)) (fun _ => ?_)
  refine V_blk C (pc' := 28) (σ' := σ) (L' := [some (.ref 63), some (.int 0), none, none]) (st' := [.int (σ 63 15)]) (g_c dX8_count_24 (g_c dX8_count_25 g_n)) rfl rfl ?_
  refine V_goto C (tgt := 71) dX8_count_28 (by decide) ?_
  refine V_iret C dX8_count_71 ?_
  exact ⟨rfl, rfl⟩
set_option maxHeartbeats 4000000 in
set_option maxRecDepth 100000 in
theorem c_X7_count1 (σ : gS) : g_Met yX7_count cX7_count 2 (some .int) 3 kX [.ref 0, .int 1] σ (fun rv s => rv = some (.int (σ 1 9)) ∧ s = σ) := by
  refine g_Met.of (own := 7) (L := [some (.ref 0), some (.int 1)]) (by decide) rfl rfl (fun ad => Nat.le_of_ble_eq_true rfl) (fun ad => rfl) (fun X G K C => ?_)
  refine V_blk C (pc' := 1) (σ' := σ) (L' := [some (.ref 0), some (.int 1)]) (st' := [.int 1]) (g_c dX7_count_0 g_n) rfl rfl ?_
  refine V_tsw C 1 59 (tgt := 60) dX7_count_1 (by decide) (by decide) (by decide) (by decide) (fun _ => ?_) (fun z => absurd rfl z)
  refine V_blk C (pc' := 67) (σ' := σ) (L' := [some (.ref 0), some (.int 1)]) (st' := [.int (σ 1 9)]) (g_c dX7_count_60 (g_c dX7_count_61 (g_c dX7_count_64 g_n))) rfl rfl ?_
  refine V_iret C dX7_count_67 ?_
  exact ⟨rfl, rfl⟩
set_option maxHeartbeats 4000000 in
set_option maxRecDepth 100000 in
theorem c_X8_count1 (σ : gS) : g_Met yX8_count cX8_count 4 (some .int) 3 kM [.ref 63, .int 1] σ (fun rv s => rv = some (.int (σ 63 19)) ∧ s = σ) := by
  refine g_Met.of (own := 8) (L := [some (.ref 63), some (.int 1), none, none]) (by decide) rfl rfl (fun ad => Nat.le_of_ble_eq_true rfl) (fun ad => rfl) (fun X G K C => ?_)
  refine V_blk C (pc' := 6) (σ' := σ) (L' := [some (.ref 63), some (.int 1), none, none]) (st' := [.long 8, .long 0, .long (Int32.toInt64 1)]) (g_c dX8_count_0 (g_c dX8_count_1 (g_c dX8_count_2 (g_c dX8_count_3 g_n)))) rfl rfl ?_
  refine V_callSI C cs_X8_110 (c_X8_in32 σ 1 0 8 (by decide) (by decide)) (by decide) (by decide) (fun _ h => h) (As := [.long (Int32.toInt64 1), .long 0, .long 8]) (rest := []) rfl rfl (Nat.le_of_ble_eq_true rfl) dX8_count_6 ?_
  refine V_if_ne_b C (tgt := 15) dX8_count_9 (by decide) (fun _ => ?_) (fun z => absurd (by decide) z)
  refine V_blk C (pc' := 17) (σ' := σ) (L' := [some (.ref 63), some (.int 1), none, none]) (st' := [.int 5, .int 1]) (g_c dX8_count_15 (g_c dX8_count_16 g_n)) rfl rfl ?_
  refine V_icmp_ge2 C (tgt := 72) dX8_count_17 (by decide) (fun z => absurd z (by decide)) (fun _ => ?_)
  refine V_blk C (pc' := 21) (σ' := σ) (L' := [some (.ref 63), some (.int 1), none, none]) (st' := [.int 1]) (g_c dX8_count_20 g_n) rfl rfl ?_
  refine V_if_ne C (tgt := 31) dX8_count_21 (by decide) (fun _ => ?_) (fun z => absurd z (by decide))
  refine V_blk C (pc' := 33) (σ' := σ) (L' := [some (.ref 63), some (.int 1), none, none]) (st' := [.int 1, .int 1]) (g_c dX8_count_31 (g_c dX8_count_32 g_n)) rfl rfl ?_
  refine V_icmp_ne C (tgt := 43) dX8_count_33 (by decide) (fun z => absurd z (by decide)) (fun _ => ?_)
  refine V_blk C (pc' := 40) (σ' := σ) (L' := [some (.ref 63), some (.int 1), none, none]) (st' := [.int (σ 63 19)]) (g_c dX8_count_36 (g_c dX8_count_37 g_n)) rfl rfl ?_
  refine V_goto C (tgt := 71) dX8_count_40 (by decide) ?_
  refine V_iret C dX8_count_71 ?_
  exact ⟨rfl, rfl⟩
set_option maxHeartbeats 4000000 in
set_option maxRecDepth 100000 in
theorem c_X7_count2 (σ : gS) : g_Met yX7_count cX7_count 2 (some .int) 3 kX [.ref 0, .int 2] σ (fun rv s => rv = some (.int (σ 1 10)) ∧ s = σ) := by
  refine g_Met.of (own := 7) (L := [some (.ref 0), some (.int 2)]) (by decide) rfl rfl (fun ad => Nat.le_of_ble_eq_true rfl) (fun ad => rfl) (fun X G K C => ?_)
  refine V_blk C (pc' := 1) (σ' := σ) (L' := [some (.ref 0), some (.int 2)]) (st' := [.int 2]) (g_c dX7_count_0 g_n) rfl rfl ?_
  refine V_tsw C 2 67 (tgt := 68) dX7_count_1 (by decide) (by decide) (by decide) (by decide) (fun _ => ?_) (fun z => absurd rfl z)
  refine V_blk C (pc' := 75) (σ' := σ) (L' := [some (.ref 0), some (.int 2)]) (st' := [.int (σ 1 10)]) (g_c dX7_count_68 (g_c dX7_count_69 (g_c dX7_count_72 g_n))) rfl rfl ?_
  refine V_iret C dX7_count_75 ?_
  exact ⟨rfl, rfl⟩
set_option maxHeartbeats 4000000 in
set_option maxRecDepth 100000 in
theorem c_X8_count2 (σ : gS) : g_Met yX8_count cX8_count 4 (some .int) 3 kM [.ref 63, .int 2] σ (fun rv s => rv = some (.int (σ 63 8)) ∧ s = σ) := by
  refine g_Met.of (own := 8) (L := [some (.ref 63), some (.int 2), none, none]) (by decide) rfl rfl (fun ad => Nat.le_of_ble_eq_true rfl) (fun ad => rfl) (fun X G K C => ?_)
  refine V_blk C (pc' := 6) (σ' := σ) (L' := [some (.ref 63), some (.int 2), none, none]) (st' := [.long 8, .long 0, .long (Int32.toInt64 2)]) (g_c dX8_count_0 (g_c dX8_count_1 (g_c dX8_count_2 (g_c dX8_count_3 g_n)))) rfl rfl ?_
  refine V_callSI C cs_X8_110 (c_X8_in32 σ 2 0 8 (by decide) (by decide)) (by decide) (by decide) (fun _ h => h) (As := [.long (Int32.toInt64 2), .long 0, .long 8]) (rest := []) rfl rfl (Nat.le_of_ble_eq_true rfl) dX8_count_6 ?_
  refine V_if_ne_b C (tgt := 15) dX8_count_9 (by decide) (fun _ => ?_) (fun z => absurd (by decide) z)
  refine V_blk C (pc' := 17) (σ' := σ) (L' := [some (.ref 63), some (.int 2), none, none]) (st' := [.int 5, .int 2]) (g_c dX8_count_15 (g_c dX8_count_16 g_n)) rfl rfl ?_
  refine V_icmp_ge2 C (tgt := 72) dX8_count_17 (by decide) (fun z => absurd z (by decide)) (fun _ => ?_)
  refine V_blk C (pc' := 21) (σ' := σ) (L' := [some (.ref 63), some (.int 2), none, none]) (st' := [.int 2]) (g_c dX8_count_20 g_n) rfl rfl ?_
  refine V_if_ne C (tgt := 31) dX8_count_21 (by decide) (fun _ => ?_) (fun z => absurd z (by decide))
  refine V_blk C (pc' := 33) (σ' := σ) (L' := [some (.ref 63), some (.int 2), none, none]) (st' := [.int 1, .int 2]) (g_c dX8_count_31 (g_c dX8_count_32 g_n)) rfl rfl ?_
  refine V_icmp_ne C (tgt := 43) dX8_count_33 (by decide) (fun _ => ?_) (fun z => absurd z (by decide))
  refine V_blk C (pc' := 45) (σ' := σ) (L' := [some (.ref 63), some (.int 2), none, none]) (st' := [.int 2, .int 2]) (g_c dX8_count_43 (g_c dX8_count_44 g_n)) rfl rfl ?_
  refine V_icmp_ne C (tgt := 55) dX8_count_45 (by decide) (fun z => absurd z (by decide)) (fun _ => ?_)
  refine V_blk C (pc' := 52) (σ' := σ) (L' := [some (.ref 63), some (.int 2), none, none]) (st' := [.int (σ 63 8)]) (g_c dX8_count_48 (g_c dX8_count_49 g_n)) rfl rfl ?_
  refine V_goto C (tgt := 71) dX8_count_52 (by decide) ?_
  refine V_iret C dX8_count_71 ?_
  exact ⟨rfl, rfl⟩
set_option maxHeartbeats 4000000 in
set_option maxRecDepth 100000 in
theorem c_X7_count3 (σ : gS) : g_Met yX7_count cX7_count 2 (some .int) 3 kX [.ref 0, .int 3] σ (fun rv s => rv = some (.int (σ 1 11)) ∧ s = σ) := by
  refine g_Met.of (own := 7) (L := [some (.ref 0), some (.int 3)]) (by decide) rfl rfl (fun ad => Nat.le_of_ble_eq_true rfl) (fun ad => rfl) (fun X G K C => ?_)
  refine V_blk C (pc' := 1) (σ' := σ) (L' := [some (.ref 0), some (.int 3)]) (st' := [.int 3]) (g_c dX7_count_0 g_n) rfl rfl ?_
  refine V_tsw C 3 75 (tgt := 76) dX7_count_1 (by decide) (by decide) (by decide) (by decide) (fun _ => ?_) (fun z => absurd rfl z)
  refine V_blk C (pc' := 83) (σ' := σ) (L' := [some (.ref 0), some (.int 3)]) (st' := [.int (σ 1 11)]) (g_c dX7_count_76 (g_c dX7_count_77 (g_c dX7_count_80 g_n))) rfl rfl ?_
  refine V_iret C dX7_count_83 ?_
  exact ⟨rfl, rfl⟩
set_option maxHeartbeats 4000000 in
set_option maxRecDepth 100000 in
theorem c_X8_count3 (σ : gS) : g_Met yX8_count cX8_count 4 (some .int) 3 kM [.ref 63, .int 3] σ (fun rv s => rv = some (.int (σ 63 9)) ∧ s = σ) := by
  refine g_Met.of (own := 8) (L := [some (.ref 63), some (.int 3), none, none]) (by decide) rfl rfl (fun ad => Nat.le_of_ble_eq_true rfl) (fun ad => rfl) (fun X G K C => ?_)
  refine V_blk C (pc' := 6) (σ' := σ) (L' := [some (.ref 63), some (.int 3), none, none]) (st' := [.long 8, .long 0, .long (Int32.toInt64 3)]) (g_c dX8_count_0 (g_c dX8_count_1 (g_c dX8_count_2 (g_c dX8_count_3 g_n)))) rfl rfl ?_
  refine V_callSI C cs_X8_110 (c_X8_in32 σ 3 0 8 (by decide) (by decide)) (by decide) (by decide) (fun _ h => h) (As := [.long (Int32.toInt64 3), .long 0, .long 8]) (rest := []) rfl rfl (Nat.le_of_ble_eq_true rfl) dX8_count_6 ?_
  refine V_if_ne_b C (tgt := 15) dX8_count_9 (by decide) (fun _ => ?_) (fun z => absurd (by decide) z)
  refine V_blk C (pc' := 17) (σ' := σ) (L' := [some (.ref 63), some (.int 3), none, none]) (st' := [.int 5, .int 3]) (g_c dX8_count_15 (g_c dX8_count_16 g_n)) rfl rfl ?_
  refine V_icmp_ge2 C (tgt := 72) dX8_count_17 (by decide) (fun z => absurd z (by decide)) (fun _ => ?_)
  refine V_blk C (pc' := 21) (σ' := σ) (L' := [some (.ref 63), some (.int 3), none, none]) (st' := [.int 3]) (g_c dX8_count_20 g_n) rfl rfl ?_
  refine V_if_ne C (tgt := 31) dX8_count_21 (by decide) (fun _ => ?_) (fun z => absurd z (by decide))
  refine V_blk C (pc' := 33) (σ' := σ) (L' := [some (.ref 63), some (.int 3), none, none]) (st' := [.int 1, .int 3]) (g_c dX8_count_31 (g_c dX8_count_32 g_n)) rfl rfl ?_
  refine V_icmp_ne C (tgt := 43) dX8_count_33 (by decide) (fun _ => ?_) (fun z => absurd z (by decide))
  refine V_blk C (pc' := 45) (σ' := σ) (L' := [some (.ref 63), some (.int 3), none, none]) (st' := [.int 2, .int 3]) (g_c dX8_count_43 (g_c dX8_count_44 g_n)) rfl rfl ?_
  refine V_icmp_ne C (tgt := 55) dX8_count_45 (by decide) (fun _ => ?_) (fun z => absurd z (by decide))
  refine V_blk C (pc' := 57) (σ' := σ) (L' := [some (.ref 63), some (.int 3), none, none]) (st' := [.int 3, .int 3]) (g_c dX8_count_55 (g_c dX8_count_56 g_n)) rfl rfl ?_
  refine V_icmp_ne C (tgt := 67) dX8_count_57 (by decide) (fun z => absurd z (by decide)) (fun _ => ?_)
  refine V_blk C (pc' := 64) (σ' := σ) (L' := [some (.ref 63), some (.int 3), none, none]) (st' := [.int (σ 63 9)]) (g_c dX8_count_60 (g_c dX8_count_61 g_n)) rfl rfl ?_
  refine V_goto C (tgt := 71) dX8_count_64 (by decide) ?_
  refine V_iret C dX8_count_71 ?_
  exact ⟨rfl, rfl⟩
set_option maxHeartbeats 4000000 in
set_option maxRecDepth 100000 in
theorem c_X7_count4 (σ : gS) : g_Met yX7_count cX7_count 2 (some .int) 3 kX [.ref 0, .int 4] σ (fun rv s => rv = some (.int (σ 1 12)) ∧ s = σ) := by
  refine g_Met.of (own := 7) (L := [some (.ref 0), some (.int 4)]) (by decide) rfl rfl (fun ad => Nat.le_of_ble_eq_true rfl) (fun ad => rfl) (fun X G K C => ?_)
  refine V_blk C (pc' := 1) (σ' := σ) (L' := [some (.ref 0), some (.int 4)]) (st' := [.int 4]) (g_c dX7_count_0 g_n) rfl rfl ?_
  refine V_tsw C 4 83 (tgt := 84) dX7_count_1 (by decide) (by decide) (by decide) (by decide) (fun _ => ?_) (fun z => absurd rfl z)
  refine V_blk C (pc' := 91) (σ' := σ) (L' := [some (.ref 0), some (.int 4)]) (st' := [.int (σ 1 12)]) (g_c dX7_count_84 (g_c dX7_count_85 (g_c dX7_count_88 g_n))) rfl rfl ?_
  refine V_iret C dX7_count_91 ?_
  exact ⟨rfl, rfl⟩
set_option maxHeartbeats 4000000 in
set_option maxRecDepth 100000 in
theorem c_X8_count4 (σ : gS) : g_Met yX8_count cX8_count 4 (some .int) 3 kM [.ref 63, .int 4] σ (fun rv s => rv = some (.int (σ 63 10)) ∧ s = σ) := by
  refine g_Met.of (own := 8) (L := [some (.ref 63), some (.int 4), none, none]) (by decide) rfl rfl (fun ad => Nat.le_of_ble_eq_true rfl) (fun ad => rfl) (fun X G K C => ?_)
  refine V_blk C (pc' := 6) (σ' := σ) (L' := [some (.ref 63), some (.int 4), none, none]) (st' := [.long 8, .long 0, .long (Int32.toInt64 4)]) (g_c dX8_count_0 (g_c dX8_count_1 (g_c dX8_count_2 (g_c dX8_count_3 g_n)))) rfl rfl ?_
  refine V_callSI C cs_X8_110 (c_X8_in32 σ 4 0 8 (by decide) (by decide)) (by decide) (by decide) (fun _ h => h) (As := [.long (Int32.toInt64 4), .long 0, .long 8]) (rest := []) rfl rfl (Nat.le_of_ble_eq_true rfl) dX8_count_6 ?_
  refine V_if_ne_b C (tgt := 15) dX8_count_9 (by decide) (fun _ => ?_) (fun z => absurd (by decide) z)
  refine V_blk C (pc' := 17) (σ' := σ) (L' := [some (.ref 63), some (.int 4), none, none]) (st' := [.int 5, .int 4]) (g_c dX8_count_15 (g_c dX8_count_16 g_n)) rfl rfl ?_
  refine V_icmp_ge2 C (tgt := 72) dX8_count_17 (by decide) (fun z => absurd z (by decide)) (fun _ => ?_)
  refine V_blk C (pc' := 21) (σ' := σ) (L' := [some (.ref 63), some (.int 4), none, none]) (st' := [.int 4]) (g_c dX8_count_20 g_n) rfl rfl ?_
  refine V_if_ne C (tgt := 31) dX8_count_21 (by decide) (fun _ => ?_) (fun z => absurd z (by decide))
  refine V_blk C (pc' := 33) (σ' := σ) (L' := [some (.ref 63), some (.int 4), none, none]) (st' := [.int 1, .int 4]) (g_c dX8_count_31 (g_c dX8_count_32 g_n)) rfl rfl ?_
  refine V_icmp_ne C (tgt := 43) dX8_count_33 (by decide) (fun _ => ?_) (fun z => absurd z (by decide))
  refine V_blk C (pc' := 45) (σ' := σ) (L' := [some (.ref 63), some (.int 4), none, none]) (st' := [.int 2, .int 4]) (g_c dX8_count_43 (g_c dX8_count_44 g_n)) rfl rfl ?_
  refine V_icmp_ne C (tgt := 55) dX8_count_45 (by decide) (fun _ => ?_) (fun z => absurd z (by decide))
  refine V_blk C (pc' := 57) (σ' := σ) (L' := [some (.ref 63), some (.int 4), none, none]) (st' := [.int 3, .int 4]) (g_c dX8_count_55 (g_c dX8_count_56 g_n)) rfl rfl ?_
  refine V_icmp_ne C (tgt := 67) dX8_count_57 (by decide) (fun _ => ?_) (fun z => absurd z (by decide))
  refine V_blk C (pc' := 71) (σ' := σ) (L' := [some (.ref 63), some (.int 4), none, none]) (st' := [.int (σ 63 10)]) (g_c dX8_count_67 (g_c dX8_count_68 g_n)) rfl rfl ?_
  refine V_iret C dX8_count_71 ?_
  exact ⟨rfl, rfl⟩
set_option maxHeartbeats 4000000 in
set_option maxRecDepth 100000 in
theorem c_X7_count5 (σ : gS) : g_Met yX7_count cX7_count 2 (some .int) 3 kX [.ref 0, .int 5] σ (fun rv s => rv = some (.int (σ 0 5)) ∧ s = σ) := by
  refine g_Met.of (own := 7) (L := [some (.ref 0), some (.int 5)]) (by decide) rfl rfl (fun ad => Nat.le_of_ble_eq_true rfl) (fun ad => rfl) (fun X G K C => ?_)
  refine V_blk C (pc' := 1) (σ' := σ) (L' := [some (.ref 0), some (.int 5)]) (st' := [.int 5]) (g_c dX7_count_0 g_n) rfl rfl ?_
  refine V_tsw C 5 91 (tgt := 92) dX7_count_1 (by decide) (by decide) (by decide) (by decide) (fun _ => ?_) (fun z => absurd rfl z)
  refine V_blk C (pc' := 96) (σ' := σ) (L' := [some (.ref 0), some (.int 5)]) (st' := [.int (σ 0 5)]) (g_c dX7_count_92 (g_c dX7_count_93 g_n)) rfl rfl ?_
  refine V_iret C dX7_count_96 ?_
  exact ⟨rfl, rfl⟩
set_option maxHeartbeats 4000000 in
set_option maxRecDepth 100000 in
theorem c_X8_count5 (σ : gS) : g_Met yX8_count cX8_count 4 (some .int) 3 kM [.ref 63, .int 5] σ (fun rv s => rv = some (.int (σ 63 3)) ∧ s = σ) := by
  refine g_Met.of (own := 8) (L := [some (.ref 63), some (.int 5), none, none]) (by decide) rfl rfl (fun ad => Nat.le_of_ble_eq_true rfl) (fun ad => rfl) (fun X G K C => ?_)
  refine V_blk C (pc' := 6) (σ' := σ) (L' := [some (.ref 63), some (.int 5), none, none]) (st' := [.long 8, .long 0, .long (Int32.toInt64 5)]) (g_c dX8_count_0 (g_c dX8_count_1 (g_c dX8_count_2 (g_c dX8_count_3 g_n)))) rfl rfl ?_
  refine V_callSI C cs_X8_110 (c_X8_in32 σ 5 0 8 (by decide) (by decide)) (by decide) (by decide) (fun _ h => h) (As := [.long (Int32.toInt64 5), .long 0, .long 8]) (rest := []) rfl rfl (Nat.le_of_ble_eq_true rfl) dX8_count_6 ?_
  refine V_if_ne_b C (tgt := 15) dX8_count_9 (by decide) (fun _ => ?_) (fun z => absurd (by decide) z)
  refine V_blk C (pc' := 17) (σ' := σ) (L' := [some (.ref 63), some (.int 5), none, none]) (st' := [.int 5, .int 5]) (g_c dX8_count_15 (g_c dX8_count_16 g_n)) rfl rfl ?_
  refine V_icmp_ge2 C (tgt := 72) dX8_count_17 (by decide) (fun _ => ?_) (fun z => absurd z (by decide))
  refine V_blk C (pc' := 75) (σ' := σ) (L' := [some (.ref 63), some (.int 5), none, none]) (st' := [.int 8, .int 5]) (g_c dX8_count_72 (g_c dX8_count_73 g_n)) rfl rfl ?_
  refine V_icmp_ge2 C (tgt := 108) dX8_count_75 (by decide) (fun z => absurd z (by decide)) (fun _ => ?_)
  refine V_blk C (pc' := 80) (σ' := σ) (L' := [some (.ref 63), some (.int 5), none, none]) (st' := [.int 5, .int 5]) (g_c dX8_count_78 (g_c dX8_count_79 g_n)) rfl rfl ?_
  refine V_icmp_ne C (tgt := 90) dX8_count_80 (by decide) (fun z => absurd z (by decide)) (fun _ => ?_)
  refine V_blk C (pc' := 87) (σ' := σ) (L' := [some (.ref 63), some (.int 5), none, none]) (st' := [.int (σ 63 3)]) (g_c dX8_count_83 (g_c dX8_count_84 g_n)) rfl rfl ?_
  refine V_goto C (tgt := 107) dX8_count_87 (by decide) ?_
  refine V_iret C dX8_count_107 ?_
  exact ⟨rfl, rfl⟩
set_option maxHeartbeats 4000000 in
set_option maxRecDepth 100000 in
theorem c_X7_count6 (σ : gS) : g_Met yX7_count cX7_count 2 (some .int) 3 kX [.ref 0, .int 6] σ (fun rv s => rv = some (.int (σ 19 1)) ∧ s = σ) := by
  refine g_Met.of (own := 7) (L := [some (.ref 0), some (.int 6)]) (by decide) rfl rfl (fun ad => Nat.le_of_ble_eq_true rfl) (fun ad => rfl) (fun X G K C => ?_)
  refine V_blk C (pc' := 1) (σ' := σ) (L' := [some (.ref 0), some (.int 6)]) (st' := [.int 6]) (g_c dX7_count_0 g_n) rfl rfl ?_
  refine V_tsw C 6 96 (tgt := 97) dX7_count_1 (by decide) (by decide) (by decide) (by decide) (fun _ => ?_) (fun z => absurd rfl z)
  refine V_blk C (pc' := 104) (σ' := σ) (L' := [some (.ref 0), some (.int 6)]) (st' := [.int (σ 19 1)]) (g_c dX7_count_97 (g_c dX7_count_98 (g_c dX7_count_101 g_n))) rfl rfl ?_
  refine V_iret C dX7_count_104 ?_
  exact ⟨rfl, rfl⟩
set_option maxHeartbeats 4000000 in
set_option maxRecDepth 100000 in
theorem c_X8_count6 (σ : gS) : g_Met yX8_count cX8_count 4 (some .int) 3 kM [.ref 63, .int 6] σ (fun rv s => rv = some (.int (σ 63 6)) ∧ s = σ) := by
  refine g_Met.of (own := 8) (L := [some (.ref 63), some (.int 6), none, none]) (by decide) rfl rfl (fun ad => Nat.le_of_ble_eq_true rfl) (fun ad => rfl) (fun X G K C => ?_)
  refine V_blk C (pc' := 6) (σ' := σ) (L' := [some (.ref 63), some (.int 6), none, none]) (st' := [.long 8, .long 0, .long (Int32.toInt64 6)]) (g_c dX8_count_0 (g_c dX8_count_1 (g_c dX8_count_2 (g_c dX8_count_3 g_n)))) rfl rfl ?_
  refine V_callSI C cs_X8_110 (c_X8_in32 σ 6 0 8 (by decide) (by decide)) (by decide) (by decide) (fun _ h => h) (As := [.long (Int32.toInt64 6), .long 0, .long 8]) (rest := []) rfl rfl (Nat.le_of_ble_eq_true rfl) dX8_count_6 ?_
  refine V_if_ne_b C (tgt := 15) dX8_count_9 (by decide) (fun _ => ?_) (fun z => absurd (by decide) z)
  refine V_blk C (pc' := 17) (σ' := σ) (L' := [some (.ref 63), some (.int 6), none, none]) (st' := [.int 5, .int 6]) (g_c dX8_count_15 (g_c dX8_count_16 g_n)) rfl rfl ?_
  refine V_icmp_ge2 C (tgt := 72) dX8_count_17 (by decide) (fun _ => ?_) (fun z => absurd z (by decide))
  refine V_blk C (pc' := 75) (σ' := σ) (L' := [some (.ref 63), some (.int 6), none, none]) (st' := [.int 8, .int 6]) (g_c dX8_count_72 (g_c dX8_count_73 g_n)) rfl rfl ?_
  refine V_icmp_ge2 C (tgt := 108) dX8_count_75 (by decide) (fun z => absurd z (by decide)) (fun _ => ?_)
  refine V_blk C (pc' := 80) (σ' := σ) (L' := [some (.ref 63), some (.int 6), none, none]) (st' := [.int 5, .int 6]) (g_c dX8_count_78 (g_c dX8_count_79 g_n)) rfl rfl ?_
  refine V_icmp_ne C (tgt := 90) dX8_count_80 (by decide) (fun _ => ?_) (fun z => absurd z (by decide))
  refine V_blk C (pc' := 93) (σ' := σ) (L' := [some (.ref 63), some (.int 6), none, none]) (st' := [.int 6, .int 6]) (g_c dX8_count_90 (g_c dX8_count_91 g_n)) rfl rfl ?_
  refine V_icmp_ne C (tgt := 103) dX8_count_93 (by decide) (fun z => absurd z (by decide)) (fun _ => ?_)
  refine V_blk C (pc' := 100) (σ' := σ) (L' := [some (.ref 63), some (.int 6), none, none]) (st' := [.int (σ 63 6)]) (g_c dX8_count_96 (g_c dX8_count_97 g_n)) rfl rfl ?_
  refine V_goto C (tgt := 107) dX8_count_100 (by decide) ?_
  refine V_iret C dX8_count_107 ?_
  exact ⟨rfl, rfl⟩
set_option maxHeartbeats 4000000 in
set_option maxRecDepth 100000 in
theorem c_X7_count7 (σ : gS) : g_Met yX7_count cX7_count 2 (some .int) 3 kX [.ref 0, .int 7] σ (fun rv s => rv = some (.int (σ 1 13)) ∧ s = σ) := by
  refine g_Met.of (own := 7) (L := [some (.ref 0), some (.int 7)]) (by decide) rfl rfl (fun ad => Nat.le_of_ble_eq_true rfl) (fun ad => rfl) (fun X G K C => ?_)
  refine V_blk C (pc' := 1) (σ' := σ) (L' := [some (.ref 0), some (.int 7)]) (st' := [.int 7]) (g_c dX7_count_0 g_n) rfl rfl ?_
  refine V_tsw C 7 104 (tgt := 105) dX7_count_1 (by decide) (by decide) (by decide) (by decide) (fun _ => ?_) (fun z => absurd rfl z)
  refine V_blk C (pc' := 112) (σ' := σ) (L' := [some (.ref 0), some (.int 7)]) (st' := [.int (σ 1 13)]) (g_c dX7_count_105 (g_c dX7_count_106 (g_c dX7_count_109 g_n))) rfl rfl ?_
  refine V_iret C dX7_count_112 ?_
  exact ⟨rfl, rfl⟩
set_option maxHeartbeats 4000000 in
set_option maxRecDepth 100000 in
theorem c_X8_count7 (σ : gS) : g_Met yX8_count cX8_count 4 (some .int) 3 kM [.ref 63, .int 7] σ (fun rv s => rv = some (.int (σ 63 4)) ∧ s = σ) := by
  refine g_Met.of (own := 8) (L := [some (.ref 63), some (.int 7), none, none]) (by decide) rfl rfl (fun ad => Nat.le_of_ble_eq_true rfl) (fun ad => rfl) (fun X G K C => ?_)
  refine V_blk C (pc' := 6) (σ' := σ) (L' := [some (.ref 63), some (.int 7), none, none]) (st' := [.long 8, .long 0, .long (Int32.toInt64 7)]) (g_c dX8_count_0 (g_c dX8_count_1 (g_c dX8_count_2 (g_c dX8_count_3 g_n)))) rfl rfl ?_
  refine V_callSI C cs_X8_110 (c_X8_in32 σ 7 0 8 (by decide) (by decide)) (by decide) (by decide) (fun _ h => h) (As := [.long (Int32.toInt64 7), .long 0, .long 8]) (rest := []) rfl rfl (Nat.le_of_ble_eq_true rfl) dX8_count_6 ?_
  refine V_if_ne_b C (tgt := 15) dX8_count_9 (by decide) (fun _ => ?_) (fun z => absurd (by decide) z)
  refine V_blk C (pc' := 17) (σ' := σ) (L' := [some (.ref 63), some (.int 7), none, none]) (st' := [.int 5, .int 7]) (g_c dX8_count_15 (g_c dX8_count_16 g_n)) rfl rfl ?_
  refine V_icmp_ge2 C (tgt := 72) dX8_count_17 (by decide) (fun _ => ?_) (fun z => absurd z (by decide))
  refine V_blk C (pc' := 75) (σ' := σ) (L' := [some (.ref 63), some (.int 7), none, none]) (st' := [.int 8, .int 7]) (g_c dX8_count_72 (g_c dX8_count_73 g_n)) rfl rfl ?_
  refine V_icmp_ge2 C (tgt := 108) dX8_count_75 (by decide) (fun z => absurd z (by decide)) (fun _ => ?_)
  refine V_blk C (pc' := 80) (σ' := σ) (L' := [some (.ref 63), some (.int 7), none, none]) (st' := [.int 5, .int 7]) (g_c dX8_count_78 (g_c dX8_count_79 g_n)) rfl rfl ?_
  refine V_icmp_ne C (tgt := 90) dX8_count_80 (by decide) (fun _ => ?_) (fun z => absurd z (by decide))
  refine V_blk C (pc' := 93) (σ' := σ) (L' := [some (.ref 63), some (.int 7), none, none]) (st' := [.int 6, .int 7]) (g_c dX8_count_90 (g_c dX8_count_91 g_n)) rfl rfl ?_
  refine V_icmp_ne C (tgt := 103) dX8_count_93 (by decide) (fun _ => ?_) (fun z => absurd z (by decide))
  refine V_blk C (pc' := 107) (σ' := σ) (L' := [some (.ref 63), some (.int 7), none, none]) (st' := [.int (σ 63 4)]) (g_c dX8_count_103 (g_c dX8_count_104 g_n)) rfl rfl ?_
  refine V_iret C dX8_count_107 ?_
  exact ⟨rfl, rfl⟩
set_option maxHeartbeats 4000000 in
set_option maxRecDepth 100000 in
theorem c_X7_countOut (σ : gS) (w : Int32) (hw : ¬ g_in w 0 8) : g_Met yX7_count cX7_count 2 (some .int) 3 kX [.ref 0, .int w] σ (fun rv s => rv = some (.int (-2)) ∧ s = σ) := by
  refine g_Met.of (own := 7) (L := [some (.ref 0), some (.int w)]) (by decide) rfl rfl (fun ad => Nat.le_of_ble_eq_true rfl) (fun ad => rfl) (fun X G K C => ?_)
  refine V_blk C (pc' := 1) (σ' := σ) (L' := [some (.ref 0), some (.int w)]) (st' := [.int w]) (g_c dX7_count_0 g_n) rfl rfl ?_
  refine V_tso C (tgt := 118) dX7_count_1 (g_tso2 hw (by decide) (by decide)) (by decide) ?_
  refine V_blk C (pc' := 120) (σ' := σ) (L' := [some (.ref 0), some (.int w)]) (st' := [.int (-2)]) (g_c dX7_count_118 g_n) rfl rfl ?_
  refine V_iret C dX7_count_120 ?_
  exact ⟨rfl, rfl⟩
set_option maxHeartbeats 4000000 in
set_option maxRecDepth 100000 in
theorem c_X8_countOut (σ : gS) (w : Int32) (hw : ¬ g_in w 0 8) : g_Met yX8_count cX8_count 4 (some .int) 3 kM [.ref 63, .int w] σ (fun rv s => rv = some (.int (-2)) ∧ s = σ) := by
  refine g_Met.of (own := 8) (L := [some (.ref 63), some (.int w), none, none]) (by decide) rfl rfl (fun ad => Nat.le_of_ble_eq_true rfl) (fun ad => rfl) (fun X G K C => ?_)
  refine V_blk C (pc' := 6) (σ' := σ) (L' := [some (.ref 63), some (.int w), none, none]) (st' := [.long 8, .long 0, .long (Int32.toInt64 w)]) (g_c dX8_count_0 (g_c dX8_count_1 (g_c dX8_count_2 (g_c dX8_count_3 g_n)))) rfl rfl ?_
  refine V_callSI C cs_X8_110 (c_X8_in32 σ w 0 8 (by decide) (by decide)) (by decide) (by decide) (fun _ h => h) (As := [.long (Int32.toInt64 w), .long 0, .long 8]) (rest := []) rfl rfl (Nat.le_of_ble_eq_true rfl) dX8_count_6 ?_
  refine V_if_ne_b C (tgt := 15) dX8_count_9 (by decide) (fun h9 => absurd h9 hw) (fun h9 => ?_)
  refine V_blk C (pc' := 14) (σ' := σ) (L' := [some (.ref 63), some (.int w), none, none]) (st' := [.int (-2)]) (g_c dX8_count_12 g_n) rfl rfl ?_
  refine V_iret C dX8_count_14 ?_
  exact ⟨rfl, rfl⟩
set_option maxHeartbeats 4000000 in
set_option maxRecDepth 100000 in
theorem c_X5_steady {KR : Nat → Bool} (σ : gS) (v : Int32) : g_Met yX5_steady cX5_steady 1 (some .int) 1 KR [.int v] σ (fun rv s => rv = some (.int (v + 1)) ∧ s = σ) := by
  refine g_Met.of (own := 5) (L := [some (.int v)]) (by decide) rfl rfl (fun ad => Nat.le_of_ble_eq_true rfl) (fun ad => rfl) (fun X G K C => ?_)
  refine V_blk C (pc' := 3) (σ' := σ) (L' := [some (.int v)]) (st' := [.int (v + 1)]) (g_c dX5_steady_0 (g_c dX5_steady_1 (g_c dX5_steady_2 g_n))) rfl rfl ?_
  refine V_iret C dX5_steady_3 ?_
  exact ⟨rfl, rfl⟩
set_option maxHeartbeats 4000000 in
set_option maxRecDepth 100000 in
theorem c_X5_wandering {KR : Nat → Bool} (σ : gS) (v rain number : Int32) : g_Met yX5_wandering cX5_wandering 3 (some .int) 1 KR [.int v, .int rain, .int number] σ (fun rv s => rv = some (.int (if number < rain then (v / 2) else v)) ∧ s = σ) := by
  refine g_Met.of (own := 5) (L := [some (.int v), some (.int rain), some (.int number)]) (by decide) rfl rfl (fun ad => Nat.le_of_ble_eq_true rfl) (fun ad => rfl) (fun X G K C => ?_)
  refine V_blk C (pc' := 2) (σ' := σ) (L' := [some (.int v), some (.int rain), some (.int number)]) (st' := [.int number, .int rain]) (g_c dX5_wandering_0 (g_c dX5_wandering_1 g_n)) rfl rfl ?_
  refine V_icmp_le2 C (tgt := 11) dX5_wandering_2 (by decide) (fun h2 => ?_) (fun h2 => ?_)
  · skip
    refine V_blk C (pc' := 12) (σ' := σ) (L' := [some (.int v), some (.int rain), some (.int number)]) (st' := [.int v]) (g_c dX5_wandering_11 g_n) rfl rfl ?_
    refine V_iret C dX5_wandering_12 ?_
    exact ⟨by rw [if_neg (fun z => h2 z)], rfl⟩
  · skip
    refine V_blk C (pc' := 7) (σ' := σ) (L' := [some (.int v), some (.int rain), some (.int number)]) (st' := [.int 2, .int v]) (g_c dX5_wandering_5 (g_c dX5_wandering_6 g_n)) rfl rfl ?_
    refine V_idiv C (by decide) dX5_wandering_7 ?_
    refine V_goto C (tgt := 12) dX5_wandering_8 (by decide) ?_
    refine V_iret C dX5_wandering_12 ?_
    exact ⟨by rw [if_pos h2], rfl⟩
set_option maxHeartbeats 4000000 in
set_option maxRecDepth 100000 in
theorem c_X0_cost (σ : gS) : g_Met yX0_cost cX0_cost 1 (some .int) 1 kX [.ref 26] σ (fun rv s => rv = some (.int ((σ 26 13) + (σ 26 14))) ∧ s = σ) := by
  refine g_Met.of (own := 0) (L := [some (.ref 26)]) (by decide) rfl rfl (fun ad => Nat.le_of_ble_eq_true rfl) (fun ad => rfl) (fun X G K C => ?_)
  refine V_blk C (pc' := 9) (σ' := σ) (L' := [some (.ref 26)]) (st' := [.int ((σ 26 13) + (σ 26 14))]) (g_c dX0_cost_0 (g_c dX0_cost_1 (g_c dX0_cost_4 (g_c dX0_cost_5 (g_c dX0_cost_8 g_n))))) rfl rfl ?_
  refine V_iret C dX0_cost_9 ?_
  exact ⟨rfl, rfl⟩
set_option maxHeartbeats 4000000 in
set_option maxRecDepth 100000 in
theorem c_X5_steer (σ : gS) (d p : Int32) : g_Met yX5_steer cX5_steer 3 none 1 kX [.ref 33, .int d, .int p] σ (fun rv s => rv = none ∧ s = (g_up (g_up σ 33 4 d) 33 5 p)) := by
  refine g_Met.of (own := 5) (L := [some (.ref 33), some (.int d), some (.int p)]) (by decide) rfl rfl (fun ad => Nat.le_of_ble_eq_true rfl) (fun ad => rfl) (fun X G K C => ?_)
  refine V_blk C (pc' := 10) (σ' := (g_up (g_up σ 33 4 d) 33 5 p)) (L' := [some (.ref 33), some (.int d), some (.int p)]) (st' := []) (g_c dX5_steer_0 (g_c dX5_steer_1 (g_c dX5_steer_2 (g_c dX5_steer_5 (g_c dX5_steer_6 (g_c dX5_steer_7 g_n)))))) rfl rfl ?_
  refine V_vret C dX5_steer_10 ?_
  exact ⟨rfl, rfl⟩
set_option maxHeartbeats 4000000 in
set_option maxRecDepth 100000 in
theorem c_X5_repeat (σ : gS) (d n : Int32) : g_Met yX5_repeat cX5_repeat 3 none 2 kX [.ref 33, .int d, .int n] σ (fun rv s => rv = none ∧ s = (if g_in d 0 5 then (g_up σ 35 (ix d) n) else σ)) := by
  refine g_Met.of (own := 5) (L := [some (.ref 33), some (.int d), some (.int n)]) (by decide) rfl rfl (fun ad => Nat.le_of_ble_eq_true rfl) (fun ad => rfl) (fun X G K C => ?_)
  refine V_blk C (pc' := 3) (σ' := σ) (L' := [some (.ref 33), some (.int d), some (.int n)]) (st' := [.int 5, .int 0, .int d]) (g_c dX5_repeat_0 (g_c dX5_repeat_1 (g_c dX5_repeat_2 g_n))) rfl rfl ?_
  refine V_callNI C cn_X5_48 (c_X7_isIn σ d 0 5) (by decide) (by decide) (fun _ h => h) (As := [.int d, .int 0, .int 5]) (rest := []) rfl rfl (Nat.le_of_ble_eq_true rfl) dX5_repeat_3 ?_
  refine V_if_eq_b C (tgt := 16) dX5_repeat_6 (by decide) (fun h6 => ?_) (fun h6 => ?_)
  · skip
    refine V_vret C dX5_repeat_16 ?_
    exact ⟨rfl, by rw [if_neg (fun z => h6 z)]⟩
  · skip
    refine V_blk C (pc' := 15) (σ' := σ) (L' := [some (.ref 33), some (.int d), some (.int n)]) (st' := [.int n, .int d, .ref 35]) (g_c dX5_repeat_9 (g_c dX5_repeat_10 (g_c dX5_repeat_13 (g_c dX5_repeat_14 g_n)))) rfl rfl ?_
    refine V_iast C (k := 35) (n := 6) (by rfl) (by rfl) (g_vpc h6 (by decide)) dX5_repeat_15 ?_
    refine V_vret C dX5_repeat_16 ?_
    exact ⟨rfl, by rw [if_pos h6]⟩
set_option maxHeartbeats 4000000 in
set_option maxRecDepth 100000 in
theorem c_X3_name (σ : gS) (a b c d e f : Int32) : g_Met yX3_name cX3_name 7 none 1 kX [.ref 23, .int a, .int b, .int c, .int d, .int e, .int f] σ (fun rv s => rv = none ∧ s = (g_up (g_up (g_up (g_up (g_up (g_up σ 24 0 a) 24 1 b) 24 2 c) 24 3 d) 24 4 e) 24 5 f)) := by
  refine g_Met.of (own := 3) (L := [some (.ref 23), some (.int a), some (.int b), some (.int c), some (.int d), some (.int e), some (.int f)]) (by decide) rfl rfl (fun ad => Nat.le_of_ble_eq_true rfl) (fun ad => rfl) (fun X G K C => ?_)
  refine V_blk C (pc' := 6) (σ' := σ) (L' := [some (.ref 23), some (.int a), some (.int b), some (.int c), some (.int d), some (.int e), some (.int f)]) (st' := [.int a, .int 0, .ref 24]) (g_c dX3_name_0 (g_c dX3_name_1 (g_c dX3_name_4 (g_c dX3_name_5 g_n)))) rfl rfl ?_
  refine V_iastJ C (j := 0) (k := 24) (n := 6) (by rfl) (by rfl) (by rfl) (by decide) dX3_name_6 ?_
  refine V_blk C (pc' := 13) (σ' := (g_up σ 24 0 a)) (L' := [some (.ref 23), some (.int a), some (.int b), some (.int c), some (.int d), some (.int e), some (.int f)]) (st' := [.int b, .int 1, .ref 24]) (g_c dX3_name_7 (g_c dX3_name_8 (g_c dX3_name_11 (g_c dX3_name_12 g_n)))) rfl rfl ?_
  refine V_iastJ C (j := 1) (k := 24) (n := 6) (by rfl) (by rfl) (by rfl) (by decide) dX3_name_13 ?_
  refine V_blk C (pc' := 20) (σ' := (g_up (g_up σ 24 0 a) 24 1 b)) (L' := [some (.ref 23), some (.int a), some (.int b), some (.int c), some (.int d), some (.int e), some (.int f)]) (st' := [.int c, .int 2, .ref 24]) (g_c dX3_name_14 (g_c dX3_name_15 (g_c dX3_name_18 (g_c dX3_name_19 g_n)))) rfl rfl ?_
  refine V_iastJ C (j := 2) (k := 24) (n := 6) (by rfl) (by rfl) (by rfl) (by decide) dX3_name_20 ?_
  refine V_blk C (pc' := 28) (σ' := (g_up (g_up (g_up σ 24 0 a) 24 1 b) 24 2 c)) (L' := [some (.ref 23), some (.int a), some (.int b), some (.int c), some (.int d), some (.int e), some (.int f)]) (st' := [.int d, .int 3, .ref 24]) (g_c dX3_name_21 (g_c dX3_name_22 (g_c dX3_name_25 (g_c dX3_name_26 g_n)))) rfl rfl ?_
  refine V_iastJ C (j := 3) (k := 24) (n := 6) (by rfl) (by rfl) (by rfl) (by decide) dX3_name_28 ?_
  refine V_blk C (pc' := 36) (σ' := (g_up (g_up (g_up (g_up σ 24 0 a) 24 1 b) 24 2 c) 24 3 d)) (L' := [some (.ref 23), some (.int a), some (.int b), some (.int c), some (.int d), some (.int e), some (.int f)]) (st' := [.int e, .int 4, .ref 24]) (g_c dX3_name_29 (g_c dX3_name_30 (g_c dX3_name_33 (g_c dX3_name_34 g_n)))) rfl rfl ?_
  refine V_iastJ C (j := 4) (k := 24) (n := 6) (by rfl) (by rfl) (by rfl) (by decide) dX3_name_36 ?_
  refine V_blk C (pc' := 44) (σ' := (g_up (g_up (g_up (g_up (g_up σ 24 0 a) 24 1 b) 24 2 c) 24 3 d) 24 4 e)) (L' := [some (.ref 23), some (.int a), some (.int b), some (.int c), some (.int d), some (.int e), some (.int f)]) (st' := [.int f, .int 5, .ref 24]) (g_c dX3_name_37 (g_c dX3_name_38 (g_c dX3_name_41 (g_c dX3_name_42 g_n)))) rfl rfl ?_
  refine V_iastJ C (j := 5) (k := 24) (n := 6) (by rfl) (by rfl) (by rfl) (by decide) dX3_name_44 ?_
  refine V_vret C dX3_name_45 ?_
  exact ⟨rfl, rfl⟩
