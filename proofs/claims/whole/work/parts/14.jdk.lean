/-! STRING CONSTANTS: length, charAt, indexOf; THE KINDS -/
theorem g_shr0 (x : Int32) : x >>> ((0 : Int32) &&& 31) = x := sb_shr0 x
set_option maxHeartbeats 4000000 in
set_option maxRecDepth 100000 in
theorem c_coder {KR : Nat → Bool} (σ : gS) {i : Nat} (hi : i < 3) : g_Met yJ0_coder_7d493 cJ0_coder_7d493 1 (some .byte) 1 KR [.ref (100 + i)] σ (fun rv s => rv = some (.int 0) ∧ s = σ) := by
  refine g_Met.of (own := 10) (L := [some (.ref (100 + i))]) (by decide) rfl rfl (fun ad => Nat.le_of_ble_eq_true rfl) (fun ad => rfl) (fun X G K C => ?_)
  refine V_gsC C dJ0_coder_7d493_0 ?_
  refine V_if_eq C (tgt := 13) dJ0_coder_7d493_3 (by decide) (fun z => absurd z (by decide)) (fun _ => ?_)
  refine V_blk C (pc' := 7) (σ' := σ) (L' := [some (.ref (100 + i))]) (st' := [.ref (100 + i)]) (g_c dJ0_coder_7d493_6 g_n) rfl rfl ?_
  refine V_scod C (i := i) hi dJ0_coder_7d493_7 ?_
  refine V_goto C (tgt := 14) dJ0_coder_7d493_10 (by decide) ?_
  refine V_bret C (by decide) dJ0_coder_7d493_14 ?_
  exact ⟨rfl, rfl⟩
set_option maxHeartbeats 4000000 in
set_option maxRecDepth 100000 in
theorem c_isLatin1 {KR : Nat → Bool} (σ : gS) {i : Nat} (hi : i < 3) : g_Met yJ0_isLatin1_aae02 cJ0_isLatin1_aae02 1 (some .boolean) 1 KR [.ref (100 + i)] σ (fun rv s => rv = some (.int 1) ∧ s = σ) := by
  refine g_Met.of (own := 10) (L := [some (.ref (100 + i))]) (by decide) rfl rfl (fun ad => Nat.le_of_ble_eq_true rfl) (fun ad => rfl) (fun X G K C => ?_)
  refine V_gsC C dJ0_isLatin1_aae02_0 ?_
  refine V_if_eq C (tgt := 17) dJ0_isLatin1_aae02_3 (by decide) (fun z => absurd z (by decide)) (fun _ => ?_)
  refine V_blk C (pc' := 7) (σ' := σ) (L' := [some (.ref (100 + i))]) (st' := [.ref (100 + i)]) (g_c dJ0_isLatin1_aae02_6 g_n) rfl rfl ?_
  refine V_scod C (i := i) hi dJ0_isLatin1_aae02_7 ?_
  refine V_if_ne C (tgt := 17) dJ0_isLatin1_aae02_10 (by decide) (fun z => absurd z (by decide)) (fun _ => ?_)
  refine V_blk C (pc' := 14) (σ' := σ) (L' := [some (.ref (100 + i))]) (st' := [.int 1]) (g_c dJ0_isLatin1_aae02_13 g_n) rfl rfl ?_
  refine V_goto C (tgt := 18) dJ0_isLatin1_aae02_14 (by decide) ?_
  refine V_zret C (by decide) dJ0_isLatin1_aae02_18 ?_
  exact ⟨rfl, rfl⟩
set_option maxHeartbeats 4000000 in
set_option maxRecDepth 100000 in
theorem c_length {KR : Nat → Bool} (σ : gS) {i : Nat} (hi : i < 3) : g_Met yJ0_length_8abf5 cJ0_length_8abf5 1 (some .int) 2 KR [.ref (100 + i)] σ (fun rv s => rv = some (.int (nI (g_slen.getD i 0))) ∧ s = σ) := by
  refine g_Met.of (own := 10) (L := [some (.ref (100 + i))]) (by decide) rfl rfl (fun ad => Nat.le_of_ble_eq_true rfl) (fun ad => rfl) (fun X G K C => ?_)
  refine V_blk C (pc' := 1) (σ' := σ) (L' := [some (.ref (100 + i))]) (st' := [.ref (100 + i)]) (g_c dJ0_length_8abf5_0 g_n) rfl rfl ?_
  refine V_sval C (i := i) hi dJ0_length_8abf5_1 ?_
  refine V_blen C (i := i) hi dJ0_length_8abf5_4 ?_
  refine V_blk C (pc' := 6) (σ' := σ) (L' := [some (.ref (100 + i))]) (st' := [.ref (100 + i), .int (nI (g_slen.getD i 0))]) (g_c dJ0_length_8abf5_5 g_n) rfl rfl ?_
  refine V_callVs C (i := i) cv_X10_335 (c_coder σ hi) hi rfl (by decide) (by decide) (fun _ h => h) (As := []) (rest := [.int (nI (g_slen.getD i 0))]) rfl rfl (Nat.le_of_ble_eq_true rfl) dJ0_length_8abf5_6 ?_
  refine V_blk C (pc' := 10) (σ' := σ) (L' := [some (.ref (100 + i))]) (st' := [.int ((nI (g_slen.getD i 0)) >>> (0 &&& 31))]) (g_c dJ0_length_8abf5_9 g_n) rfl rfl ?_
  refine V_iret C dJ0_length_8abf5_10 ?_
  exact ⟨by rw [g_shr0], rfl⟩
set_option maxHeartbeats 4000000 in
set_option maxRecDepth 100000 in
theorem c_chk_n {KR : Nat → Bool} (σ : gS) {k n : Nat} (hk : k < n) (hn : n ≤ 1000) : g_Met yJ3_checkIndex_8e157 cJ3_checkIndex_8e157 3 (some .int) 1 KR [.int (nI k), .int (nI n), .null] σ (fun rv s => rv = some (.int (nI k)) ∧ s = σ) := by
  have hA : ¬ nI k < 0 := nI_pos (by omega)
  have hB : nI k < nI n := nI_ltL hk (by omega)
  refine g_Met.of (own := 12) (L := [some (.int (nI k)), some (.int (nI n)), some (.null)]) (by decide) rfl rfl (fun ad => Nat.le_of_ble_eq_true rfl) (fun ad => rfl) (fun X G K C => ?_)
  refine V_blk C (pc' := 1) (σ' := σ) (L' := [some (.int (nI k)), some (.int (nI n)), some (.null)]) (st' := [.int (nI k)]) (g_c dJ3_checkIndex_8e157_0 g_n) rfl rfl ?_
  refine V_if_lt C (tgt := 9) dJ3_checkIndex_8e157_1 (by decide) (fun h1 => absurd h1 hA) (fun h1 => ?_)
  refine V_blk C (pc' := 6) (σ' := σ) (L' := [some (.int (nI k)), some (.int (nI n)), some (.null)]) (st' := [.int (nI n), .int (nI k)]) (g_c dJ3_checkIndex_8e157_4 (g_c dJ3_checkIndex_8e157_5 g_n)) rfl rfl ?_
  refine V_icmp_lt C (tgt := 16) dJ3_checkIndex_8e157_6 (by decide) (fun h6 => ?_) (fun h6 => absurd hB h6)
  refine V_blk C (pc' := 17) (σ' := σ) (L' := [some (.int (nI k)), some (.int (nI n)), some (.null)]) (st' := [.int (nI k)]) (g_c dJ3_checkIndex_8e157_16 g_n) rfl rfl ?_
  refine V_iret C dJ3_checkIndex_8e157_17 ?_
  exact ⟨rfl, rfl⟩
set_option maxHeartbeats 4000000 in
set_option maxRecDepth 100000 in
theorem c_chk_r {KR : Nat → Bool} (σ : gS) {k n : Nat} (hk : k < n) (hn : n ≤ 1000) : g_Met yJ3_checkIndex_8e157 cJ3_checkIndex_8e157 3 (some .int) 1 KR [.int (nI k), .int (nI n), .ref 107] σ (fun rv s => rv = some (.int (nI k)) ∧ s = σ) := by
  have hA : ¬ nI k < 0 := nI_pos (by omega)
  have hB : nI k < nI n := nI_ltL hk (by omega)
  refine g_Met.of (own := 12) (L := [some (.int (nI k)), some (.int (nI n)), some (.ref 107)]) (by decide) rfl rfl (fun ad => Nat.le_of_ble_eq_true rfl) (fun ad => rfl) (fun X G K C => ?_)
  refine V_blk C (pc' := 1) (σ' := σ) (L' := [some (.int (nI k)), some (.int (nI n)), some (.ref 107)]) (st' := [.int (nI k)]) (g_c dJ3_checkIndex_8e157_0 g_n) rfl rfl ?_
  refine V_if_lt C (tgt := 9) dJ3_checkIndex_8e157_1 (by decide) (fun h1 => absurd h1 hA) (fun h1 => ?_)
  refine V_blk C (pc' := 6) (σ' := σ) (L' := [some (.int (nI k)), some (.int (nI n)), some (.ref 107)]) (st' := [.int (nI n), .int (nI k)]) (g_c dJ3_checkIndex_8e157_4 (g_c dJ3_checkIndex_8e157_5 g_n)) rfl rfl ?_
  refine V_icmp_lt C (tgt := 16) dJ3_checkIndex_8e157_6 (by decide) (fun h6 => ?_) (fun h6 => absurd hB h6)
  refine V_blk C (pc' := 17) (σ' := σ) (L' := [some (.int (nI k)), some (.int (nI n)), some (.ref 107)]) (st' := [.int (nI k)]) (g_c dJ3_checkIndex_8e157_16 g_n) rfl rfl ?_
  refine V_iret C dJ3_checkIndex_8e157_17 ?_
  exact ⟨rfl, rfl⟩
set_option maxHeartbeats 4000000 in
set_option maxRecDepth 100000 in
theorem c_checkIndex {KR : Nat → Bool} (σ : gS) {k n : Nat} (hk : k < n) (hn : n ≤ 1000) : g_Met yJ0_checkIndex_df160 cJ0_checkIndex_df160 2 none 2 KR [.int (nI k), .int (nI n)] σ (fun rv s => rv = none ∧ s = σ) := by
  refine g_Met.of (own := 10) (L := [some (.int (nI k)), some (.int (nI n))]) (by decide) rfl rfl (fun ad => Nat.le_of_ble_eq_true rfl) (fun ad => rfl) (fun X G K C => ?_)
  refine V_blk C (pc' := 2) (σ' := σ) (L' := [some (.int (nI k)), some (.int (nI n))]) (st' := [.int (nI n), .int (nI k)]) (g_c dJ0_checkIndex_df160_0 (g_c dJ0_checkIndex_df160_1 g_n)) rfl rfl ?_
  refine V_gsF C dJ0_checkIndex_df160_2 ?_ ?_
  · skip
    refine V_callSI C cs_X10_1059 (c_chk_n σ hk hn) (by decide) (by decide) (fun _ h => h) (As := [.int (nI k), .int (nI n), .null]) (rest := []) rfl rfl (Nat.le_of_ble_eq_true rfl) dJ0_checkIndex_df160_5 ?_
    refine V_blk C (pc' := 9) (σ' := σ) (L' := [some (.int (nI k)), some (.int (nI n))]) (st' := []) (g_c dJ0_checkIndex_df160_8 g_n) rfl rfl ?_
    refine V_vret C dJ0_checkIndex_df160_9 ?_
    exact ⟨rfl, rfl⟩
  · skip
    refine V_callSI C cs_X10_1059 (c_chk_r σ hk hn) (by decide) (by decide) (fun _ h => h) (As := [.int (nI k), .int (nI n), .ref 107]) (rest := []) rfl rfl (Nat.le_of_ble_eq_true rfl) dJ0_checkIndex_df160_5 ?_
    refine V_blk C (pc' := 9) (σ' := σ) (L' := [some (.int (nI k)), some (.int (nI n))]) (st' := []) (g_c dJ0_checkIndex_df160_8 g_n) rfl rfl ?_
    refine V_vret C dJ0_checkIndex_df160_9 ?_
    exact ⟨rfl, rfl⟩
theorem g_slen_le {i : Nat} : g_slen.getD i 0 ≤ 1000 := by
  match i with
  | 0 => decide
  | 1 => decide
  | 2 => decide
  | _ + 3 => exact Nat.zero_le _
set_option maxHeartbeats 4000000 in
set_option maxRecDepth 100000 in
theorem c_charAt1 {KR : Nat → Bool} (σ : gS) {i : Nat} (hi : i < 3) {k : Nat} (hk : k < g_slen.getD i 0) : g_Met yJ1_charAt_3b067 cJ1_charAt_3b067 2 (some .char) 3 KR [.ref (103 + i), .int (nI k)] σ (fun rv s => rv = some (.int ((g_sbyt.getD i []).getD k 0 &&& 255)) ∧ s = σ) := by
  have hn := g_slen_le (i := i)
  refine g_Met.of (own := 11) (L := [some (.ref (103 + i)), some (.int (nI k))]) (by decide) rfl rfl (fun ad => Nat.le_of_ble_eq_true rfl) (fun ad => rfl) (fun X G K C => ?_)
  refine V_blk C (pc' := 2) (σ' := σ) (L' := [some (.ref (103 + i)), some (.int (nI k))]) (st' := [.ref (103 + i), .int (nI k)]) (g_c dJ1_charAt_3b067_0 (g_c dJ1_charAt_3b067_1 g_n)) rfl rfl ?_
  refine V_blen C (i := i) hi dJ1_charAt_3b067_2 ?_
  refine V_callSV C cs_X11_9 (c_checkIndex σ hk hn) (by decide) (by decide) (fun _ h => h) (As := [.int (nI k), .int (nI (g_slen.getD i 0))]) (rest := []) rfl rfl (Nat.le_of_ble_eq_true rfl) dJ1_charAt_3b067_3 ?_
  refine V_blk C (pc' := 8) (σ' := σ) (L' := [some (.ref (103 + i)), some (.int (nI k))]) (st' := [.int (nI k), .ref (103 + i)]) (g_c dJ1_charAt_3b067_6 (g_c dJ1_charAt_3b067_7 g_n)) rfl rfl ?_
  refine V_bldS C (i := i) (j := k) hi (by have h9 := g_slen_le (i := i); omega) dJ1_charAt_3b067_8 ?_
  refine V_blk C (pc' := 14) (σ' := σ) (L' := [some (.ref (103 + i)), some (.int (nI k))]) (st' := [.int (((Int32.toUInt32 (((g_sbyt.getD i []).getD k 0) &&& 255)) % 65536).toInt32)]) (g_c dJ1_charAt_3b067_9 (g_c dJ1_charAt_3b067_12 (g_c dJ1_charAt_3b067_13 g_n))) rfl rfl ?_
  refine V_cret C (by rw [sc_c2]; exact sc_nar _) dJ1_charAt_3b067_14 ?_
  exact ⟨by rw [sc_c2], rfl⟩
set_option maxHeartbeats 4000000 in
set_option maxRecDepth 100000 in
theorem c_charAt {KR : Nat → Bool} (σ : gS) {i : Nat} (hi : i < 3) {k : Nat} (hk : k < g_slen.getD i 0) : g_Met yJ0_charAt_5068e cJ0_charAt_5068e 2 (some .char) 4 KR [.ref (100 + i), .int (nI k)] σ (fun rv s => rv = some (.int ((g_sbyt.getD i []).getD k 0 &&& 255)) ∧ s = σ) := by
  refine g_Met.of (own := 10) (L := [some (.ref (100 + i)), some (.int (nI k))]) (by decide) rfl rfl (fun ad => Nat.le_of_ble_eq_true rfl) (fun ad => rfl) (fun X G K C => ?_)
  refine V_blk C (pc' := 1) (σ' := σ) (L' := [some (.ref (100 + i)), some (.int (nI k))]) (st' := [.ref (100 + i)]) (g_c dJ0_charAt_5068e_0 g_n) rfl rfl ?_
  refine V_callVs C (i := i) cv_X10_492 (c_isLatin1 σ hi) hi rfl (by decide) (by decide) (fun _ h => h) (As := []) (rest := []) rfl rfl (Nat.le_of_ble_eq_true rfl) dJ0_charAt_5068e_1 ?_
  refine V_if_eq C (tgt := 16) dJ0_charAt_5068e_4 (by decide) (fun z => absurd z (by decide)) (fun _ => ?_)
  refine V_blk C (pc' := 8) (σ' := σ) (L' := [some (.ref (100 + i)), some (.int (nI k))]) (st' := [.ref (100 + i)]) (g_c dJ0_charAt_5068e_7 g_n) rfl rfl ?_
  refine V_sval C (i := i) hi dJ0_charAt_5068e_8 ?_
  refine V_blk C (pc' := 12) (σ' := σ) (L' := [some (.ref (100 + i)), some (.int (nI k))]) (st' := [.int (nI k), .ref (103 + i)]) (g_c dJ0_charAt_5068e_11 g_n) rfl rfl ?_
  refine V_callSI C cs_X10_495 (c_charAt1 σ hi hk) (by decide) (by decide) (fun _ h => h) (As := [.ref (103 + i), .int (nI k)]) (rest := []) rfl rfl (Nat.le_of_ble_eq_true rfl) dJ0_charAt_5068e_12 ?_
  refine V_cret C (sc_nar _) dJ0_charAt_5068e_15 ?_
  exact ⟨rfl, rfl⟩
def g_six (c : Int32) : Int32 := if 40 = c then 0 else if 41 = c then 1 else if 59 = c then 2 else if 43 = c then 3 else if 45 = c then 4 else if 42 = c then 5 else if 60 = c then 6 else if 61 = c then 7 else -1
theorem g_i2b : ∀ n, n < 256 → ∀ k : Fin 8, (([40, 41, 59, 43, 45, 42, 60, 61] : List Int32).getD k.val 0 = (nI n).toInt8.toInt32 ↔ ([40, 41, 59, 43, 45, 42, 60, 61] : List Int32).getD k.val 0 = nI n) := by
  intro n hn
  have h : ∀ n : Fin 256, ∀ k : Fin 8, (([40, 41, 59, 43, 45, 42, 60, 61] : List Int32).getD k.val 0 = (nI n.val).toInt8.toInt32 ↔ ([40, 41, 59, 43, 45, 42, 60, 61] : List Int32).getD k.val 0 = nI n.val) := by decide +kernel
  exact h ⟨n, hn⟩
set_option maxHeartbeats 4000000 in
set_option maxRecDepth 100000 in
theorem c_canEncode {KR : Nat → Bool} (σ : gS) (c : Int32) (hA : ¬ c < 0) (hB : ¬ 255 < c) : g_Met yJ1_canEncode_9a6ad cJ1_canEncode_9a6ad 1 (some .boolean) 1 KR [.int c] σ (fun rv s => rv = some (.int 1) ∧ s = σ) := by
  refine g_Met.of (own := 11) (L := [some (.int c)]) (by decide) rfl rfl (fun ad => Nat.le_of_ble_eq_true rfl) (fun ad => rfl) (fun X G K C => ?_)
  refine V_blk C (pc' := 1) (σ' := σ) (L' := [some (.int c)]) (st' := [.int c]) (g_c dJ1_canEncode_9a6ad_0 g_n) rfl rfl ?_
  refine V_if_lt C (tgt := 15) dJ1_canEncode_9a6ad_1 (by decide) (fun h1 => absurd h1 hA) (fun h1 => ?_)
  refine V_blk C (pc' := 8) (σ' := σ) (L' := [some (.int c)]) (st' := [.int 255, .int c]) (g_c dJ1_canEncode_9a6ad_4 (g_c dJ1_canEncode_9a6ad_5 g_n)) rfl rfl ?_
  refine V_icmp_gt C (tgt := 15) dJ1_canEncode_9a6ad_8 (by decide) (fun h8 => absurd h8 hB) (fun h8 => ?_)
  refine V_blk C (pc' := 12) (σ' := σ) (L' := [some (.int c)]) (st' := [.int 1]) (g_c dJ1_canEncode_9a6ad_11 g_n) rfl rfl ?_
  refine V_goto C (tgt := 16) dJ1_canEncode_9a6ad_12 (by decide) ?_
  refine V_zret C (by decide) dJ1_canEncode_9a6ad_16 ?_
  exact ⟨rfl, rfl⟩
set_option maxHeartbeats 4000000 in
set_option maxRecDepth 100000 in
theorem c_X7_isKind (σ : gS) (v : Int32) : g_Met yX7_isKind cX7_isKind 1 (some .boolean) 2 kX [.int v] σ (fun rv s => rv = some (.int (if g_in v 0 5 then 1 else 0)) ∧ s = σ) := by
  refine g_Met.of (own := 7) (L := [some (.int v)]) (by decide) rfl rfl (fun ad => Nat.le_of_ble_eq_true rfl) (fun ad => rfl) (fun X G K C => ?_)
  refine V_blk C (pc' := 2) (σ' := σ) (L' := [some (.int v)]) (st' := [.int 0, .int v]) (g_c dX7_isKind_0 (g_c dX7_isKind_1 g_n)) rfl rfl ?_
  refine V_gsU C dX7_isKind_2 ?_
  refine V_alenU C dX7_isKind_5 ?_
  refine V_blk C (pc' := 8) (σ' := σ) (L' := [some (.int v)]) (st' := [.int 5, .int 0, .int v]) (g_c dX7_isKind_6 (g_c dX7_isKind_7 g_n)) rfl rfl ?_
  refine V_callSI C cs_X7_85 (c_X7_isIn σ v 0 5) (by decide) (by decide) (fun _ h => h) (As := [.int v, .int 0, .int 5]) (rest := []) rfl rfl (Nat.le_of_ble_eq_true rfl) dX7_isKind_8 ?_
  refine V_zret C (by split <;> simp) dX7_isKind_11 ?_
  first | exact ⟨rfl, rfl⟩ | exact ⟨by simp [g_in, *], rfl⟩
set_option maxHeartbeats 4000000 in
set_option maxRecDepth 100000 in
theorem c_X7_isUnder_0_0 (σ : gS) : g_Met yX7_isUnder cX7_isUnder 4 (some .boolean) 3 kX [.int 0, .int 0] σ (fun rv s => rv = some (.int 1) ∧ s = σ) := by
  refine g_Met.of (own := 7) (L := [some (.int 0), some (.int 0), none, none]) (by decide) rfl rfl (fun ad => Nat.le_of_ble_eq_true rfl) (fun ad => rfl) (fun X G K C => ?_)
  refine V_blk C (pc' := 5) (σ' := σ) (L' := [some (.int 0), some (.int 0), some (.int 0), some (.int 0)]) (st' := [.int 0]) (g_c dX7_isUnder_0 (g_c dX7_isUnder_1 (g_c dX7_isUnder_2 (g_c dX7_isUnder_3 (g_c dX7_isUnder_4 g_n))))) rfl rfl ?_
  refine V_gsU C dX7_isUnder_5 ?_
  refine V_alenU C dX7_isUnder_8 ?_
  refine V_icmp_ge2 C (tgt := 38) dX7_isUnder_9 (by decide) (fun z => absurd z (by decide)) (fun _ => ?_)
  refine V_blk C (pc' := 13) (σ' := σ) (L' := [some (.int 0), some (.int 0), some (.int 0), some (.int 0)]) (st' := [.int 0]) (g_c dX7_isUnder_12 g_n) rfl rfl ?_
  refine V_callSI C cs_X7_116 (c_X7_isKind σ 0) (by decide) (by decide) (fun _ h => h) (As := [.int 0]) (rest := []) rfl rfl (Nat.le_of_ble_eq_true rfl) dX7_isUnder_13 ?_
  refine V_if_eq_b C (tgt := 38) dX7_isUnder_16 (by decide) (fun z => absurd (by decide) z) (fun _ => ?_)
  refine V_blk C (pc' := 21) (σ' := σ) (L' := [some (.int 0), some (.int 0), some (.int 0), some (.int 0)]) (st' := [.int 0, .int 0]) (g_c dX7_isUnder_19 (g_c dX7_isUnder_20 g_n)) rfl rfl ?_
  refine V_icmp_ne C (tgt := 26) dX7_isUnder_21 (by decide) (fun z => absurd z (by decide)) (fun _ => ?_)
  refine V_blk C (pc' := 25) (σ' := σ) (L' := [some (.int 0), some (.int 0), some (.int 0), some (.int 0)]) (st' := [.int 1]) (g_c dX7_isUnder_24 g_n) rfl rfl ?_
  refine V_zret C (by decide) dX7_isUnder_25 ?_
  exact ⟨rfl, rfl⟩
set_option maxHeartbeats 4000000 in
set_option maxRecDepth 100000 in
theorem c_X7_isUnder_0_1 (σ : gS) : g_Met yX7_isUnder cX7_isUnder 4 (some .boolean) 3 kX [.int 0, .int 1] σ (fun rv s => rv = some (.int 0) ∧ s = σ) := by
  refine g_Met.of (own := 7) (L := [some (.int 0), some (.int 1), none, none]) (by decide) rfl rfl (fun ad => Nat.le_of_ble_eq_true rfl) (fun ad => rfl) (fun X G K C => ?_)
  refine V_blk C (pc' := 5) (σ' := σ) (L' := [some (.int 0), some (.int 1), some (.int 0), some (.int 0)]) (st' := [.int 0]) (g_c dX7_isUnder_0 (g_c dX7_isUnder_1 (g_c dX7_isUnder_2 (g_c dX7_isUnder_3 (g_c dX7_isUnder_4 g_n))))) rfl rfl ?_
  refine V_gsU C dX7_isUnder_5 ?_
  refine V_alenU C dX7_isUnder_8 ?_
  refine V_icmp_ge2 C (tgt := 38) dX7_isUnder_9 (by decide) (fun z => absurd z (by decide)) (fun _ => ?_)
  refine V_blk C (pc' := 13) (σ' := σ) (L' := [some (.int 0), some (.int 1), some (.int 0), some (.int 0)]) (st' := [.int 0]) (g_c dX7_isUnder_12 g_n) rfl rfl ?_
  refine V_callSI C cs_X7_116 (c_X7_isKind σ 0) (by decide) (by decide) (fun _ h => h) (As := [.int 0]) (rest := []) rfl rfl (Nat.le_of_ble_eq_true rfl) dX7_isUnder_13 ?_
  refine V_if_eq_b C (tgt := 38) dX7_isUnder_16 (by decide) (fun z => absurd (by decide) z) (fun _ => ?_)
  refine V_blk C (pc' := 21) (σ' := σ) (L' := [some (.int 0), some (.int 1), some (.int 0), some (.int 0)]) (st' := [.int 1, .int 0]) (g_c dX7_isUnder_19 (g_c dX7_isUnder_20 g_n)) rfl rfl ?_
  refine V_icmp_ne C (tgt := 26) dX7_isUnder_21 (by decide) (fun _ => ?_) (fun z => absurd z (by decide))
  refine V_gsU C dX7_isUnder_26 ?_
  refine V_blk C (pc' := 30) (σ' := σ) (L' := [some (.int 0), some (.int 1), some (.int 0), some (.int 0)]) (st' := [.int 0, .ref 106]) (g_c dX7_isUnder_29 g_n) rfl rfl ?_
  refine V_aldU C (v := (-1)) (vp_in_nI (n := 0) (N := 6) (by decide) (by decide)) (by decide) dX7_isUnder_30 ?_
  refine V_blk C (pc' := 35) (σ' := σ) (L' := [some (.int 0), some (.int 1), some (.int (-1)), some (.int 1)]) (st' := []) (g_c dX7_isUnder_31 (g_c dX7_isUnder_32 g_n)) rfl rfl ?_
  refine V_goto C (tgt := 4) dX7_isUnder_35 (by decide) ?_
  refine V_blk C (pc' := 5) (σ' := σ) (L' := [some (.int 0), some (.int 1), some (.int (-1)), some (.int 1)]) (st' := [.int 1]) (g_c dX7_isUnder_4 g_n) rfl rfl ?_
  refine V_gsU C dX7_isUnder_5 ?_
  refine V_alenU C dX7_isUnder_8 ?_
  refine V_icmp_ge2 C (tgt := 38) dX7_isUnder_9 (by decide) (fun z => absurd z (by decide)) (fun _ => ?_)
  refine V_blk C (pc' := 13) (σ' := σ) (L' := [some (.int 0), some (.int 1), some (.int (-1)), some (.int 1)]) (st' := [.int (-1)]) (g_c dX7_isUnder_12 g_n) rfl rfl ?_
  refine V_callSI C cs_X7_116 (c_X7_isKind σ (-1)) (by decide) (by decide) (fun _ h => h) (As := [.int (-1)]) (rest := []) rfl rfl (Nat.le_of_ble_eq_true rfl) dX7_isUnder_13 ?_
  refine V_if_eq_b C (tgt := 38) dX7_isUnder_16 (by decide) (fun _ => ?_) (fun z => absurd z (by decide))
  refine V_blk C (pc' := 39) (σ' := σ) (L' := [some (.int 0), some (.int 1), some (.int (-1)), some (.int 1)]) (st' := [.int 0]) (g_c dX7_isUnder_38 g_n) rfl rfl ?_
  refine V_zret C (by decide) dX7_isUnder_39 ?_
  exact ⟨rfl, rfl⟩
set_option maxHeartbeats 4000000 in
set_option maxRecDepth 100000 in
theorem c_X7_isUnder_0_2 (σ : gS) : g_Met yX7_isUnder cX7_isUnder 4 (some .boolean) 3 kX [.int 0, .int 2] σ (fun rv s => rv = some (.int 0) ∧ s = σ) := by
  refine g_Met.of (own := 7) (L := [some (.int 0), some (.int 2), none, none]) (by decide) rfl rfl (fun ad => Nat.le_of_ble_eq_true rfl) (fun ad => rfl) (fun X G K C => ?_)
  refine V_blk C (pc' := 5) (σ' := σ) (L' := [some (.int 0), some (.int 2), some (.int 0), some (.int 0)]) (st' := [.int 0]) (g_c dX7_isUnder_0 (g_c dX7_isUnder_1 (g_c dX7_isUnder_2 (g_c dX7_isUnder_3 (g_c dX7_isUnder_4 g_n))))) rfl rfl ?_
  refine V_gsU C dX7_isUnder_5 ?_
  refine V_alenU C dX7_isUnder_8 ?_
  refine V_icmp_ge2 C (tgt := 38) dX7_isUnder_9 (by decide) (fun z => absurd z (by decide)) (fun _ => ?_)
  refine V_blk C (pc' := 13) (σ' := σ) (L' := [some (.int 0), some (.int 2), some (.int 0), some (.int 0)]) (st' := [.int 0]) (g_c dX7_isUnder_12 g_n) rfl rfl ?_
  refine V_callSI C cs_X7_116 (c_X7_isKind σ 0) (by decide) (by decide) (fun _ h => h) (As := [.int 0]) (rest := []) rfl rfl (Nat.le_of_ble_eq_true rfl) dX7_isUnder_13 ?_
  refine V_if_eq_b C (tgt := 38) dX7_isUnder_16 (by decide) (fun z => absurd (by decide) z) (fun _ => ?_)
  refine V_blk C (pc' := 21) (σ' := σ) (L' := [some (.int 0), some (.int 2), some (.int 0), some (.int 0)]) (st' := [.int 2, .int 0]) (g_c dX7_isUnder_19 (g_c dX7_isUnder_20 g_n)) rfl rfl ?_
  refine V_icmp_ne C (tgt := 26) dX7_isUnder_21 (by decide) (fun _ => ?_) (fun z => absurd z (by decide))
  refine V_gsU C dX7_isUnder_26 ?_
  refine V_blk C (pc' := 30) (σ' := σ) (L' := [some (.int 0), some (.int 2), some (.int 0), some (.int 0)]) (st' := [.int 0, .ref 106]) (g_c dX7_isUnder_29 g_n) rfl rfl ?_
  refine V_aldU C (v := (-1)) (vp_in_nI (n := 0) (N := 6) (by decide) (by decide)) (by decide) dX7_isUnder_30 ?_
  refine V_blk C (pc' := 35) (σ' := σ) (L' := [some (.int 0), some (.int 2), some (.int (-1)), some (.int 1)]) (st' := []) (g_c dX7_isUnder_31 (g_c dX7_isUnder_32 g_n)) rfl rfl ?_
  refine V_goto C (tgt := 4) dX7_isUnder_35 (by decide) ?_
  refine V_blk C (pc' := 5) (σ' := σ) (L' := [some (.int 0), some (.int 2), some (.int (-1)), some (.int 1)]) (st' := [.int 1]) (g_c dX7_isUnder_4 g_n) rfl rfl ?_
  refine V_gsU C dX7_isUnder_5 ?_
  refine V_alenU C dX7_isUnder_8 ?_
  refine V_icmp_ge2 C (tgt := 38) dX7_isUnder_9 (by decide) (fun z => absurd z (by decide)) (fun _ => ?_)
  refine V_blk C (pc' := 13) (σ' := σ) (L' := [some (.int 0), some (.int 2), some (.int (-1)), some (.int 1)]) (st' := [.int (-1)]) (g_c dX7_isUnder_12 g_n) rfl rfl ?_
  refine V_callSI C cs_X7_116 (c_X7_isKind σ (-1)) (by decide) (by decide) (fun _ h => h) (As := [.int (-1)]) (rest := []) rfl rfl (Nat.le_of_ble_eq_true rfl) dX7_isUnder_13 ?_
  refine V_if_eq_b C (tgt := 38) dX7_isUnder_16 (by decide) (fun _ => ?_) (fun z => absurd z (by decide))
  refine V_blk C (pc' := 39) (σ' := σ) (L' := [some (.int 0), some (.int 2), some (.int (-1)), some (.int 1)]) (st' := [.int 0]) (g_c dX7_isUnder_38 g_n) rfl rfl ?_
  refine V_zret C (by decide) dX7_isUnder_39 ?_
  exact ⟨rfl, rfl⟩
set_option maxHeartbeats 4000000 in
set_option maxRecDepth 100000 in
theorem c_X7_isUnder_0_3 (σ : gS) : g_Met yX7_isUnder cX7_isUnder 4 (some .boolean) 3 kX [.int 0, .int 3] σ (fun rv s => rv = some (.int 0) ∧ s = σ) := by
  refine g_Met.of (own := 7) (L := [some (.int 0), some (.int 3), none, none]) (by decide) rfl rfl (fun ad => Nat.le_of_ble_eq_true rfl) (fun ad => rfl) (fun X G K C => ?_)
  refine V_blk C (pc' := 5) (σ' := σ) (L' := [some (.int 0), some (.int 3), some (.int 0), some (.int 0)]) (st' := [.int 0]) (g_c dX7_isUnder_0 (g_c dX7_isUnder_1 (g_c dX7_isUnder_2 (g_c dX7_isUnder_3 (g_c dX7_isUnder_4 g_n))))) rfl rfl ?_
  refine V_gsU C dX7_isUnder_5 ?_
  refine V_alenU C dX7_isUnder_8 ?_
  refine V_icmp_ge2 C (tgt := 38) dX7_isUnder_9 (by decide) (fun z => absurd z (by decide)) (fun _ => ?_)
  refine V_blk C (pc' := 13) (σ' := σ) (L' := [some (.int 0), some (.int 3), some (.int 0), some (.int 0)]) (st' := [.int 0]) (g_c dX7_isUnder_12 g_n) rfl rfl ?_
  refine V_callSI C cs_X7_116 (c_X7_isKind σ 0) (by decide) (by decide) (fun _ h => h) (As := [.int 0]) (rest := []) rfl rfl (Nat.le_of_ble_eq_true rfl) dX7_isUnder_13 ?_
  refine V_if_eq_b C (tgt := 38) dX7_isUnder_16 (by decide) (fun z => absurd (by decide) z) (fun _ => ?_)
  refine V_blk C (pc' := 21) (σ' := σ) (L' := [some (.int 0), some (.int 3), some (.int 0), some (.int 0)]) (st' := [.int 3, .int 0]) (g_c dX7_isUnder_19 (g_c dX7_isUnder_20 g_n)) rfl rfl ?_
  refine V_icmp_ne C (tgt := 26) dX7_isUnder_21 (by decide) (fun _ => ?_) (fun z => absurd z (by decide))
  refine V_gsU C dX7_isUnder_26 ?_
  refine V_blk C (pc' := 30) (σ' := σ) (L' := [some (.int 0), some (.int 3), some (.int 0), some (.int 0)]) (st' := [.int 0, .ref 106]) (g_c dX7_isUnder_29 g_n) rfl rfl ?_
  refine V_aldU C (v := (-1)) (vp_in_nI (n := 0) (N := 6) (by decide) (by decide)) (by decide) dX7_isUnder_30 ?_
  refine V_blk C (pc' := 35) (σ' := σ) (L' := [some (.int 0), some (.int 3), some (.int (-1)), some (.int 1)]) (st' := []) (g_c dX7_isUnder_31 (g_c dX7_isUnder_32 g_n)) rfl rfl ?_
  refine V_goto C (tgt := 4) dX7_isUnder_35 (by decide) ?_
  refine V_blk C (pc' := 5) (σ' := σ) (L' := [some (.int 0), some (.int 3), some (.int (-1)), some (.int 1)]) (st' := [.int 1]) (g_c dX7_isUnder_4 g_n) rfl rfl ?_
  refine V_gsU C dX7_isUnder_5 ?_
  refine V_alenU C dX7_isUnder_8 ?_
  refine V_icmp_ge2 C (tgt := 38) dX7_isUnder_9 (by decide) (fun z => absurd z (by decide)) (fun _ => ?_)
  refine V_blk C (pc' := 13) (σ' := σ) (L' := [some (.int 0), some (.int 3), some (.int (-1)), some (.int 1)]) (st' := [.int (-1)]) (g_c dX7_isUnder_12 g_n) rfl rfl ?_
  refine V_callSI C cs_X7_116 (c_X7_isKind σ (-1)) (by decide) (by decide) (fun _ h => h) (As := [.int (-1)]) (rest := []) rfl rfl (Nat.le_of_ble_eq_true rfl) dX7_isUnder_13 ?_
  refine V_if_eq_b C (tgt := 38) dX7_isUnder_16 (by decide) (fun _ => ?_) (fun z => absurd z (by decide))
  refine V_blk C (pc' := 39) (σ' := σ) (L' := [some (.int 0), some (.int 3), some (.int (-1)), some (.int 1)]) (st' := [.int 0]) (g_c dX7_isUnder_38 g_n) rfl rfl ?_
  refine V_zret C (by decide) dX7_isUnder_39 ?_
  exact ⟨rfl, rfl⟩
set_option maxHeartbeats 4000000 in
set_option maxRecDepth 100000 in
theorem c_X7_isUnder_0_4 (σ : gS) : g_Met yX7_isUnder cX7_isUnder 4 (some .boolean) 3 kX [.int 0, .int 4] σ (fun rv s => rv = some (.int 0) ∧ s = σ) := by
  refine g_Met.of (own := 7) (L := [some (.int 0), some (.int 4), none, none]) (by decide) rfl rfl (fun ad => Nat.le_of_ble_eq_true rfl) (fun ad => rfl) (fun X G K C => ?_)
  refine V_blk C (pc' := 5) (σ' := σ) (L' := [some (.int 0), some (.int 4), some (.int 0), some (.int 0)]) (st' := [.int 0]) (g_c dX7_isUnder_0 (g_c dX7_isUnder_1 (g_c dX7_isUnder_2 (g_c dX7_isUnder_3 (g_c dX7_isUnder_4 g_n))))) rfl rfl ?_
  refine V_gsU C dX7_isUnder_5 ?_
  refine V_alenU C dX7_isUnder_8 ?_
  refine V_icmp_ge2 C (tgt := 38) dX7_isUnder_9 (by decide) (fun z => absurd z (by decide)) (fun _ => ?_)
  refine V_blk C (pc' := 13) (σ' := σ) (L' := [some (.int 0), some (.int 4), some (.int 0), some (.int 0)]) (st' := [.int 0]) (g_c dX7_isUnder_12 g_n) rfl rfl ?_
  refine V_callSI C cs_X7_116 (c_X7_isKind σ 0) (by decide) (by decide) (fun _ h => h) (As := [.int 0]) (rest := []) rfl rfl (Nat.le_of_ble_eq_true rfl) dX7_isUnder_13 ?_
  refine V_if_eq_b C (tgt := 38) dX7_isUnder_16 (by decide) (fun z => absurd (by decide) z) (fun _ => ?_)
  refine V_blk C (pc' := 21) (σ' := σ) (L' := [some (.int 0), some (.int 4), some (.int 0), some (.int 0)]) (st' := [.int 4, .int 0]) (g_c dX7_isUnder_19 (g_c dX7_isUnder_20 g_n)) rfl rfl ?_
  refine V_icmp_ne C (tgt := 26) dX7_isUnder_21 (by decide) (fun _ => ?_) (fun z => absurd z (by decide))
  refine V_gsU C dX7_isUnder_26 ?_
  refine V_blk C (pc' := 30) (σ' := σ) (L' := [some (.int 0), some (.int 4), some (.int 0), some (.int 0)]) (st' := [.int 0, .ref 106]) (g_c dX7_isUnder_29 g_n) rfl rfl ?_
  refine V_aldU C (v := (-1)) (vp_in_nI (n := 0) (N := 6) (by decide) (by decide)) (by decide) dX7_isUnder_30 ?_
  refine V_blk C (pc' := 35) (σ' := σ) (L' := [some (.int 0), some (.int 4), some (.int (-1)), some (.int 1)]) (st' := []) (g_c dX7_isUnder_31 (g_c dX7_isUnder_32 g_n)) rfl rfl ?_
  refine V_goto C (tgt := 4) dX7_isUnder_35 (by decide) ?_
  refine V_blk C (pc' := 5) (σ' := σ) (L' := [some (.int 0), some (.int 4), some (.int (-1)), some (.int 1)]) (st' := [.int 1]) (g_c dX7_isUnder_4 g_n) rfl rfl ?_
  refine V_gsU C dX7_isUnder_5 ?_
  refine V_alenU C dX7_isUnder_8 ?_
  refine V_icmp_ge2 C (tgt := 38) dX7_isUnder_9 (by decide) (fun z => absurd z (by decide)) (fun _ => ?_)
  refine V_blk C (pc' := 13) (σ' := σ) (L' := [some (.int 0), some (.int 4), some (.int (-1)), some (.int 1)]) (st' := [.int (-1)]) (g_c dX7_isUnder_12 g_n) rfl rfl ?_
  refine V_callSI C cs_X7_116 (c_X7_isKind σ (-1)) (by decide) (by decide) (fun _ h => h) (As := [.int (-1)]) (rest := []) rfl rfl (Nat.le_of_ble_eq_true rfl) dX7_isUnder_13 ?_
  refine V_if_eq_b C (tgt := 38) dX7_isUnder_16 (by decide) (fun _ => ?_) (fun z => absurd z (by decide))
  refine V_blk C (pc' := 39) (σ' := σ) (L' := [some (.int 0), some (.int 4), some (.int (-1)), some (.int 1)]) (st' := [.int 0]) (g_c dX7_isUnder_38 g_n) rfl rfl ?_
  refine V_zret C (by decide) dX7_isUnder_39 ?_
  exact ⟨rfl, rfl⟩
set_option maxHeartbeats 4000000 in
set_option maxRecDepth 100000 in
theorem c_X7_isUnder_0_5 (σ : gS) : g_Met yX7_isUnder cX7_isUnder 4 (some .boolean) 3 kX [.int 0, .int 5] σ (fun rv s => rv = some (.int 0) ∧ s = σ) := by
  refine g_Met.of (own := 7) (L := [some (.int 0), some (.int 5), none, none]) (by decide) rfl rfl (fun ad => Nat.le_of_ble_eq_true rfl) (fun ad => rfl) (fun X G K C => ?_)
  refine V_blk C (pc' := 5) (σ' := σ) (L' := [some (.int 0), some (.int 5), some (.int 0), some (.int 0)]) (st' := [.int 0]) (g_c dX7_isUnder_0 (g_c dX7_isUnder_1 (g_c dX7_isUnder_2 (g_c dX7_isUnder_3 (g_c dX7_isUnder_4 g_n))))) rfl rfl ?_
  refine V_gsU C dX7_isUnder_5 ?_
  refine V_alenU C dX7_isUnder_8 ?_
  refine V_icmp_ge2 C (tgt := 38) dX7_isUnder_9 (by decide) (fun z => absurd z (by decide)) (fun _ => ?_)
  refine V_blk C (pc' := 13) (σ' := σ) (L' := [some (.int 0), some (.int 5), some (.int 0), some (.int 0)]) (st' := [.int 0]) (g_c dX7_isUnder_12 g_n) rfl rfl ?_
  refine V_callSI C cs_X7_116 (c_X7_isKind σ 0) (by decide) (by decide) (fun _ h => h) (As := [.int 0]) (rest := []) rfl rfl (Nat.le_of_ble_eq_true rfl) dX7_isUnder_13 ?_
  refine V_if_eq_b C (tgt := 38) dX7_isUnder_16 (by decide) (fun z => absurd (by decide) z) (fun _ => ?_)
  refine V_blk C (pc' := 21) (σ' := σ) (L' := [some (.int 0), some (.int 5), some (.int 0), some (.int 0)]) (st' := [.int 5, .int 0]) (g_c dX7_isUnder_19 (g_c dX7_isUnder_20 g_n)) rfl rfl ?_
  refine V_icmp_ne C (tgt := 26) dX7_isUnder_21 (by decide) (fun _ => ?_) (fun z => absurd z (by decide))
  refine V_gsU C dX7_isUnder_26 ?_
  refine V_blk C (pc' := 30) (σ' := σ) (L' := [some (.int 0), some (.int 5), some (.int 0), some (.int 0)]) (st' := [.int 0, .ref 106]) (g_c dX7_isUnder_29 g_n) rfl rfl ?_
  refine V_aldU C (v := (-1)) (vp_in_nI (n := 0) (N := 6) (by decide) (by decide)) (by decide) dX7_isUnder_30 ?_
  refine V_blk C (pc' := 35) (σ' := σ) (L' := [some (.int 0), some (.int 5), some (.int (-1)), some (.int 1)]) (st' := []) (g_c dX7_isUnder_31 (g_c dX7_isUnder_32 g_n)) rfl rfl ?_
  refine V_goto C (tgt := 4) dX7_isUnder_35 (by decide) ?_
  refine V_blk C (pc' := 5) (σ' := σ) (L' := [some (.int 0), some (.int 5), some (.int (-1)), some (.int 1)]) (st' := [.int 1]) (g_c dX7_isUnder_4 g_n) rfl rfl ?_
  refine V_gsU C dX7_isUnder_5 ?_
  refine V_alenU C dX7_isUnder_8 ?_
  refine V_icmp_ge2 C (tgt := 38) dX7_isUnder_9 (by decide) (fun z => absurd z (by decide)) (fun _ => ?_)
  refine V_blk C (pc' := 13) (σ' := σ) (L' := [some (.int 0), some (.int 5), some (.int (-1)), some (.int 1)]) (st' := [.int (-1)]) (g_c dX7_isUnder_12 g_n) rfl rfl ?_
  refine V_callSI C cs_X7_116 (c_X7_isKind σ (-1)) (by decide) (by decide) (fun _ h => h) (As := [.int (-1)]) (rest := []) rfl rfl (Nat.le_of_ble_eq_true rfl) dX7_isUnder_13 ?_
  refine V_if_eq_b C (tgt := 38) dX7_isUnder_16 (by decide) (fun _ => ?_) (fun z => absurd z (by decide))
  refine V_blk C (pc' := 39) (σ' := σ) (L' := [some (.int 0), some (.int 5), some (.int (-1)), some (.int 1)]) (st' := [.int 0]) (g_c dX7_isUnder_38 g_n) rfl rfl ?_
  refine V_zret C (by decide) dX7_isUnder_39 ?_
  exact ⟨rfl, rfl⟩
set_option maxHeartbeats 4000000 in
set_option maxRecDepth 100000 in
theorem c_X7_isUnder_1_0 (σ : gS) : g_Met yX7_isUnder cX7_isUnder 4 (some .boolean) 3 kX [.int 1, .int 0] σ (fun rv s => rv = some (.int 1) ∧ s = σ) := by
  refine g_Met.of (own := 7) (L := [some (.int 1), some (.int 0), none, none]) (by decide) rfl rfl (fun ad => Nat.le_of_ble_eq_true rfl) (fun ad => rfl) (fun X G K C => ?_)
  refine V_blk C (pc' := 5) (σ' := σ) (L' := [some (.int 1), some (.int 0), some (.int 1), some (.int 0)]) (st' := [.int 0]) (g_c dX7_isUnder_0 (g_c dX7_isUnder_1 (g_c dX7_isUnder_2 (g_c dX7_isUnder_3 (g_c dX7_isUnder_4 g_n))))) rfl rfl ?_
  refine V_gsU C dX7_isUnder_5 ?_
  refine V_alenU C dX7_isUnder_8 ?_
  refine V_icmp_ge2 C (tgt := 38) dX7_isUnder_9 (by decide) (fun z => absurd z (by decide)) (fun _ => ?_)
  refine V_blk C (pc' := 13) (σ' := σ) (L' := [some (.int 1), some (.int 0), some (.int 1), some (.int 0)]) (st' := [.int 1]) (g_c dX7_isUnder_12 g_n) rfl rfl ?_
  refine V_callSI C cs_X7_116 (c_X7_isKind σ 1) (by decide) (by decide) (fun _ h => h) (As := [.int 1]) (rest := []) rfl rfl (Nat.le_of_ble_eq_true rfl) dX7_isUnder_13 ?_
  refine V_if_eq_b C (tgt := 38) dX7_isUnder_16 (by decide) (fun z => absurd (by decide) z) (fun _ => ?_)
  refine V_blk C (pc' := 21) (σ' := σ) (L' := [some (.int 1), some (.int 0), some (.int 1), some (.int 0)]) (st' := [.int 0, .int 1]) (g_c dX7_isUnder_19 (g_c dX7_isUnder_20 g_n)) rfl rfl ?_
  refine V_icmp_ne C (tgt := 26) dX7_isUnder_21 (by decide) (fun _ => ?_) (fun z => absurd z (by decide))
  refine V_gsU C dX7_isUnder_26 ?_
  refine V_blk C (pc' := 30) (σ' := σ) (L' := [some (.int 1), some (.int 0), some (.int 1), some (.int 0)]) (st' := [.int 1, .ref 106]) (g_c dX7_isUnder_29 g_n) rfl rfl ?_
  refine V_aldU C (v := 0) (vp_in_nI (n := 1) (N := 6) (by decide) (by decide)) (by decide) dX7_isUnder_30 ?_
  refine V_blk C (pc' := 35) (σ' := σ) (L' := [some (.int 1), some (.int 0), some (.int 0), some (.int 1)]) (st' := []) (g_c dX7_isUnder_31 (g_c dX7_isUnder_32 g_n)) rfl rfl ?_
  refine V_goto C (tgt := 4) dX7_isUnder_35 (by decide) ?_
  refine V_blk C (pc' := 5) (σ' := σ) (L' := [some (.int 1), some (.int 0), some (.int 0), some (.int 1)]) (st' := [.int 1]) (g_c dX7_isUnder_4 g_n) rfl rfl ?_
  refine V_gsU C dX7_isUnder_5 ?_
  refine V_alenU C dX7_isUnder_8 ?_
  refine V_icmp_ge2 C (tgt := 38) dX7_isUnder_9 (by decide) (fun z => absurd z (by decide)) (fun _ => ?_)
  refine V_blk C (pc' := 13) (σ' := σ) (L' := [some (.int 1), some (.int 0), some (.int 0), some (.int 1)]) (st' := [.int 0]) (g_c dX7_isUnder_12 g_n) rfl rfl ?_
  refine V_callSI C cs_X7_116 (c_X7_isKind σ 0) (by decide) (by decide) (fun _ h => h) (As := [.int 0]) (rest := []) rfl rfl (Nat.le_of_ble_eq_true rfl) dX7_isUnder_13 ?_
  refine V_if_eq_b C (tgt := 38) dX7_isUnder_16 (by decide) (fun z => absurd (by decide) z) (fun _ => ?_)
  refine V_blk C (pc' := 21) (σ' := σ) (L' := [some (.int 1), some (.int 0), some (.int 0), some (.int 1)]) (st' := [.int 0, .int 0]) (g_c dX7_isUnder_19 (g_c dX7_isUnder_20 g_n)) rfl rfl ?_
  refine V_icmp_ne C (tgt := 26) dX7_isUnder_21 (by decide) (fun z => absurd z (by decide)) (fun _ => ?_)
  refine V_blk C (pc' := 25) (σ' := σ) (L' := [some (.int 1), some (.int 0), some (.int 0), some (.int 1)]) (st' := [.int 1]) (g_c dX7_isUnder_24 g_n) rfl rfl ?_
  refine V_zret C (by decide) dX7_isUnder_25 ?_
  exact ⟨rfl, rfl⟩
set_option maxHeartbeats 4000000 in
set_option maxRecDepth 100000 in
theorem c_X7_isUnder_1_1 (σ : gS) : g_Met yX7_isUnder cX7_isUnder 4 (some .boolean) 3 kX [.int 1, .int 1] σ (fun rv s => rv = some (.int 1) ∧ s = σ) := by
  refine g_Met.of (own := 7) (L := [some (.int 1), some (.int 1), none, none]) (by decide) rfl rfl (fun ad => Nat.le_of_ble_eq_true rfl) (fun ad => rfl) (fun X G K C => ?_)
  refine V_blk C (pc' := 5) (σ' := σ) (L' := [some (.int 1), some (.int 1), some (.int 1), some (.int 0)]) (st' := [.int 0]) (g_c dX7_isUnder_0 (g_c dX7_isUnder_1 (g_c dX7_isUnder_2 (g_c dX7_isUnder_3 (g_c dX7_isUnder_4 g_n))))) rfl rfl ?_
  refine V_gsU C dX7_isUnder_5 ?_
  refine V_alenU C dX7_isUnder_8 ?_
  refine V_icmp_ge2 C (tgt := 38) dX7_isUnder_9 (by decide) (fun z => absurd z (by decide)) (fun _ => ?_)
  refine V_blk C (pc' := 13) (σ' := σ) (L' := [some (.int 1), some (.int 1), some (.int 1), some (.int 0)]) (st' := [.int 1]) (g_c dX7_isUnder_12 g_n) rfl rfl ?_
  refine V_callSI C cs_X7_116 (c_X7_isKind σ 1) (by decide) (by decide) (fun _ h => h) (As := [.int 1]) (rest := []) rfl rfl (Nat.le_of_ble_eq_true rfl) dX7_isUnder_13 ?_
  refine V_if_eq_b C (tgt := 38) dX7_isUnder_16 (by decide) (fun z => absurd (by decide) z) (fun _ => ?_)
  refine V_blk C (pc' := 21) (σ' := σ) (L' := [some (.int 1), some (.int 1), some (.int 1), some (.int 0)]) (st' := [.int 1, .int 1]) (g_c dX7_isUnder_19 (g_c dX7_isUnder_20 g_n)) rfl rfl ?_
  refine V_icmp_ne C (tgt := 26) dX7_isUnder_21 (by decide) (fun z => absurd z (by decide)) (fun _ => ?_)
  refine V_blk C (pc' := 25) (σ' := σ) (L' := [some (.int 1), some (.int 1), some (.int 1), some (.int 0)]) (st' := [.int 1]) (g_c dX7_isUnder_24 g_n) rfl rfl ?_
  refine V_zret C (by decide) dX7_isUnder_25 ?_
  exact ⟨rfl, rfl⟩
set_option maxHeartbeats 4000000 in
set_option maxRecDepth 100000 in
theorem c_X7_isUnder_1_2 (σ : gS) : g_Met yX7_isUnder cX7_isUnder 4 (some .boolean) 3 kX [.int 1, .int 2] σ (fun rv s => rv = some (.int 0) ∧ s = σ) := by
  refine g_Met.of (own := 7) (L := [some (.int 1), some (.int 2), none, none]) (by decide) rfl rfl (fun ad => Nat.le_of_ble_eq_true rfl) (fun ad => rfl) (fun X G K C => ?_)
  refine V_blk C (pc' := 5) (σ' := σ) (L' := [some (.int 1), some (.int 2), some (.int 1), some (.int 0)]) (st' := [.int 0]) (g_c dX7_isUnder_0 (g_c dX7_isUnder_1 (g_c dX7_isUnder_2 (g_c dX7_isUnder_3 (g_c dX7_isUnder_4 g_n))))) rfl rfl ?_
  refine V_gsU C dX7_isUnder_5 ?_
  refine V_alenU C dX7_isUnder_8 ?_
  refine V_icmp_ge2 C (tgt := 38) dX7_isUnder_9 (by decide) (fun z => absurd z (by decide)) (fun _ => ?_)
  refine V_blk C (pc' := 13) (σ' := σ) (L' := [some (.int 1), some (.int 2), some (.int 1), some (.int 0)]) (st' := [.int 1]) (g_c dX7_isUnder_12 g_n) rfl rfl ?_
  refine V_callSI C cs_X7_116 (c_X7_isKind σ 1) (by decide) (by decide) (fun _ h => h) (As := [.int 1]) (rest := []) rfl rfl (Nat.le_of_ble_eq_true rfl) dX7_isUnder_13 ?_
  refine V_if_eq_b C (tgt := 38) dX7_isUnder_16 (by decide) (fun z => absurd (by decide) z) (fun _ => ?_)
  refine V_blk C (pc' := 21) (σ' := σ) (L' := [some (.int 1), some (.int 2), some (.int 1), some (.int 0)]) (st' := [.int 2, .int 1]) (g_c dX7_isUnder_19 (g_c dX7_isUnder_20 g_n)) rfl rfl ?_
  refine V_icmp_ne C (tgt := 26) dX7_isUnder_21 (by decide) (fun _ => ?_) (fun z => absurd z (by decide))
  refine V_gsU C dX7_isUnder_26 ?_
  refine V_blk C (pc' := 30) (σ' := σ) (L' := [some (.int 1), some (.int 2), some (.int 1), some (.int 0)]) (st' := [.int 1, .ref 106]) (g_c dX7_isUnder_29 g_n) rfl rfl ?_
  refine V_aldU C (v := 0) (vp_in_nI (n := 1) (N := 6) (by decide) (by decide)) (by decide) dX7_isUnder_30 ?_
  refine V_blk C (pc' := 35) (σ' := σ) (L' := [some (.int 1), some (.int 2), some (.int 0), some (.int 1)]) (st' := []) (g_c dX7_isUnder_31 (g_c dX7_isUnder_32 g_n)) rfl rfl ?_
  refine V_goto C (tgt := 4) dX7_isUnder_35 (by decide) ?_
  refine V_blk C (pc' := 5) (σ' := σ) (L' := [some (.int 1), some (.int 2), some (.int 0), some (.int 1)]) (st' := [.int 1]) (g_c dX7_isUnder_4 g_n) rfl rfl ?_
  refine V_gsU C dX7_isUnder_5 ?_
  refine V_alenU C dX7_isUnder_8 ?_
  refine V_icmp_ge2 C (tgt := 38) dX7_isUnder_9 (by decide) (fun z => absurd z (by decide)) (fun _ => ?_)
  refine V_blk C (pc' := 13) (σ' := σ) (L' := [some (.int 1), some (.int 2), some (.int 0), some (.int 1)]) (st' := [.int 0]) (g_c dX7_isUnder_12 g_n) rfl rfl ?_
  refine V_callSI C cs_X7_116 (c_X7_isKind σ 0) (by decide) (by decide) (fun _ h => h) (As := [.int 0]) (rest := []) rfl rfl (Nat.le_of_ble_eq_true rfl) dX7_isUnder_13 ?_
  refine V_if_eq_b C (tgt := 38) dX7_isUnder_16 (by decide) (fun z => absurd (by decide) z) (fun _ => ?_)
  refine V_blk C (pc' := 21) (σ' := σ) (L' := [some (.int 1), some (.int 2), some (.int 0), some (.int 1)]) (st' := [.int 2, .int 0]) (g_c dX7_isUnder_19 (g_c dX7_isUnder_20 g_n)) rfl rfl ?_
  refine V_icmp_ne C (tgt := 26) dX7_isUnder_21 (by decide) (fun _ => ?_) (fun z => absurd z (by decide))
  refine V_gsU C dX7_isUnder_26 ?_
  refine V_blk C (pc' := 30) (σ' := σ) (L' := [some (.int 1), some (.int 2), some (.int 0), some (.int 1)]) (st' := [.int 0, .ref 106]) (g_c dX7_isUnder_29 g_n) rfl rfl ?_
  refine V_aldU C (v := (-1)) (vp_in_nI (n := 0) (N := 6) (by decide) (by decide)) (by decide) dX7_isUnder_30 ?_
  refine V_blk C (pc' := 35) (σ' := σ) (L' := [some (.int 1), some (.int 2), some (.int (-1)), some (.int 2)]) (st' := []) (g_c dX7_isUnder_31 (g_c dX7_isUnder_32 g_n)) rfl rfl ?_
  refine V_goto C (tgt := 4) dX7_isUnder_35 (by decide) ?_
  refine V_blk C (pc' := 5) (σ' := σ) (L' := [some (.int 1), some (.int 2), some (.int (-1)), some (.int 2)]) (st' := [.int 2]) (g_c dX7_isUnder_4 g_n) rfl rfl ?_
  refine V_gsU C dX7_isUnder_5 ?_
  refine V_alenU C dX7_isUnder_8 ?_
  refine V_icmp_ge2 C (tgt := 38) dX7_isUnder_9 (by decide) (fun z => absurd z (by decide)) (fun _ => ?_)
  refine V_blk C (pc' := 13) (σ' := σ) (L' := [some (.int 1), some (.int 2), some (.int (-1)), some (.int 2)]) (st' := [.int (-1)]) (g_c dX7_isUnder_12 g_n) rfl rfl ?_
  refine V_callSI C cs_X7_116 (c_X7_isKind σ (-1)) (by decide) (by decide) (fun _ h => h) (As := [.int (-1)]) (rest := []) rfl rfl (Nat.le_of_ble_eq_true rfl) dX7_isUnder_13 ?_
  refine V_if_eq_b C (tgt := 38) dX7_isUnder_16 (by decide) (fun _ => ?_) (fun z => absurd z (by decide))
  refine V_blk C (pc' := 39) (σ' := σ) (L' := [some (.int 1), some (.int 2), some (.int (-1)), some (.int 2)]) (st' := [.int 0]) (g_c dX7_isUnder_38 g_n) rfl rfl ?_
  refine V_zret C (by decide) dX7_isUnder_39 ?_
  exact ⟨rfl, rfl⟩
set_option maxHeartbeats 4000000 in
set_option maxRecDepth 100000 in
theorem c_X7_isUnder_1_3 (σ : gS) : g_Met yX7_isUnder cX7_isUnder 4 (some .boolean) 3 kX [.int 1, .int 3] σ (fun rv s => rv = some (.int 0) ∧ s = σ) := by
  refine g_Met.of (own := 7) (L := [some (.int 1), some (.int 3), none, none]) (by decide) rfl rfl (fun ad => Nat.le_of_ble_eq_true rfl) (fun ad => rfl) (fun X G K C => ?_)
  refine V_blk C (pc' := 5) (σ' := σ) (L' := [some (.int 1), some (.int 3), some (.int 1), some (.int 0)]) (st' := [.int 0]) (g_c dX7_isUnder_0 (g_c dX7_isUnder_1 (g_c dX7_isUnder_2 (g_c dX7_isUnder_3 (g_c dX7_isUnder_4 g_n))))) rfl rfl ?_
  refine V_gsU C dX7_isUnder_5 ?_
  refine V_alenU C dX7_isUnder_8 ?_
  refine V_icmp_ge2 C (tgt := 38) dX7_isUnder_9 (by decide) (fun z => absurd z (by decide)) (fun _ => ?_)
  refine V_blk C (pc' := 13) (σ' := σ) (L' := [some (.int 1), some (.int 3), some (.int 1), some (.int 0)]) (st' := [.int 1]) (g_c dX7_isUnder_12 g_n) rfl rfl ?_
  refine V_callSI C cs_X7_116 (c_X7_isKind σ 1) (by decide) (by decide) (fun _ h => h) (As := [.int 1]) (rest := []) rfl rfl (Nat.le_of_ble_eq_true rfl) dX7_isUnder_13 ?_
  refine V_if_eq_b C (tgt := 38) dX7_isUnder_16 (by decide) (fun z => absurd (by decide) z) (fun _ => ?_)
  refine V_blk C (pc' := 21) (σ' := σ) (L' := [some (.int 1), some (.int 3), some (.int 1), some (.int 0)]) (st' := [.int 3, .int 1]) (g_c dX7_isUnder_19 (g_c dX7_isUnder_20 g_n)) rfl rfl ?_
  refine V_icmp_ne C (tgt := 26) dX7_isUnder_21 (by decide) (fun _ => ?_) (fun z => absurd z (by decide))
  refine V_gsU C dX7_isUnder_26 ?_
  refine V_blk C (pc' := 30) (σ' := σ) (L' := [some (.int 1), some (.int 3), some (.int 1), some (.int 0)]) (st' := [.int 1, .ref 106]) (g_c dX7_isUnder_29 g_n) rfl rfl ?_
  refine V_aldU C (v := 0) (vp_in_nI (n := 1) (N := 6) (by decide) (by decide)) (by decide) dX7_isUnder_30 ?_
  refine V_blk C (pc' := 35) (σ' := σ) (L' := [some (.int 1), some (.int 3), some (.int 0), some (.int 1)]) (st' := []) (g_c dX7_isUnder_31 (g_c dX7_isUnder_32 g_n)) rfl rfl ?_
  refine V_goto C (tgt := 4) dX7_isUnder_35 (by decide) ?_
  refine V_blk C (pc' := 5) (σ' := σ) (L' := [some (.int 1), some (.int 3), some (.int 0), some (.int 1)]) (st' := [.int 1]) (g_c dX7_isUnder_4 g_n) rfl rfl ?_
  refine V_gsU C dX7_isUnder_5 ?_
  refine V_alenU C dX7_isUnder_8 ?_
  refine V_icmp_ge2 C (tgt := 38) dX7_isUnder_9 (by decide) (fun z => absurd z (by decide)) (fun _ => ?_)
  refine V_blk C (pc' := 13) (σ' := σ) (L' := [some (.int 1), some (.int 3), some (.int 0), some (.int 1)]) (st' := [.int 0]) (g_c dX7_isUnder_12 g_n) rfl rfl ?_
  refine V_callSI C cs_X7_116 (c_X7_isKind σ 0) (by decide) (by decide) (fun _ h => h) (As := [.int 0]) (rest := []) rfl rfl (Nat.le_of_ble_eq_true rfl) dX7_isUnder_13 ?_
  refine V_if_eq_b C (tgt := 38) dX7_isUnder_16 (by decide) (fun z => absurd (by decide) z) (fun _ => ?_)
  refine V_blk C (pc' := 21) (σ' := σ) (L' := [some (.int 1), some (.int 3), some (.int 0), some (.int 1)]) (st' := [.int 3, .int 0]) (g_c dX7_isUnder_19 (g_c dX7_isUnder_20 g_n)) rfl rfl ?_
  refine V_icmp_ne C (tgt := 26) dX7_isUnder_21 (by decide) (fun _ => ?_) (fun z => absurd z (by decide))
  refine V_gsU C dX7_isUnder_26 ?_
  refine V_blk C (pc' := 30) (σ' := σ) (L' := [some (.int 1), some (.int 3), some (.int 0), some (.int 1)]) (st' := [.int 0, .ref 106]) (g_c dX7_isUnder_29 g_n) rfl rfl ?_
  refine V_aldU C (v := (-1)) (vp_in_nI (n := 0) (N := 6) (by decide) (by decide)) (by decide) dX7_isUnder_30 ?_
  refine V_blk C (pc' := 35) (σ' := σ) (L' := [some (.int 1), some (.int 3), some (.int (-1)), some (.int 2)]) (st' := []) (g_c dX7_isUnder_31 (g_c dX7_isUnder_32 g_n)) rfl rfl ?_
  refine V_goto C (tgt := 4) dX7_isUnder_35 (by decide) ?_
  refine V_blk C (pc' := 5) (σ' := σ) (L' := [some (.int 1), some (.int 3), some (.int (-1)), some (.int 2)]) (st' := [.int 2]) (g_c dX7_isUnder_4 g_n) rfl rfl ?_
  refine V_gsU C dX7_isUnder_5 ?_
  refine V_alenU C dX7_isUnder_8 ?_
  refine V_icmp_ge2 C (tgt := 38) dX7_isUnder_9 (by decide) (fun z => absurd z (by decide)) (fun _ => ?_)
  refine V_blk C (pc' := 13) (σ' := σ) (L' := [some (.int 1), some (.int 3), some (.int (-1)), some (.int 2)]) (st' := [.int (-1)]) (g_c dX7_isUnder_12 g_n) rfl rfl ?_
  refine V_callSI C cs_X7_116 (c_X7_isKind σ (-1)) (by decide) (by decide) (fun _ h => h) (As := [.int (-1)]) (rest := []) rfl rfl (Nat.le_of_ble_eq_true rfl) dX7_isUnder_13 ?_
  refine V_if_eq_b C (tgt := 38) dX7_isUnder_16 (by decide) (fun _ => ?_) (fun z => absurd z (by decide))
  refine V_blk C (pc' := 39) (σ' := σ) (L' := [some (.int 1), some (.int 3), some (.int (-1)), some (.int 2)]) (st' := [.int 0]) (g_c dX7_isUnder_38 g_n) rfl rfl ?_
  refine V_zret C (by decide) dX7_isUnder_39 ?_
  exact ⟨rfl, rfl⟩
set_option maxHeartbeats 4000000 in
set_option maxRecDepth 100000 in
theorem c_X7_isUnder_1_4 (σ : gS) : g_Met yX7_isUnder cX7_isUnder 4 (some .boolean) 3 kX [.int 1, .int 4] σ (fun rv s => rv = some (.int 0) ∧ s = σ) := by
  refine g_Met.of (own := 7) (L := [some (.int 1), some (.int 4), none, none]) (by decide) rfl rfl (fun ad => Nat.le_of_ble_eq_true rfl) (fun ad => rfl) (fun X G K C => ?_)
  refine V_blk C (pc' := 5) (σ' := σ) (L' := [some (.int 1), some (.int 4), some (.int 1), some (.int 0)]) (st' := [.int 0]) (g_c dX7_isUnder_0 (g_c dX7_isUnder_1 (g_c dX7_isUnder_2 (g_c dX7_isUnder_3 (g_c dX7_isUnder_4 g_n))))) rfl rfl ?_
  refine V_gsU C dX7_isUnder_5 ?_
  refine V_alenU C dX7_isUnder_8 ?_
  refine V_icmp_ge2 C (tgt := 38) dX7_isUnder_9 (by decide) (fun z => absurd z (by decide)) (fun _ => ?_)
  refine V_blk C (pc' := 13) (σ' := σ) (L' := [some (.int 1), some (.int 4), some (.int 1), some (.int 0)]) (st' := [.int 1]) (g_c dX7_isUnder_12 g_n) rfl rfl ?_
  refine V_callSI C cs_X7_116 (c_X7_isKind σ 1) (by decide) (by decide) (fun _ h => h) (As := [.int 1]) (rest := []) rfl rfl (Nat.le_of_ble_eq_true rfl) dX7_isUnder_13 ?_
  refine V_if_eq_b C (tgt := 38) dX7_isUnder_16 (by decide) (fun z => absurd (by decide) z) (fun _ => ?_)
  refine V_blk C (pc' := 21) (σ' := σ) (L' := [some (.int 1), some (.int 4), some (.int 1), some (.int 0)]) (st' := [.int 4, .int 1]) (g_c dX7_isUnder_19 (g_c dX7_isUnder_20 g_n)) rfl rfl ?_
  refine V_icmp_ne C (tgt := 26) dX7_isUnder_21 (by decide) (fun _ => ?_) (fun z => absurd z (by decide))
  refine V_gsU C dX7_isUnder_26 ?_
  refine V_blk C (pc' := 30) (σ' := σ) (L' := [some (.int 1), some (.int 4), some (.int 1), some (.int 0)]) (st' := [.int 1, .ref 106]) (g_c dX7_isUnder_29 g_n) rfl rfl ?_
  refine V_aldU C (v := 0) (vp_in_nI (n := 1) (N := 6) (by decide) (by decide)) (by decide) dX7_isUnder_30 ?_
  refine V_blk C (pc' := 35) (σ' := σ) (L' := [some (.int 1), some (.int 4), some (.int 0), some (.int 1)]) (st' := []) (g_c dX7_isUnder_31 (g_c dX7_isUnder_32 g_n)) rfl rfl ?_
  refine V_goto C (tgt := 4) dX7_isUnder_35 (by decide) ?_
  refine V_blk C (pc' := 5) (σ' := σ) (L' := [some (.int 1), some (.int 4), some (.int 0), some (.int 1)]) (st' := [.int 1]) (g_c dX7_isUnder_4 g_n) rfl rfl ?_
  refine V_gsU C dX7_isUnder_5 ?_
  refine V_alenU C dX7_isUnder_8 ?_
  refine V_icmp_ge2 C (tgt := 38) dX7_isUnder_9 (by decide) (fun z => absurd z (by decide)) (fun _ => ?_)
  refine V_blk C (pc' := 13) (σ' := σ) (L' := [some (.int 1), some (.int 4), some (.int 0), some (.int 1)]) (st' := [.int 0]) (g_c dX7_isUnder_12 g_n) rfl rfl ?_
  refine V_callSI C cs_X7_116 (c_X7_isKind σ 0) (by decide) (by decide) (fun _ h => h) (As := [.int 0]) (rest := []) rfl rfl (Nat.le_of_ble_eq_true rfl) dX7_isUnder_13 ?_
  refine V_if_eq_b C (tgt := 38) dX7_isUnder_16 (by decide) (fun z => absurd (by decide) z) (fun _ => ?_)
  refine V_blk C (pc' := 21) (σ' := σ) (L' := [some (.int 1), some (.int 4), some (.int 0), some (.int 1)]) (st' := [.int 4, .int 0]) (g_c dX7_isUnder_19 (g_c dX7_isUnder_20 g_n)) rfl rfl ?_
  refine V_icmp_ne C (tgt := 26) dX7_isUnder_21 (by decide) (fun _ => ?_) (fun z => absurd z (by decide))
  refine V_gsU C dX7_isUnder_26 ?_
  refine V_blk C (pc' := 30) (σ' := σ) (L' := [some (.int 1), some (.int 4), some (.int 0), some (.int 1)]) (st' := [.int 0, .ref 106]) (g_c dX7_isUnder_29 g_n) rfl rfl ?_
  refine V_aldU C (v := (-1)) (vp_in_nI (n := 0) (N := 6) (by decide) (by decide)) (by decide) dX7_isUnder_30 ?_
  refine V_blk C (pc' := 35) (σ' := σ) (L' := [some (.int 1), some (.int 4), some (.int (-1)), some (.int 2)]) (st' := []) (g_c dX7_isUnder_31 (g_c dX7_isUnder_32 g_n)) rfl rfl ?_
  refine V_goto C (tgt := 4) dX7_isUnder_35 (by decide) ?_
  refine V_blk C (pc' := 5) (σ' := σ) (L' := [some (.int 1), some (.int 4), some (.int (-1)), some (.int 2)]) (st' := [.int 2]) (g_c dX7_isUnder_4 g_n) rfl rfl ?_
  refine V_gsU C dX7_isUnder_5 ?_
  refine V_alenU C dX7_isUnder_8 ?_
  refine V_icmp_ge2 C (tgt := 38) dX7_isUnder_9 (by decide) (fun z => absurd z (by decide)) (fun _ => ?_)
  refine V_blk C (pc' := 13) (σ' := σ) (L' := [some (.int 1), some (.int 4), some (.int (-1)), some (.int 2)]) (st' := [.int (-1)]) (g_c dX7_isUnder_12 g_n) rfl rfl ?_
  refine V_callSI C cs_X7_116 (c_X7_isKind σ (-1)) (by decide) (by decide) (fun _ h => h) (As := [.int (-1)]) (rest := []) rfl rfl (Nat.le_of_ble_eq_true rfl) dX7_isUnder_13 ?_
  refine V_if_eq_b C (tgt := 38) dX7_isUnder_16 (by decide) (fun _ => ?_) (fun z => absurd z (by decide))
  refine V_blk C (pc' := 39) (σ' := σ) (L' := [some (.int 1), some (.int 4), some (.int (-1)), some (.int 2)]) (st' := [.int 0]) (g_c dX7_isUnder_38 g_n) rfl rfl ?_
  refine V_zret C (by decide) dX7_isUnder_39 ?_
  exact ⟨rfl, rfl⟩
set_option maxHeartbeats 4000000 in
set_option maxRecDepth 100000 in
theorem c_X7_isUnder_1_5 (σ : gS) : g_Met yX7_isUnder cX7_isUnder 4 (some .boolean) 3 kX [.int 1, .int 5] σ (fun rv s => rv = some (.int 0) ∧ s = σ) := by
  refine g_Met.of (own := 7) (L := [some (.int 1), some (.int 5), none, none]) (by decide) rfl rfl (fun ad => Nat.le_of_ble_eq_true rfl) (fun ad => rfl) (fun X G K C => ?_)
  refine V_blk C (pc' := 5) (σ' := σ) (L' := [some (.int 1), some (.int 5), some (.int 1), some (.int 0)]) (st' := [.int 0]) (g_c dX7_isUnder_0 (g_c dX7_isUnder_1 (g_c dX7_isUnder_2 (g_c dX7_isUnder_3 (g_c dX7_isUnder_4 g_n))))) rfl rfl ?_
  refine V_gsU C dX7_isUnder_5 ?_
  refine V_alenU C dX7_isUnder_8 ?_
  refine V_icmp_ge2 C (tgt := 38) dX7_isUnder_9 (by decide) (fun z => absurd z (by decide)) (fun _ => ?_)
  refine V_blk C (pc' := 13) (σ' := σ) (L' := [some (.int 1), some (.int 5), some (.int 1), some (.int 0)]) (st' := [.int 1]) (g_c dX7_isUnder_12 g_n) rfl rfl ?_
  refine V_callSI C cs_X7_116 (c_X7_isKind σ 1) (by decide) (by decide) (fun _ h => h) (As := [.int 1]) (rest := []) rfl rfl (Nat.le_of_ble_eq_true rfl) dX7_isUnder_13 ?_
  refine V_if_eq_b C (tgt := 38) dX7_isUnder_16 (by decide) (fun z => absurd (by decide) z) (fun _ => ?_)
  refine V_blk C (pc' := 21) (σ' := σ) (L' := [some (.int 1), some (.int 5), some (.int 1), some (.int 0)]) (st' := [.int 5, .int 1]) (g_c dX7_isUnder_19 (g_c dX7_isUnder_20 g_n)) rfl rfl ?_
  refine V_icmp_ne C (tgt := 26) dX7_isUnder_21 (by decide) (fun _ => ?_) (fun z => absurd z (by decide))
  refine V_gsU C dX7_isUnder_26 ?_
  refine V_blk C (pc' := 30) (σ' := σ) (L' := [some (.int 1), some (.int 5), some (.int 1), some (.int 0)]) (st' := [.int 1, .ref 106]) (g_c dX7_isUnder_29 g_n) rfl rfl ?_
  refine V_aldU C (v := 0) (vp_in_nI (n := 1) (N := 6) (by decide) (by decide)) (by decide) dX7_isUnder_30 ?_
  refine V_blk C (pc' := 35) (σ' := σ) (L' := [some (.int 1), some (.int 5), some (.int 0), some (.int 1)]) (st' := []) (g_c dX7_isUnder_31 (g_c dX7_isUnder_32 g_n)) rfl rfl ?_
  refine V_goto C (tgt := 4) dX7_isUnder_35 (by decide) ?_
  refine V_blk C (pc' := 5) (σ' := σ) (L' := [some (.int 1), some (.int 5), some (.int 0), some (.int 1)]) (st' := [.int 1]) (g_c dX7_isUnder_4 g_n) rfl rfl ?_
  refine V_gsU C dX7_isUnder_5 ?_
  refine V_alenU C dX7_isUnder_8 ?_
  refine V_icmp_ge2 C (tgt := 38) dX7_isUnder_9 (by decide) (fun z => absurd z (by decide)) (fun _ => ?_)
  refine V_blk C (pc' := 13) (σ' := σ) (L' := [some (.int 1), some (.int 5), some (.int 0), some (.int 1)]) (st' := [.int 0]) (g_c dX7_isUnder_12 g_n) rfl rfl ?_
  refine V_callSI C cs_X7_116 (c_X7_isKind σ 0) (by decide) (by decide) (fun _ h => h) (As := [.int 0]) (rest := []) rfl rfl (Nat.le_of_ble_eq_true rfl) dX7_isUnder_13 ?_
  refine V_if_eq_b C (tgt := 38) dX7_isUnder_16 (by decide) (fun z => absurd (by decide) z) (fun _ => ?_)
  refine V_blk C (pc' := 21) (σ' := σ) (L' := [some (.int 1), some (.int 5), some (.int 0), some (.int 1)]) (st' := [.int 5, .int 0]) (g_c dX7_isUnder_19 (g_c dX7_isUnder_20 g_n)) rfl rfl ?_
  refine V_icmp_ne C (tgt := 26) dX7_isUnder_21 (by decide) (fun _ => ?_) (fun z => absurd z (by decide))
  refine V_gsU C dX7_isUnder_26 ?_
  refine V_blk C (pc' := 30) (σ' := σ) (L' := [some (.int 1), some (.int 5), some (.int 0), some (.int 1)]) (st' := [.int 0, .ref 106]) (g_c dX7_isUnder_29 g_n) rfl rfl ?_
  refine V_aldU C (v := (-1)) (vp_in_nI (n := 0) (N := 6) (by decide) (by decide)) (by decide) dX7_isUnder_30 ?_
  refine V_blk C (pc' := 35) (σ' := σ) (L' := [some (.int 1), some (.int 5), some (.int (-1)), some (.int 2)]) (st' := []) (g_c dX7_isUnder_31 (g_c dX7_isUnder_32 g_n)) rfl rfl ?_
  refine V_goto C (tgt := 4) dX7_isUnder_35 (by decide) ?_
  refine V_blk C (pc' := 5) (σ' := σ) (L' := [some (.int 1), some (.int 5), some (.int (-1)), some (.int 2)]) (st' := [.int 2]) (g_c dX7_isUnder_4 g_n) rfl rfl ?_
  refine V_gsU C dX7_isUnder_5 ?_
  refine V_alenU C dX7_isUnder_8 ?_
  refine V_icmp_ge2 C (tgt := 38) dX7_isUnder_9 (by decide) (fun z => absurd z (by decide)) (fun _ => ?_)
  refine V_blk C (pc' := 13) (σ' := σ) (L' := [some (.int 1), some (.int 5), some (.int (-1)), some (.int 2)]) (st' := [.int (-1)]) (g_c dX7_isUnder_12 g_n) rfl rfl ?_
  refine V_callSI C cs_X7_116 (c_X7_isKind σ (-1)) (by decide) (by decide) (fun _ h => h) (As := [.int (-1)]) (rest := []) rfl rfl (Nat.le_of_ble_eq_true rfl) dX7_isUnder_13 ?_
  refine V_if_eq_b C (tgt := 38) dX7_isUnder_16 (by decide) (fun _ => ?_) (fun z => absurd z (by decide))
  refine V_blk C (pc' := 39) (σ' := σ) (L' := [some (.int 1), some (.int 5), some (.int (-1)), some (.int 2)]) (st' := [.int 0]) (g_c dX7_isUnder_38 g_n) rfl rfl ?_
  refine V_zret C (by decide) dX7_isUnder_39 ?_
  exact ⟨rfl, rfl⟩
set_option maxHeartbeats 4000000 in
set_option maxRecDepth 100000 in
theorem c_X7_isUnder_2_0 (σ : gS) : g_Met yX7_isUnder cX7_isUnder 4 (some .boolean) 3 kX [.int 2, .int 0] σ (fun rv s => rv = some (.int 1) ∧ s = σ) := by
  refine g_Met.of (own := 7) (L := [some (.int 2), some (.int 0), none, none]) (by decide) rfl rfl (fun ad => Nat.le_of_ble_eq_true rfl) (fun ad => rfl) (fun X G K C => ?_)
  refine V_blk C (pc' := 5) (σ' := σ) (L' := [some (.int 2), some (.int 0), some (.int 2), some (.int 0)]) (st' := [.int 0]) (g_c dX7_isUnder_0 (g_c dX7_isUnder_1 (g_c dX7_isUnder_2 (g_c dX7_isUnder_3 (g_c dX7_isUnder_4 g_n))))) rfl rfl ?_
  refine V_gsU C dX7_isUnder_5 ?_
  refine V_alenU C dX7_isUnder_8 ?_
  refine V_icmp_ge2 C (tgt := 38) dX7_isUnder_9 (by decide) (fun z => absurd z (by decide)) (fun _ => ?_)
  refine V_blk C (pc' := 13) (σ' := σ) (L' := [some (.int 2), some (.int 0), some (.int 2), some (.int 0)]) (st' := [.int 2]) (g_c dX7_isUnder_12 g_n) rfl rfl ?_
  refine V_callSI C cs_X7_116 (c_X7_isKind σ 2) (by decide) (by decide) (fun _ h => h) (As := [.int 2]) (rest := []) rfl rfl (Nat.le_of_ble_eq_true rfl) dX7_isUnder_13 ?_
  refine V_if_eq_b C (tgt := 38) dX7_isUnder_16 (by decide) (fun z => absurd (by decide) z) (fun _ => ?_)
  refine V_blk C (pc' := 21) (σ' := σ) (L' := [some (.int 2), some (.int 0), some (.int 2), some (.int 0)]) (st' := [.int 0, .int 2]) (g_c dX7_isUnder_19 (g_c dX7_isUnder_20 g_n)) rfl rfl ?_
  refine V_icmp_ne C (tgt := 26) dX7_isUnder_21 (by decide) (fun _ => ?_) (fun z => absurd z (by decide))
  refine V_gsU C dX7_isUnder_26 ?_
  refine V_blk C (pc' := 30) (σ' := σ) (L' := [some (.int 2), some (.int 0), some (.int 2), some (.int 0)]) (st' := [.int 2, .ref 106]) (g_c dX7_isUnder_29 g_n) rfl rfl ?_
  refine V_aldU C (v := 0) (vp_in_nI (n := 2) (N := 6) (by decide) (by decide)) (by decide) dX7_isUnder_30 ?_
  refine V_blk C (pc' := 35) (σ' := σ) (L' := [some (.int 2), some (.int 0), some (.int 0), some (.int 1)]) (st' := []) (g_c dX7_isUnder_31 (g_c dX7_isUnder_32 g_n)) rfl rfl ?_
  refine V_goto C (tgt := 4) dX7_isUnder_35 (by decide) ?_
  refine V_blk C (pc' := 5) (σ' := σ) (L' := [some (.int 2), some (.int 0), some (.int 0), some (.int 1)]) (st' := [.int 1]) (g_c dX7_isUnder_4 g_n) rfl rfl ?_
  refine V_gsU C dX7_isUnder_5 ?_
  refine V_alenU C dX7_isUnder_8 ?_
  refine V_icmp_ge2 C (tgt := 38) dX7_isUnder_9 (by decide) (fun z => absurd z (by decide)) (fun _ => ?_)
  refine V_blk C (pc' := 13) (σ' := σ) (L' := [some (.int 2), some (.int 0), some (.int 0), some (.int 1)]) (st' := [.int 0]) (g_c dX7_isUnder_12 g_n) rfl rfl ?_
  refine V_callSI C cs_X7_116 (c_X7_isKind σ 0) (by decide) (by decide) (fun _ h => h) (As := [.int 0]) (rest := []) rfl rfl (Nat.le_of_ble_eq_true rfl) dX7_isUnder_13 ?_
  refine V_if_eq_b C (tgt := 38) dX7_isUnder_16 (by decide) (fun z => absurd (by decide) z) (fun _ => ?_)
  refine V_blk C (pc' := 21) (σ' := σ) (L' := [some (.int 2), some (.int 0), some (.int 0), some (.int 1)]) (st' := [.int 0, .int 0]) (g_c dX7_isUnder_19 (g_c dX7_isUnder_20 g_n)) rfl rfl ?_
  refine V_icmp_ne C (tgt := 26) dX7_isUnder_21 (by decide) (fun z => absurd z (by decide)) (fun _ => ?_)
  refine V_blk C (pc' := 25) (σ' := σ) (L' := [some (.int 2), some (.int 0), some (.int 0), some (.int 1)]) (st' := [.int 1]) (g_c dX7_isUnder_24 g_n) rfl rfl ?_
  refine V_zret C (by decide) dX7_isUnder_25 ?_
  exact ⟨rfl, rfl⟩
set_option maxHeartbeats 4000000 in
set_option maxRecDepth 100000 in
theorem c_X7_isUnder_2_1 (σ : gS) : g_Met yX7_isUnder cX7_isUnder 4 (some .boolean) 3 kX [.int 2, .int 1] σ (fun rv s => rv = some (.int 0) ∧ s = σ) := by
  refine g_Met.of (own := 7) (L := [some (.int 2), some (.int 1), none, none]) (by decide) rfl rfl (fun ad => Nat.le_of_ble_eq_true rfl) (fun ad => rfl) (fun X G K C => ?_)
  refine V_blk C (pc' := 5) (σ' := σ) (L' := [some (.int 2), some (.int 1), some (.int 2), some (.int 0)]) (st' := [.int 0]) (g_c dX7_isUnder_0 (g_c dX7_isUnder_1 (g_c dX7_isUnder_2 (g_c dX7_isUnder_3 (g_c dX7_isUnder_4 g_n))))) rfl rfl ?_
  refine V_gsU C dX7_isUnder_5 ?_
  refine V_alenU C dX7_isUnder_8 ?_
  refine V_icmp_ge2 C (tgt := 38) dX7_isUnder_9 (by decide) (fun z => absurd z (by decide)) (fun _ => ?_)
  refine V_blk C (pc' := 13) (σ' := σ) (L' := [some (.int 2), some (.int 1), some (.int 2), some (.int 0)]) (st' := [.int 2]) (g_c dX7_isUnder_12 g_n) rfl rfl ?_
  refine V_callSI C cs_X7_116 (c_X7_isKind σ 2) (by decide) (by decide) (fun _ h => h) (As := [.int 2]) (rest := []) rfl rfl (Nat.le_of_ble_eq_true rfl) dX7_isUnder_13 ?_
  refine V_if_eq_b C (tgt := 38) dX7_isUnder_16 (by decide) (fun z => absurd (by decide) z) (fun _ => ?_)
  refine V_blk C (pc' := 21) (σ' := σ) (L' := [some (.int 2), some (.int 1), some (.int 2), some (.int 0)]) (st' := [.int 1, .int 2]) (g_c dX7_isUnder_19 (g_c dX7_isUnder_20 g_n)) rfl rfl ?_
  refine V_icmp_ne C (tgt := 26) dX7_isUnder_21 (by decide) (fun _ => ?_) (fun z => absurd z (by decide))
  refine V_gsU C dX7_isUnder_26 ?_
  refine V_blk C (pc' := 30) (σ' := σ) (L' := [some (.int 2), some (.int 1), some (.int 2), some (.int 0)]) (st' := [.int 2, .ref 106]) (g_c dX7_isUnder_29 g_n) rfl rfl ?_
  refine V_aldU C (v := 0) (vp_in_nI (n := 2) (N := 6) (by decide) (by decide)) (by decide) dX7_isUnder_30 ?_
  refine V_blk C (pc' := 35) (σ' := σ) (L' := [some (.int 2), some (.int 1), some (.int 0), some (.int 1)]) (st' := []) (g_c dX7_isUnder_31 (g_c dX7_isUnder_32 g_n)) rfl rfl ?_
  refine V_goto C (tgt := 4) dX7_isUnder_35 (by decide) ?_
  refine V_blk C (pc' := 5) (σ' := σ) (L' := [some (.int 2), some (.int 1), some (.int 0), some (.int 1)]) (st' := [.int 1]) (g_c dX7_isUnder_4 g_n) rfl rfl ?_
  refine V_gsU C dX7_isUnder_5 ?_
  refine V_alenU C dX7_isUnder_8 ?_
  refine V_icmp_ge2 C (tgt := 38) dX7_isUnder_9 (by decide) (fun z => absurd z (by decide)) (fun _ => ?_)
  refine V_blk C (pc' := 13) (σ' := σ) (L' := [some (.int 2), some (.int 1), some (.int 0), some (.int 1)]) (st' := [.int 0]) (g_c dX7_isUnder_12 g_n) rfl rfl ?_
  refine V_callSI C cs_X7_116 (c_X7_isKind σ 0) (by decide) (by decide) (fun _ h => h) (As := [.int 0]) (rest := []) rfl rfl (Nat.le_of_ble_eq_true rfl) dX7_isUnder_13 ?_
  refine V_if_eq_b C (tgt := 38) dX7_isUnder_16 (by decide) (fun z => absurd (by decide) z) (fun _ => ?_)
  refine V_blk C (pc' := 21) (σ' := σ) (L' := [some (.int 2), some (.int 1), some (.int 0), some (.int 1)]) (st' := [.int 1, .int 0]) (g_c dX7_isUnder_19 (g_c dX7_isUnder_20 g_n)) rfl rfl ?_
  refine V_icmp_ne C (tgt := 26) dX7_isUnder_21 (by decide) (fun _ => ?_) (fun z => absurd z (by decide))
  refine V_gsU C dX7_isUnder_26 ?_
  refine V_blk C (pc' := 30) (σ' := σ) (L' := [some (.int 2), some (.int 1), some (.int 0), some (.int 1)]) (st' := [.int 0, .ref 106]) (g_c dX7_isUnder_29 g_n) rfl rfl ?_
  refine V_aldU C (v := (-1)) (vp_in_nI (n := 0) (N := 6) (by decide) (by decide)) (by decide) dX7_isUnder_30 ?_
  refine V_blk C (pc' := 35) (σ' := σ) (L' := [some (.int 2), some (.int 1), some (.int (-1)), some (.int 2)]) (st' := []) (g_c dX7_isUnder_31 (g_c dX7_isUnder_32 g_n)) rfl rfl ?_
  refine V_goto C (tgt := 4) dX7_isUnder_35 (by decide) ?_
  refine V_blk C (pc' := 5) (σ' := σ) (L' := [some (.int 2), some (.int 1), some (.int (-1)), some (.int 2)]) (st' := [.int 2]) (g_c dX7_isUnder_4 g_n) rfl rfl ?_
  refine V_gsU C dX7_isUnder_5 ?_
  refine V_alenU C dX7_isUnder_8 ?_
  refine V_icmp_ge2 C (tgt := 38) dX7_isUnder_9 (by decide) (fun z => absurd z (by decide)) (fun _ => ?_)
  refine V_blk C (pc' := 13) (σ' := σ) (L' := [some (.int 2), some (.int 1), some (.int (-1)), some (.int 2)]) (st' := [.int (-1)]) (g_c dX7_isUnder_12 g_n) rfl rfl ?_
  refine V_callSI C cs_X7_116 (c_X7_isKind σ (-1)) (by decide) (by decide) (fun _ h => h) (As := [.int (-1)]) (rest := []) rfl rfl (Nat.le_of_ble_eq_true rfl) dX7_isUnder_13 ?_
  refine V_if_eq_b C (tgt := 38) dX7_isUnder_16 (by decide) (fun _ => ?_) (fun z => absurd z (by decide))
  refine V_blk C (pc' := 39) (σ' := σ) (L' := [some (.int 2), some (.int 1), some (.int (-1)), some (.int 2)]) (st' := [.int 0]) (g_c dX7_isUnder_38 g_n) rfl rfl ?_
  refine V_zret C (by decide) dX7_isUnder_39 ?_
  exact ⟨rfl, rfl⟩
set_option maxHeartbeats 4000000 in
set_option maxRecDepth 100000 in
theorem c_X7_isUnder_2_2 (σ : gS) : g_Met yX7_isUnder cX7_isUnder 4 (some .boolean) 3 kX [.int 2, .int 2] σ (fun rv s => rv = some (.int 1) ∧ s = σ) := by
  refine g_Met.of (own := 7) (L := [some (.int 2), some (.int 2), none, none]) (by decide) rfl rfl (fun ad => Nat.le_of_ble_eq_true rfl) (fun ad => rfl) (fun X G K C => ?_)
  refine V_blk C (pc' := 5) (σ' := σ) (L' := [some (.int 2), some (.int 2), some (.int 2), some (.int 0)]) (st' := [.int 0]) (g_c dX7_isUnder_0 (g_c dX7_isUnder_1 (g_c dX7_isUnder_2 (g_c dX7_isUnder_3 (g_c dX7_isUnder_4 g_n))))) rfl rfl ?_
  refine V_gsU C dX7_isUnder_5 ?_
  refine V_alenU C dX7_isUnder_8 ?_
  refine V_icmp_ge2 C (tgt := 38) dX7_isUnder_9 (by decide) (fun z => absurd z (by decide)) (fun _ => ?_)
  refine V_blk C (pc' := 13) (σ' := σ) (L' := [some (.int 2), some (.int 2), some (.int 2), some (.int 0)]) (st' := [.int 2]) (g_c dX7_isUnder_12 g_n) rfl rfl ?_
  refine V_callSI C cs_X7_116 (c_X7_isKind σ 2) (by decide) (by decide) (fun _ h => h) (As := [.int 2]) (rest := []) rfl rfl (Nat.le_of_ble_eq_true rfl) dX7_isUnder_13 ?_
  refine V_if_eq_b C (tgt := 38) dX7_isUnder_16 (by decide) (fun z => absurd (by decide) z) (fun _ => ?_)
  refine V_blk C (pc' := 21) (σ' := σ) (L' := [some (.int 2), some (.int 2), some (.int 2), some (.int 0)]) (st' := [.int 2, .int 2]) (g_c dX7_isUnder_19 (g_c dX7_isUnder_20 g_n)) rfl rfl ?_
  refine V_icmp_ne C (tgt := 26) dX7_isUnder_21 (by decide) (fun z => absurd z (by decide)) (fun _ => ?_)
  refine V_blk C (pc' := 25) (σ' := σ) (L' := [some (.int 2), some (.int 2), some (.int 2), some (.int 0)]) (st' := [.int 1]) (g_c dX7_isUnder_24 g_n) rfl rfl ?_
  refine V_zret C (by decide) dX7_isUnder_25 ?_
  exact ⟨rfl, rfl⟩
set_option maxHeartbeats 4000000 in
set_option maxRecDepth 100000 in
theorem c_X7_isUnder_2_3 (σ : gS) : g_Met yX7_isUnder cX7_isUnder 4 (some .boolean) 3 kX [.int 2, .int 3] σ (fun rv s => rv = some (.int 0) ∧ s = σ) := by
  refine g_Met.of (own := 7) (L := [some (.int 2), some (.int 3), none, none]) (by decide) rfl rfl (fun ad => Nat.le_of_ble_eq_true rfl) (fun ad => rfl) (fun X G K C => ?_)
  refine V_blk C (pc' := 5) (σ' := σ) (L' := [some (.int 2), some (.int 3), some (.int 2), some (.int 0)]) (st' := [.int 0]) (g_c dX7_isUnder_0 (g_c dX7_isUnder_1 (g_c dX7_isUnder_2 (g_c dX7_isUnder_3 (g_c dX7_isUnder_4 g_n))))) rfl rfl ?_
  refine V_gsU C dX7_isUnder_5 ?_
  refine V_alenU C dX7_isUnder_8 ?_
  refine V_icmp_ge2 C (tgt := 38) dX7_isUnder_9 (by decide) (fun z => absurd z (by decide)) (fun _ => ?_)
  refine V_blk C (pc' := 13) (σ' := σ) (L' := [some (.int 2), some (.int 3), some (.int 2), some (.int 0)]) (st' := [.int 2]) (g_c dX7_isUnder_12 g_n) rfl rfl ?_
  refine V_callSI C cs_X7_116 (c_X7_isKind σ 2) (by decide) (by decide) (fun _ h => h) (As := [.int 2]) (rest := []) rfl rfl (Nat.le_of_ble_eq_true rfl) dX7_isUnder_13 ?_
  refine V_if_eq_b C (tgt := 38) dX7_isUnder_16 (by decide) (fun z => absurd (by decide) z) (fun _ => ?_)
  refine V_blk C (pc' := 21) (σ' := σ) (L' := [some (.int 2), some (.int 3), some (.int 2), some (.int 0)]) (st' := [.int 3, .int 2]) (g_c dX7_isUnder_19 (g_c dX7_isUnder_20 g_n)) rfl rfl ?_
  refine V_icmp_ne C (tgt := 26) dX7_isUnder_21 (by decide) (fun _ => ?_) (fun z => absurd z (by decide))
  refine V_gsU C dX7_isUnder_26 ?_
  refine V_blk C (pc' := 30) (σ' := σ) (L' := [some (.int 2), some (.int 3), some (.int 2), some (.int 0)]) (st' := [.int 2, .ref 106]) (g_c dX7_isUnder_29 g_n) rfl rfl ?_
  refine V_aldU C (v := 0) (vp_in_nI (n := 2) (N := 6) (by decide) (by decide)) (by decide) dX7_isUnder_30 ?_
  refine V_blk C (pc' := 35) (σ' := σ) (L' := [some (.int 2), some (.int 3), some (.int 0), some (.int 1)]) (st' := []) (g_c dX7_isUnder_31 (g_c dX7_isUnder_32 g_n)) rfl rfl ?_
  refine V_goto C (tgt := 4) dX7_isUnder_35 (by decide) ?_
  refine V_blk C (pc' := 5) (σ' := σ) (L' := [some (.int 2), some (.int 3), some (.int 0), some (.int 1)]) (st' := [.int 1]) (g_c dX7_isUnder_4 g_n) rfl rfl ?_
  refine V_gsU C dX7_isUnder_5 ?_
  refine V_alenU C dX7_isUnder_8 ?_
  refine V_icmp_ge2 C (tgt := 38) dX7_isUnder_9 (by decide) (fun z => absurd z (by decide)) (fun _ => ?_)
  refine V_blk C (pc' := 13) (σ' := σ) (L' := [some (.int 2), some (.int 3), some (.int 0), some (.int 1)]) (st' := [.int 0]) (g_c dX7_isUnder_12 g_n) rfl rfl ?_
  refine V_callSI C cs_X7_116 (c_X7_isKind σ 0) (by decide) (by decide) (fun _ h => h) (As := [.int 0]) (rest := []) rfl rfl (Nat.le_of_ble_eq_true rfl) dX7_isUnder_13 ?_
  refine V_if_eq_b C (tgt := 38) dX7_isUnder_16 (by decide) (fun z => absurd (by decide) z) (fun _ => ?_)
  refine V_blk C (pc' := 21) (σ' := σ) (L' := [some (.int 2), some (.int 3), some (.int 0), some (.int 1)]) (st' := [.int 3, .int 0]) (g_c dX7_isUnder_19 (g_c dX7_isUnder_20 g_n)) rfl rfl ?_
  refine V_icmp_ne C (tgt := 26) dX7_isUnder_21 (by decide) (fun _ => ?_) (fun z => absurd z (by decide))
  refine V_gsU C dX7_isUnder_26 ?_
  refine V_blk C (pc' := 30) (σ' := σ) (L' := [some (.int 2), some (.int 3), some (.int 0), some (.int 1)]) (st' := [.int 0, .ref 106]) (g_c dX7_isUnder_29 g_n) rfl rfl ?_
  refine V_aldU C (v := (-1)) (vp_in_nI (n := 0) (N := 6) (by decide) (by decide)) (by decide) dX7_isUnder_30 ?_
  refine V_blk C (pc' := 35) (σ' := σ) (L' := [some (.int 2), some (.int 3), some (.int (-1)), some (.int 2)]) (st' := []) (g_c dX7_isUnder_31 (g_c dX7_isUnder_32 g_n)) rfl rfl ?_
  refine V_goto C (tgt := 4) dX7_isUnder_35 (by decide) ?_
  refine V_blk C (pc' := 5) (σ' := σ) (L' := [some (.int 2), some (.int 3), some (.int (-1)), some (.int 2)]) (st' := [.int 2]) (g_c dX7_isUnder_4 g_n) rfl rfl ?_
  refine V_gsU C dX7_isUnder_5 ?_
  refine V_alenU C dX7_isUnder_8 ?_
  refine V_icmp_ge2 C (tgt := 38) dX7_isUnder_9 (by decide) (fun z => absurd z (by decide)) (fun _ => ?_)
  refine V_blk C (pc' := 13) (σ' := σ) (L' := [some (.int 2), some (.int 3), some (.int (-1)), some (.int 2)]) (st' := [.int (-1)]) (g_c dX7_isUnder_12 g_n) rfl rfl ?_
  refine V_callSI C cs_X7_116 (c_X7_isKind σ (-1)) (by decide) (by decide) (fun _ h => h) (As := [.int (-1)]) (rest := []) rfl rfl (Nat.le_of_ble_eq_true rfl) dX7_isUnder_13 ?_
  refine V_if_eq_b C (tgt := 38) dX7_isUnder_16 (by decide) (fun _ => ?_) (fun z => absurd z (by decide))
  refine V_blk C (pc' := 39) (σ' := σ) (L' := [some (.int 2), some (.int 3), some (.int (-1)), some (.int 2)]) (st' := [.int 0]) (g_c dX7_isUnder_38 g_n) rfl rfl ?_
  refine V_zret C (by decide) dX7_isUnder_39 ?_
  exact ⟨rfl, rfl⟩
set_option maxHeartbeats 4000000 in
set_option maxRecDepth 100000 in
theorem c_X7_isUnder_2_4 (σ : gS) : g_Met yX7_isUnder cX7_isUnder 4 (some .boolean) 3 kX [.int 2, .int 4] σ (fun rv s => rv = some (.int 0) ∧ s = σ) := by
  refine g_Met.of (own := 7) (L := [some (.int 2), some (.int 4), none, none]) (by decide) rfl rfl (fun ad => Nat.le_of_ble_eq_true rfl) (fun ad => rfl) (fun X G K C => ?_)
  refine V_blk C (pc' := 5) (σ' := σ) (L' := [some (.int 2), some (.int 4), some (.int 2), some (.int 0)]) (st' := [.int 0]) (g_c dX7_isUnder_0 (g_c dX7_isUnder_1 (g_c dX7_isUnder_2 (g_c dX7_isUnder_3 (g_c dX7_isUnder_4 g_n))))) rfl rfl ?_
  refine V_gsU C dX7_isUnder_5 ?_
  refine V_alenU C dX7_isUnder_8 ?_
  refine V_icmp_ge2 C (tgt := 38) dX7_isUnder_9 (by decide) (fun z => absurd z (by decide)) (fun _ => ?_)
  refine V_blk C (pc' := 13) (σ' := σ) (L' := [some (.int 2), some (.int 4), some (.int 2), some (.int 0)]) (st' := [.int 2]) (g_c dX7_isUnder_12 g_n) rfl rfl ?_
  refine V_callSI C cs_X7_116 (c_X7_isKind σ 2) (by decide) (by decide) (fun _ h => h) (As := [.int 2]) (rest := []) rfl rfl (Nat.le_of_ble_eq_true rfl) dX7_isUnder_13 ?_
  refine V_if_eq_b C (tgt := 38) dX7_isUnder_16 (by decide) (fun z => absurd (by decide) z) (fun _ => ?_)
  refine V_blk C (pc' := 21) (σ' := σ) (L' := [some (.int 2), some (.int 4), some (.int 2), some (.int 0)]) (st' := [.int 4, .int 2]) (g_c dX7_isUnder_19 (g_c dX7_isUnder_20 g_n)) rfl rfl ?_
  refine V_icmp_ne C (tgt := 26) dX7_isUnder_21 (by decide) (fun _ => ?_) (fun z => absurd z (by decide))
  refine V_gsU C dX7_isUnder_26 ?_
  refine V_blk C (pc' := 30) (σ' := σ) (L' := [some (.int 2), some (.int 4), some (.int 2), some (.int 0)]) (st' := [.int 2, .ref 106]) (g_c dX7_isUnder_29 g_n) rfl rfl ?_
  refine V_aldU C (v := 0) (vp_in_nI (n := 2) (N := 6) (by decide) (by decide)) (by decide) dX7_isUnder_30 ?_
  refine V_blk C (pc' := 35) (σ' := σ) (L' := [some (.int 2), some (.int 4), some (.int 0), some (.int 1)]) (st' := []) (g_c dX7_isUnder_31 (g_c dX7_isUnder_32 g_n)) rfl rfl ?_
  refine V_goto C (tgt := 4) dX7_isUnder_35 (by decide) ?_
  refine V_blk C (pc' := 5) (σ' := σ) (L' := [some (.int 2), some (.int 4), some (.int 0), some (.int 1)]) (st' := [.int 1]) (g_c dX7_isUnder_4 g_n) rfl rfl ?_
  refine V_gsU C dX7_isUnder_5 ?_
  refine V_alenU C dX7_isUnder_8 ?_
  refine V_icmp_ge2 C (tgt := 38) dX7_isUnder_9 (by decide) (fun z => absurd z (by decide)) (fun _ => ?_)
  refine V_blk C (pc' := 13) (σ' := σ) (L' := [some (.int 2), some (.int 4), some (.int 0), some (.int 1)]) (st' := [.int 0]) (g_c dX7_isUnder_12 g_n) rfl rfl ?_
  refine V_callSI C cs_X7_116 (c_X7_isKind σ 0) (by decide) (by decide) (fun _ h => h) (As := [.int 0]) (rest := []) rfl rfl (Nat.le_of_ble_eq_true rfl) dX7_isUnder_13 ?_
  refine V_if_eq_b C (tgt := 38) dX7_isUnder_16 (by decide) (fun z => absurd (by decide) z) (fun _ => ?_)
  refine V_blk C (pc' := 21) (σ' := σ) (L' := [some (.int 2), some (.int 4), some (.int 0), some (.int 1)]) (st' := [.int 4, .int 0]) (g_c dX7_isUnder_19 (g_c dX7_isUnder_20 g_n)) rfl rfl ?_
  refine V_icmp_ne C (tgt := 26) dX7_isUnder_21 (by decide) (fun _ => ?_) (fun z => absurd z (by decide))
  refine V_gsU C dX7_isUnder_26 ?_
  refine V_blk C (pc' := 30) (σ' := σ) (L' := [some (.int 2), some (.int 4), some (.int 0), some (.int 1)]) (st' := [.int 0, .ref 106]) (g_c dX7_isUnder_29 g_n) rfl rfl ?_
  refine V_aldU C (v := (-1)) (vp_in_nI (n := 0) (N := 6) (by decide) (by decide)) (by decide) dX7_isUnder_30 ?_
  refine V_blk C (pc' := 35) (σ' := σ) (L' := [some (.int 2), some (.int 4), some (.int (-1)), some (.int 2)]) (st' := []) (g_c dX7_isUnder_31 (g_c dX7_isUnder_32 g_n)) rfl rfl ?_
  refine V_goto C (tgt := 4) dX7_isUnder_35 (by decide) ?_
  refine V_blk C (pc' := 5) (σ' := σ) (L' := [some (.int 2), some (.int 4), some (.int (-1)), some (.int 2)]) (st' := [.int 2]) (g_c dX7_isUnder_4 g_n) rfl rfl ?_
  refine V_gsU C dX7_isUnder_5 ?_
  refine V_alenU C dX7_isUnder_8 ?_
  refine V_icmp_ge2 C (tgt := 38) dX7_isUnder_9 (by decide) (fun z => absurd z (by decide)) (fun _ => ?_)
  refine V_blk C (pc' := 13) (σ' := σ) (L' := [some (.int 2), some (.int 4), some (.int (-1)), some (.int 2)]) (st' := [.int (-1)]) (g_c dX7_isUnder_12 g_n) rfl rfl ?_
  refine V_callSI C cs_X7_116 (c_X7_isKind σ (-1)) (by decide) (by decide) (fun _ h => h) (As := [.int (-1)]) (rest := []) rfl rfl (Nat.le_of_ble_eq_true rfl) dX7_isUnder_13 ?_
  refine V_if_eq_b C (tgt := 38) dX7_isUnder_16 (by decide) (fun _ => ?_) (fun z => absurd z (by decide))
  refine V_blk C (pc' := 39) (σ' := σ) (L' := [some (.int 2), some (.int 4), some (.int (-1)), some (.int 2)]) (st' := [.int 0]) (g_c dX7_isUnder_38 g_n) rfl rfl ?_
  refine V_zret C (by decide) dX7_isUnder_39 ?_
  exact ⟨rfl, rfl⟩
set_option maxHeartbeats 4000000 in
set_option maxRecDepth 100000 in
theorem c_X7_isUnder_2_5 (σ : gS) : g_Met yX7_isUnder cX7_isUnder 4 (some .boolean) 3 kX [.int 2, .int 5] σ (fun rv s => rv = some (.int 0) ∧ s = σ) := by
  refine g_Met.of (own := 7) (L := [some (.int 2), some (.int 5), none, none]) (by decide) rfl rfl (fun ad => Nat.le_of_ble_eq_true rfl) (fun ad => rfl) (fun X G K C => ?_)
  refine V_blk C (pc' := 5) (σ' := σ) (L' := [some (.int 2), some (.int 5), some (.int 2), some (.int 0)]) (st' := [.int 0]) (g_c dX7_isUnder_0 (g_c dX7_isUnder_1 (g_c dX7_isUnder_2 (g_c dX7_isUnder_3 (g_c dX7_isUnder_4 g_n))))) rfl rfl ?_
  refine V_gsU C dX7_isUnder_5 ?_
  refine V_alenU C dX7_isUnder_8 ?_
  refine V_icmp_ge2 C (tgt := 38) dX7_isUnder_9 (by decide) (fun z => absurd z (by decide)) (fun _ => ?_)
  refine V_blk C (pc' := 13) (σ' := σ) (L' := [some (.int 2), some (.int 5), some (.int 2), some (.int 0)]) (st' := [.int 2]) (g_c dX7_isUnder_12 g_n) rfl rfl ?_
  refine V_callSI C cs_X7_116 (c_X7_isKind σ 2) (by decide) (by decide) (fun _ h => h) (As := [.int 2]) (rest := []) rfl rfl (Nat.le_of_ble_eq_true rfl) dX7_isUnder_13 ?_
  refine V_if_eq_b C (tgt := 38) dX7_isUnder_16 (by decide) (fun z => absurd (by decide) z) (fun _ => ?_)
  refine V_blk C (pc' := 21) (σ' := σ) (L' := [some (.int 2), some (.int 5), some (.int 2), some (.int 0)]) (st' := [.int 5, .int 2]) (g_c dX7_isUnder_19 (g_c dX7_isUnder_20 g_n)) rfl rfl ?_
  refine V_icmp_ne C (tgt := 26) dX7_isUnder_21 (by decide) (fun _ => ?_) (fun z => absurd z (by decide))
  refine V_gsU C dX7_isUnder_26 ?_
  refine V_blk C (pc' := 30) (σ' := σ) (L' := [some (.int 2), some (.int 5), some (.int 2), some (.int 0)]) (st' := [.int 2, .ref 106]) (g_c dX7_isUnder_29 g_n) rfl rfl ?_
  refine V_aldU C (v := 0) (vp_in_nI (n := 2) (N := 6) (by decide) (by decide)) (by decide) dX7_isUnder_30 ?_
  refine V_blk C (pc' := 35) (σ' := σ) (L' := [some (.int 2), some (.int 5), some (.int 0), some (.int 1)]) (st' := []) (g_c dX7_isUnder_31 (g_c dX7_isUnder_32 g_n)) rfl rfl ?_
  refine V_goto C (tgt := 4) dX7_isUnder_35 (by decide) ?_
  refine V_blk C (pc' := 5) (σ' := σ) (L' := [some (.int 2), some (.int 5), some (.int 0), some (.int 1)]) (st' := [.int 1]) (g_c dX7_isUnder_4 g_n) rfl rfl ?_
  refine V_gsU C dX7_isUnder_5 ?_
  refine V_alenU C dX7_isUnder_8 ?_
  refine V_icmp_ge2 C (tgt := 38) dX7_isUnder_9 (by decide) (fun z => absurd z (by decide)) (fun _ => ?_)
  refine V_blk C (pc' := 13) (σ' := σ) (L' := [some (.int 2), some (.int 5), some (.int 0), some (.int 1)]) (st' := [.int 0]) (g_c dX7_isUnder_12 g_n) rfl rfl ?_
  refine V_callSI C cs_X7_116 (c_X7_isKind σ 0) (by decide) (by decide) (fun _ h => h) (As := [.int 0]) (rest := []) rfl rfl (Nat.le_of_ble_eq_true rfl) dX7_isUnder_13 ?_
  refine V_if_eq_b C (tgt := 38) dX7_isUnder_16 (by decide) (fun z => absurd (by decide) z) (fun _ => ?_)
  refine V_blk C (pc' := 21) (σ' := σ) (L' := [some (.int 2), some (.int 5), some (.int 0), some (.int 1)]) (st' := [.int 5, .int 0]) (g_c dX7_isUnder_19 (g_c dX7_isUnder_20 g_n)) rfl rfl ?_
  refine V_icmp_ne C (tgt := 26) dX7_isUnder_21 (by decide) (fun _ => ?_) (fun z => absurd z (by decide))
  refine V_gsU C dX7_isUnder_26 ?_
  refine V_blk C (pc' := 30) (σ' := σ) (L' := [some (.int 2), some (.int 5), some (.int 0), some (.int 1)]) (st' := [.int 0, .ref 106]) (g_c dX7_isUnder_29 g_n) rfl rfl ?_
  refine V_aldU C (v := (-1)) (vp_in_nI (n := 0) (N := 6) (by decide) (by decide)) (by decide) dX7_isUnder_30 ?_
  refine V_blk C (pc' := 35) (σ' := σ) (L' := [some (.int 2), some (.int 5), some (.int (-1)), some (.int 2)]) (st' := []) (g_c dX7_isUnder_31 (g_c dX7_isUnder_32 g_n)) rfl rfl ?_
  refine V_goto C (tgt := 4) dX7_isUnder_35 (by decide) ?_
  refine V_blk C (pc' := 5) (σ' := σ) (L' := [some (.int 2), some (.int 5), some (.int (-1)), some (.int 2)]) (st' := [.int 2]) (g_c dX7_isUnder_4 g_n) rfl rfl ?_
  refine V_gsU C dX7_isUnder_5 ?_
  refine V_alenU C dX7_isUnder_8 ?_
  refine V_icmp_ge2 C (tgt := 38) dX7_isUnder_9 (by decide) (fun z => absurd z (by decide)) (fun _ => ?_)
  refine V_blk C (pc' := 13) (σ' := σ) (L' := [some (.int 2), some (.int 5), some (.int (-1)), some (.int 2)]) (st' := [.int (-1)]) (g_c dX7_isUnder_12 g_n) rfl rfl ?_
  refine V_callSI C cs_X7_116 (c_X7_isKind σ (-1)) (by decide) (by decide) (fun _ h => h) (As := [.int (-1)]) (rest := []) rfl rfl (Nat.le_of_ble_eq_true rfl) dX7_isUnder_13 ?_
  refine V_if_eq_b C (tgt := 38) dX7_isUnder_16 (by decide) (fun _ => ?_) (fun z => absurd z (by decide))
  refine V_blk C (pc' := 39) (σ' := σ) (L' := [some (.int 2), some (.int 5), some (.int (-1)), some (.int 2)]) (st' := [.int 0]) (g_c dX7_isUnder_38 g_n) rfl rfl ?_
  refine V_zret C (by decide) dX7_isUnder_39 ?_
  exact ⟨rfl, rfl⟩
set_option maxHeartbeats 4000000 in
set_option maxRecDepth 100000 in
theorem c_X7_isUnder_3_0 (σ : gS) : g_Met yX7_isUnder cX7_isUnder 4 (some .boolean) 3 kX [.int 3, .int 0] σ (fun rv s => rv = some (.int 1) ∧ s = σ) := by
  refine g_Met.of (own := 7) (L := [some (.int 3), some (.int 0), none, none]) (by decide) rfl rfl (fun ad => Nat.le_of_ble_eq_true rfl) (fun ad => rfl) (fun X G K C => ?_)
  refine V_blk C (pc' := 5) (σ' := σ) (L' := [some (.int 3), some (.int 0), some (.int 3), some (.int 0)]) (st' := [.int 0]) (g_c dX7_isUnder_0 (g_c dX7_isUnder_1 (g_c dX7_isUnder_2 (g_c dX7_isUnder_3 (g_c dX7_isUnder_4 g_n))))) rfl rfl ?_
  refine V_gsU C dX7_isUnder_5 ?_
  refine V_alenU C dX7_isUnder_8 ?_
  refine V_icmp_ge2 C (tgt := 38) dX7_isUnder_9 (by decide) (fun z => absurd z (by decide)) (fun _ => ?_)
  refine V_blk C (pc' := 13) (σ' := σ) (L' := [some (.int 3), some (.int 0), some (.int 3), some (.int 0)]) (st' := [.int 3]) (g_c dX7_isUnder_12 g_n) rfl rfl ?_
  refine V_callSI C cs_X7_116 (c_X7_isKind σ 3) (by decide) (by decide) (fun _ h => h) (As := [.int 3]) (rest := []) rfl rfl (Nat.le_of_ble_eq_true rfl) dX7_isUnder_13 ?_
  refine V_if_eq_b C (tgt := 38) dX7_isUnder_16 (by decide) (fun z => absurd (by decide) z) (fun _ => ?_)
  refine V_blk C (pc' := 21) (σ' := σ) (L' := [some (.int 3), some (.int 0), some (.int 3), some (.int 0)]) (st' := [.int 0, .int 3]) (g_c dX7_isUnder_19 (g_c dX7_isUnder_20 g_n)) rfl rfl ?_
  refine V_icmp_ne C (tgt := 26) dX7_isUnder_21 (by decide) (fun _ => ?_) (fun z => absurd z (by decide))
  refine V_gsU C dX7_isUnder_26 ?_
  refine V_blk C (pc' := 30) (σ' := σ) (L' := [some (.int 3), some (.int 0), some (.int 3), some (.int 0)]) (st' := [.int 3, .ref 106]) (g_c dX7_isUnder_29 g_n) rfl rfl ?_
  refine V_aldU C (v := 1) (vp_in_nI (n := 3) (N := 6) (by decide) (by decide)) (by decide) dX7_isUnder_30 ?_
  refine V_blk C (pc' := 35) (σ' := σ) (L' := [some (.int 3), some (.int 0), some (.int 1), some (.int 1)]) (st' := []) (g_c dX7_isUnder_31 (g_c dX7_isUnder_32 g_n)) rfl rfl ?_
  refine V_goto C (tgt := 4) dX7_isUnder_35 (by decide) ?_
  refine V_blk C (pc' := 5) (σ' := σ) (L' := [some (.int 3), some (.int 0), some (.int 1), some (.int 1)]) (st' := [.int 1]) (g_c dX7_isUnder_4 g_n) rfl rfl ?_
  refine V_gsU C dX7_isUnder_5 ?_
  refine V_alenU C dX7_isUnder_8 ?_
  refine V_icmp_ge2 C (tgt := 38) dX7_isUnder_9 (by decide) (fun z => absurd z (by decide)) (fun _ => ?_)
  refine V_blk C (pc' := 13) (σ' := σ) (L' := [some (.int 3), some (.int 0), some (.int 1), some (.int 1)]) (st' := [.int 1]) (g_c dX7_isUnder_12 g_n) rfl rfl ?_
  refine V_callSI C cs_X7_116 (c_X7_isKind σ 1) (by decide) (by decide) (fun _ h => h) (As := [.int 1]) (rest := []) rfl rfl (Nat.le_of_ble_eq_true rfl) dX7_isUnder_13 ?_
  refine V_if_eq_b C (tgt := 38) dX7_isUnder_16 (by decide) (fun z => absurd (by decide) z) (fun _ => ?_)
  refine V_blk C (pc' := 21) (σ' := σ) (L' := [some (.int 3), some (.int 0), some (.int 1), some (.int 1)]) (st' := [.int 0, .int 1]) (g_c dX7_isUnder_19 (g_c dX7_isUnder_20 g_n)) rfl rfl ?_
  refine V_icmp_ne C (tgt := 26) dX7_isUnder_21 (by decide) (fun _ => ?_) (fun z => absurd z (by decide))
  refine V_gsU C dX7_isUnder_26 ?_
  refine V_blk C (pc' := 30) (σ' := σ) (L' := [some (.int 3), some (.int 0), some (.int 1), some (.int 1)]) (st' := [.int 1, .ref 106]) (g_c dX7_isUnder_29 g_n) rfl rfl ?_
  refine V_aldU C (v := 0) (vp_in_nI (n := 1) (N := 6) (by decide) (by decide)) (by decide) dX7_isUnder_30 ?_
  refine V_blk C (pc' := 35) (σ' := σ) (L' := [some (.int 3), some (.int 0), some (.int 0), some (.int 2)]) (st' := []) (g_c dX7_isUnder_31 (g_c dX7_isUnder_32 g_n)) rfl rfl ?_
  refine V_goto C (tgt := 4) dX7_isUnder_35 (by decide) ?_
  refine V_blk C (pc' := 5) (σ' := σ) (L' := [some (.int 3), some (.int 0), some (.int 0), some (.int 2)]) (st' := [.int 2]) (g_c dX7_isUnder_4 g_n) rfl rfl ?_
  refine V_gsU C dX7_isUnder_5 ?_
  refine V_alenU C dX7_isUnder_8 ?_
  refine V_icmp_ge2 C (tgt := 38) dX7_isUnder_9 (by decide) (fun z => absurd z (by decide)) (fun _ => ?_)
  refine V_blk C (pc' := 13) (σ' := σ) (L' := [some (.int 3), some (.int 0), some (.int 0), some (.int 2)]) (st' := [.int 0]) (g_c dX7_isUnder_12 g_n) rfl rfl ?_
  refine V_callSI C cs_X7_116 (c_X7_isKind σ 0) (by decide) (by decide) (fun _ h => h) (As := [.int 0]) (rest := []) rfl rfl (Nat.le_of_ble_eq_true rfl) dX7_isUnder_13 ?_
  refine V_if_eq_b C (tgt := 38) dX7_isUnder_16 (by decide) (fun z => absurd (by decide) z) (fun _ => ?_)
  refine V_blk C (pc' := 21) (σ' := σ) (L' := [some (.int 3), some (.int 0), some (.int 0), some (.int 2)]) (st' := [.int 0, .int 0]) (g_c dX7_isUnder_19 (g_c dX7_isUnder_20 g_n)) rfl rfl ?_
  refine V_icmp_ne C (tgt := 26) dX7_isUnder_21 (by decide) (fun z => absurd z (by decide)) (fun _ => ?_)
  refine V_blk C (pc' := 25) (σ' := σ) (L' := [some (.int 3), some (.int 0), some (.int 0), some (.int 2)]) (st' := [.int 1]) (g_c dX7_isUnder_24 g_n) rfl rfl ?_
  refine V_zret C (by decide) dX7_isUnder_25 ?_
  exact ⟨rfl, rfl⟩
set_option maxHeartbeats 4000000 in
set_option maxRecDepth 100000 in
theorem c_X7_isUnder_3_1 (σ : gS) : g_Met yX7_isUnder cX7_isUnder 4 (some .boolean) 3 kX [.int 3, .int 1] σ (fun rv s => rv = some (.int 1) ∧ s = σ) := by
  refine g_Met.of (own := 7) (L := [some (.int 3), some (.int 1), none, none]) (by decide) rfl rfl (fun ad => Nat.le_of_ble_eq_true rfl) (fun ad => rfl) (fun X G K C => ?_)
  refine V_blk C (pc' := 5) (σ' := σ) (L' := [some (.int 3), some (.int 1), some (.int 3), some (.int 0)]) (st' := [.int 0]) (g_c dX7_isUnder_0 (g_c dX7_isUnder_1 (g_c dX7_isUnder_2 (g_c dX7_isUnder_3 (g_c dX7_isUnder_4 g_n))))) rfl rfl ?_
  refine V_gsU C dX7_isUnder_5 ?_
  refine V_alenU C dX7_isUnder_8 ?_
  refine V_icmp_ge2 C (tgt := 38) dX7_isUnder_9 (by decide) (fun z => absurd z (by decide)) (fun _ => ?_)
  refine V_blk C (pc' := 13) (σ' := σ) (L' := [some (.int 3), some (.int 1), some (.int 3), some (.int 0)]) (st' := [.int 3]) (g_c dX7_isUnder_12 g_n) rfl rfl ?_
  refine V_callSI C cs_X7_116 (c_X7_isKind σ 3) (by decide) (by decide) (fun _ h => h) (As := [.int 3]) (rest := []) rfl rfl (Nat.le_of_ble_eq_true rfl) dX7_isUnder_13 ?_
  refine V_if_eq_b C (tgt := 38) dX7_isUnder_16 (by decide) (fun z => absurd (by decide) z) (fun _ => ?_)
  refine V_blk C (pc' := 21) (σ' := σ) (L' := [some (.int 3), some (.int 1), some (.int 3), some (.int 0)]) (st' := [.int 1, .int 3]) (g_c dX7_isUnder_19 (g_c dX7_isUnder_20 g_n)) rfl rfl ?_
  refine V_icmp_ne C (tgt := 26) dX7_isUnder_21 (by decide) (fun _ => ?_) (fun z => absurd z (by decide))
  refine V_gsU C dX7_isUnder_26 ?_
  refine V_blk C (pc' := 30) (σ' := σ) (L' := [some (.int 3), some (.int 1), some (.int 3), some (.int 0)]) (st' := [.int 3, .ref 106]) (g_c dX7_isUnder_29 g_n) rfl rfl ?_
  refine V_aldU C (v := 1) (vp_in_nI (n := 3) (N := 6) (by decide) (by decide)) (by decide) dX7_isUnder_30 ?_
  refine V_blk C (pc' := 35) (σ' := σ) (L' := [some (.int 3), some (.int 1), some (.int 1), some (.int 1)]) (st' := []) (g_c dX7_isUnder_31 (g_c dX7_isUnder_32 g_n)) rfl rfl ?_
  refine V_goto C (tgt := 4) dX7_isUnder_35 (by decide) ?_
  refine V_blk C (pc' := 5) (σ' := σ) (L' := [some (.int 3), some (.int 1), some (.int 1), some (.int 1)]) (st' := [.int 1]) (g_c dX7_isUnder_4 g_n) rfl rfl ?_
  refine V_gsU C dX7_isUnder_5 ?_
  refine V_alenU C dX7_isUnder_8 ?_
  refine V_icmp_ge2 C (tgt := 38) dX7_isUnder_9 (by decide) (fun z => absurd z (by decide)) (fun _ => ?_)
  refine V_blk C (pc' := 13) (σ' := σ) (L' := [some (.int 3), some (.int 1), some (.int 1), some (.int 1)]) (st' := [.int 1]) (g_c dX7_isUnder_12 g_n) rfl rfl ?_
  refine V_callSI C cs_X7_116 (c_X7_isKind σ 1) (by decide) (by decide) (fun _ h => h) (As := [.int 1]) (rest := []) rfl rfl (Nat.le_of_ble_eq_true rfl) dX7_isUnder_13 ?_
  refine V_if_eq_b C (tgt := 38) dX7_isUnder_16 (by decide) (fun z => absurd (by decide) z) (fun _ => ?_)
  refine V_blk C (pc' := 21) (σ' := σ) (L' := [some (.int 3), some (.int 1), some (.int 1), some (.int 1)]) (st' := [.int 1, .int 1]) (g_c dX7_isUnder_19 (g_c dX7_isUnder_20 g_n)) rfl rfl ?_
  refine V_icmp_ne C (tgt := 26) dX7_isUnder_21 (by decide) (fun z => absurd z (by decide)) (fun _ => ?_)
  refine V_blk C (pc' := 25) (σ' := σ) (L' := [some (.int 3), some (.int 1), some (.int 1), some (.int 1)]) (st' := [.int 1]) (g_c dX7_isUnder_24 g_n) rfl rfl ?_
  refine V_zret C (by decide) dX7_isUnder_25 ?_
  exact ⟨rfl, rfl⟩
set_option maxHeartbeats 4000000 in
set_option maxRecDepth 100000 in
theorem c_X7_isUnder_3_2 (σ : gS) : g_Met yX7_isUnder cX7_isUnder 4 (some .boolean) 3 kX [.int 3, .int 2] σ (fun rv s => rv = some (.int 0) ∧ s = σ) := by
  refine g_Met.of (own := 7) (L := [some (.int 3), some (.int 2), none, none]) (by decide) rfl rfl (fun ad => Nat.le_of_ble_eq_true rfl) (fun ad => rfl) (fun X G K C => ?_)
  refine V_blk C (pc' := 5) (σ' := σ) (L' := [some (.int 3), some (.int 2), some (.int 3), some (.int 0)]) (st' := [.int 0]) (g_c dX7_isUnder_0 (g_c dX7_isUnder_1 (g_c dX7_isUnder_2 (g_c dX7_isUnder_3 (g_c dX7_isUnder_4 g_n))))) rfl rfl ?_
  refine V_gsU C dX7_isUnder_5 ?_
  refine V_alenU C dX7_isUnder_8 ?_
  refine V_icmp_ge2 C (tgt := 38) dX7_isUnder_9 (by decide) (fun z => absurd z (by decide)) (fun _ => ?_)
  refine V_blk C (pc' := 13) (σ' := σ) (L' := [some (.int 3), some (.int 2), some (.int 3), some (.int 0)]) (st' := [.int 3]) (g_c dX7_isUnder_12 g_n) rfl rfl ?_
  refine V_callSI C cs_X7_116 (c_X7_isKind σ 3) (by decide) (by decide) (fun _ h => h) (As := [.int 3]) (rest := []) rfl rfl (Nat.le_of_ble_eq_true rfl) dX7_isUnder_13 ?_
  refine V_if_eq_b C (tgt := 38) dX7_isUnder_16 (by decide) (fun z => absurd (by decide) z) (fun _ => ?_)
  refine V_blk C (pc' := 21) (σ' := σ) (L' := [some (.int 3), some (.int 2), some (.int 3), some (.int 0)]) (st' := [.int 2, .int 3]) (g_c dX7_isUnder_19 (g_c dX7_isUnder_20 g_n)) rfl rfl ?_
  refine V_icmp_ne C (tgt := 26) dX7_isUnder_21 (by decide) (fun _ => ?_) (fun z => absurd z (by decide))
  refine V_gsU C dX7_isUnder_26 ?_
  refine V_blk C (pc' := 30) (σ' := σ) (L' := [some (.int 3), some (.int 2), some (.int 3), some (.int 0)]) (st' := [.int 3, .ref 106]) (g_c dX7_isUnder_29 g_n) rfl rfl ?_
  refine V_aldU C (v := 1) (vp_in_nI (n := 3) (N := 6) (by decide) (by decide)) (by decide) dX7_isUnder_30 ?_
  refine V_blk C (pc' := 35) (σ' := σ) (L' := [some (.int 3), some (.int 2), some (.int 1), some (.int 1)]) (st' := []) (g_c dX7_isUnder_31 (g_c dX7_isUnder_32 g_n)) rfl rfl ?_
  refine V_goto C (tgt := 4) dX7_isUnder_35 (by decide) ?_
  refine V_blk C (pc' := 5) (σ' := σ) (L' := [some (.int 3), some (.int 2), some (.int 1), some (.int 1)]) (st' := [.int 1]) (g_c dX7_isUnder_4 g_n) rfl rfl ?_
  refine V_gsU C dX7_isUnder_5 ?_
  refine V_alenU C dX7_isUnder_8 ?_
  refine V_icmp_ge2 C (tgt := 38) dX7_isUnder_9 (by decide) (fun z => absurd z (by decide)) (fun _ => ?_)
  refine V_blk C (pc' := 13) (σ' := σ) (L' := [some (.int 3), some (.int 2), some (.int 1), some (.int 1)]) (st' := [.int 1]) (g_c dX7_isUnder_12 g_n) rfl rfl ?_
  refine V_callSI C cs_X7_116 (c_X7_isKind σ 1) (by decide) (by decide) (fun _ h => h) (As := [.int 1]) (rest := []) rfl rfl (Nat.le_of_ble_eq_true rfl) dX7_isUnder_13 ?_
  refine V_if_eq_b C (tgt := 38) dX7_isUnder_16 (by decide) (fun z => absurd (by decide) z) (fun _ => ?_)
  refine V_blk C (pc' := 21) (σ' := σ) (L' := [some (.int 3), some (.int 2), some (.int 1), some (.int 1)]) (st' := [.int 2, .int 1]) (g_c dX7_isUnder_19 (g_c dX7_isUnder_20 g_n)) rfl rfl ?_
  refine V_icmp_ne C (tgt := 26) dX7_isUnder_21 (by decide) (fun _ => ?_) (fun z => absurd z (by decide))
  refine V_gsU C dX7_isUnder_26 ?_
  refine V_blk C (pc' := 30) (σ' := σ) (L' := [some (.int 3), some (.int 2), some (.int 1), some (.int 1)]) (st' := [.int 1, .ref 106]) (g_c dX7_isUnder_29 g_n) rfl rfl ?_
  refine V_aldU C (v := 0) (vp_in_nI (n := 1) (N := 6) (by decide) (by decide)) (by decide) dX7_isUnder_30 ?_
  refine V_blk C (pc' := 35) (σ' := σ) (L' := [some (.int 3), some (.int 2), some (.int 0), some (.int 2)]) (st' := []) (g_c dX7_isUnder_31 (g_c dX7_isUnder_32 g_n)) rfl rfl ?_
  refine V_goto C (tgt := 4) dX7_isUnder_35 (by decide) ?_
  refine V_blk C (pc' := 5) (σ' := σ) (L' := [some (.int 3), some (.int 2), some (.int 0), some (.int 2)]) (st' := [.int 2]) (g_c dX7_isUnder_4 g_n) rfl rfl ?_
  refine V_gsU C dX7_isUnder_5 ?_
  refine V_alenU C dX7_isUnder_8 ?_
  refine V_icmp_ge2 C (tgt := 38) dX7_isUnder_9 (by decide) (fun z => absurd z (by decide)) (fun _ => ?_)
  refine V_blk C (pc' := 13) (σ' := σ) (L' := [some (.int 3), some (.int 2), some (.int 0), some (.int 2)]) (st' := [.int 0]) (g_c dX7_isUnder_12 g_n) rfl rfl ?_
  refine V_callSI C cs_X7_116 (c_X7_isKind σ 0) (by decide) (by decide) (fun _ h => h) (As := [.int 0]) (rest := []) rfl rfl (Nat.le_of_ble_eq_true rfl) dX7_isUnder_13 ?_
  refine V_if_eq_b C (tgt := 38) dX7_isUnder_16 (by decide) (fun z => absurd (by decide) z) (fun _ => ?_)
  refine V_blk C (pc' := 21) (σ' := σ) (L' := [some (.int 3), some (.int 2), some (.int 0), some (.int 2)]) (st' := [.int 2, .int 0]) (g_c dX7_isUnder_19 (g_c dX7_isUnder_20 g_n)) rfl rfl ?_
  refine V_icmp_ne C (tgt := 26) dX7_isUnder_21 (by decide) (fun _ => ?_) (fun z => absurd z (by decide))
  refine V_gsU C dX7_isUnder_26 ?_
  refine V_blk C (pc' := 30) (σ' := σ) (L' := [some (.int 3), some (.int 2), some (.int 0), some (.int 2)]) (st' := [.int 0, .ref 106]) (g_c dX7_isUnder_29 g_n) rfl rfl ?_
  refine V_aldU C (v := (-1)) (vp_in_nI (n := 0) (N := 6) (by decide) (by decide)) (by decide) dX7_isUnder_30 ?_
  refine V_blk C (pc' := 35) (σ' := σ) (L' := [some (.int 3), some (.int 2), some (.int (-1)), some (.int 3)]) (st' := []) (g_c dX7_isUnder_31 (g_c dX7_isUnder_32 g_n)) rfl rfl ?_
  refine V_goto C (tgt := 4) dX7_isUnder_35 (by decide) ?_
  refine V_blk C (pc' := 5) (σ' := σ) (L' := [some (.int 3), some (.int 2), some (.int (-1)), some (.int 3)]) (st' := [.int 3]) (g_c dX7_isUnder_4 g_n) rfl rfl ?_
  refine V_gsU C dX7_isUnder_5 ?_
  refine V_alenU C dX7_isUnder_8 ?_
  refine V_icmp_ge2 C (tgt := 38) dX7_isUnder_9 (by decide) (fun z => absurd z (by decide)) (fun _ => ?_)
  refine V_blk C (pc' := 13) (σ' := σ) (L' := [some (.int 3), some (.int 2), some (.int (-1)), some (.int 3)]) (st' := [.int (-1)]) (g_c dX7_isUnder_12 g_n) rfl rfl ?_
  refine V_callSI C cs_X7_116 (c_X7_isKind σ (-1)) (by decide) (by decide) (fun _ h => h) (As := [.int (-1)]) (rest := []) rfl rfl (Nat.le_of_ble_eq_true rfl) dX7_isUnder_13 ?_
  refine V_if_eq_b C (tgt := 38) dX7_isUnder_16 (by decide) (fun _ => ?_) (fun z => absurd z (by decide))
  refine V_blk C (pc' := 39) (σ' := σ) (L' := [some (.int 3), some (.int 2), some (.int (-1)), some (.int 3)]) (st' := [.int 0]) (g_c dX7_isUnder_38 g_n) rfl rfl ?_
  refine V_zret C (by decide) dX7_isUnder_39 ?_
  exact ⟨rfl, rfl⟩
set_option maxHeartbeats 4000000 in
set_option maxRecDepth 100000 in
theorem c_X7_isUnder_3_3 (σ : gS) : g_Met yX7_isUnder cX7_isUnder 4 (some .boolean) 3 kX [.int 3, .int 3] σ (fun rv s => rv = some (.int 1) ∧ s = σ) := by
  refine g_Met.of (own := 7) (L := [some (.int 3), some (.int 3), none, none]) (by decide) rfl rfl (fun ad => Nat.le_of_ble_eq_true rfl) (fun ad => rfl) (fun X G K C => ?_)
  refine V_blk C (pc' := 5) (σ' := σ) (L' := [some (.int 3), some (.int 3), some (.int 3), some (.int 0)]) (st' := [.int 0]) (g_c dX7_isUnder_0 (g_c dX7_isUnder_1 (g_c dX7_isUnder_2 (g_c dX7_isUnder_3 (g_c dX7_isUnder_4 g_n))))) rfl rfl ?_
  refine V_gsU C dX7_isUnder_5 ?_
  refine V_alenU C dX7_isUnder_8 ?_
  refine V_icmp_ge2 C (tgt := 38) dX7_isUnder_9 (by decide) (fun z => absurd z (by decide)) (fun _ => ?_)
  refine V_blk C (pc' := 13) (σ' := σ) (L' := [some (.int 3), some (.int 3), some (.int 3), some (.int 0)]) (st' := [.int 3]) (g_c dX7_isUnder_12 g_n) rfl rfl ?_
  refine V_callSI C cs_X7_116 (c_X7_isKind σ 3) (by decide) (by decide) (fun _ h => h) (As := [.int 3]) (rest := []) rfl rfl (Nat.le_of_ble_eq_true rfl) dX7_isUnder_13 ?_
  refine V_if_eq_b C (tgt := 38) dX7_isUnder_16 (by decide) (fun z => absurd (by decide) z) (fun _ => ?_)
  refine V_blk C (pc' := 21) (σ' := σ) (L' := [some (.int 3), some (.int 3), some (.int 3), some (.int 0)]) (st' := [.int 3, .int 3]) (g_c dX7_isUnder_19 (g_c dX7_isUnder_20 g_n)) rfl rfl ?_
  refine V_icmp_ne C (tgt := 26) dX7_isUnder_21 (by decide) (fun z => absurd z (by decide)) (fun _ => ?_)
  refine V_blk C (pc' := 25) (σ' := σ) (L' := [some (.int 3), some (.int 3), some (.int 3), some (.int 0)]) (st' := [.int 1]) (g_c dX7_isUnder_24 g_n) rfl rfl ?_
  refine V_zret C (by decide) dX7_isUnder_25 ?_
  exact ⟨rfl, rfl⟩
set_option maxHeartbeats 4000000 in
set_option maxRecDepth 100000 in
theorem c_X7_isUnder_3_4 (σ : gS) : g_Met yX7_isUnder cX7_isUnder 4 (some .boolean) 3 kX [.int 3, .int 4] σ (fun rv s => rv = some (.int 0) ∧ s = σ) := by
  refine g_Met.of (own := 7) (L := [some (.int 3), some (.int 4), none, none]) (by decide) rfl rfl (fun ad => Nat.le_of_ble_eq_true rfl) (fun ad => rfl) (fun X G K C => ?_)
  refine V_blk C (pc' := 5) (σ' := σ) (L' := [some (.int 3), some (.int 4), some (.int 3), some (.int 0)]) (st' := [.int 0]) (g_c dX7_isUnder_0 (g_c dX7_isUnder_1 (g_c dX7_isUnder_2 (g_c dX7_isUnder_3 (g_c dX7_isUnder_4 g_n))))) rfl rfl ?_
  refine V_gsU C dX7_isUnder_5 ?_
  refine V_alenU C dX7_isUnder_8 ?_
  refine V_icmp_ge2 C (tgt := 38) dX7_isUnder_9 (by decide) (fun z => absurd z (by decide)) (fun _ => ?_)
  refine V_blk C (pc' := 13) (σ' := σ) (L' := [some (.int 3), some (.int 4), some (.int 3), some (.int 0)]) (st' := [.int 3]) (g_c dX7_isUnder_12 g_n) rfl rfl ?_
  refine V_callSI C cs_X7_116 (c_X7_isKind σ 3) (by decide) (by decide) (fun _ h => h) (As := [.int 3]) (rest := []) rfl rfl (Nat.le_of_ble_eq_true rfl) dX7_isUnder_13 ?_
  refine V_if_eq_b C (tgt := 38) dX7_isUnder_16 (by decide) (fun z => absurd (by decide) z) (fun _ => ?_)
  refine V_blk C (pc' := 21) (σ' := σ) (L' := [some (.int 3), some (.int 4), some (.int 3), some (.int 0)]) (st' := [.int 4, .int 3]) (g_c dX7_isUnder_19 (g_c dX7_isUnder_20 g_n)) rfl rfl ?_
  refine V_icmp_ne C (tgt := 26) dX7_isUnder_21 (by decide) (fun _ => ?_) (fun z => absurd z (by decide))
  refine V_gsU C dX7_isUnder_26 ?_
  refine V_blk C (pc' := 30) (σ' := σ) (L' := [some (.int 3), some (.int 4), some (.int 3), some (.int 0)]) (st' := [.int 3, .ref 106]) (g_c dX7_isUnder_29 g_n) rfl rfl ?_
  refine V_aldU C (v := 1) (vp_in_nI (n := 3) (N := 6) (by decide) (by decide)) (by decide) dX7_isUnder_30 ?_
  refine V_blk C (pc' := 35) (σ' := σ) (L' := [some (.int 3), some (.int 4), some (.int 1), some (.int 1)]) (st' := []) (g_c dX7_isUnder_31 (g_c dX7_isUnder_32 g_n)) rfl rfl ?_
  refine V_goto C (tgt := 4) dX7_isUnder_35 (by decide) ?_
  refine V_blk C (pc' := 5) (σ' := σ) (L' := [some (.int 3), some (.int 4), some (.int 1), some (.int 1)]) (st' := [.int 1]) (g_c dX7_isUnder_4 g_n) rfl rfl ?_
  refine V_gsU C dX7_isUnder_5 ?_
  refine V_alenU C dX7_isUnder_8 ?_
  refine V_icmp_ge2 C (tgt := 38) dX7_isUnder_9 (by decide) (fun z => absurd z (by decide)) (fun _ => ?_)
  refine V_blk C (pc' := 13) (σ' := σ) (L' := [some (.int 3), some (.int 4), some (.int 1), some (.int 1)]) (st' := [.int 1]) (g_c dX7_isUnder_12 g_n) rfl rfl ?_
  refine V_callSI C cs_X7_116 (c_X7_isKind σ 1) (by decide) (by decide) (fun _ h => h) (As := [.int 1]) (rest := []) rfl rfl (Nat.le_of_ble_eq_true rfl) dX7_isUnder_13 ?_
  refine V_if_eq_b C (tgt := 38) dX7_isUnder_16 (by decide) (fun z => absurd (by decide) z) (fun _ => ?_)
  refine V_blk C (pc' := 21) (σ' := σ) (L' := [some (.int 3), some (.int 4), some (.int 1), some (.int 1)]) (st' := [.int 4, .int 1]) (g_c dX7_isUnder_19 (g_c dX7_isUnder_20 g_n)) rfl rfl ?_
  refine V_icmp_ne C (tgt := 26) dX7_isUnder_21 (by decide) (fun _ => ?_) (fun z => absurd z (by decide))
  refine V_gsU C dX7_isUnder_26 ?_
  refine V_blk C (pc' := 30) (σ' := σ) (L' := [some (.int 3), some (.int 4), some (.int 1), some (.int 1)]) (st' := [.int 1, .ref 106]) (g_c dX7_isUnder_29 g_n) rfl rfl ?_
  refine V_aldU C (v := 0) (vp_in_nI (n := 1) (N := 6) (by decide) (by decide)) (by decide) dX7_isUnder_30 ?_
  refine V_blk C (pc' := 35) (σ' := σ) (L' := [some (.int 3), some (.int 4), some (.int 0), some (.int 2)]) (st' := []) (g_c dX7_isUnder_31 (g_c dX7_isUnder_32 g_n)) rfl rfl ?_
  refine V_goto C (tgt := 4) dX7_isUnder_35 (by decide) ?_
  refine V_blk C (pc' := 5) (σ' := σ) (L' := [some (.int 3), some (.int 4), some (.int 0), some (.int 2)]) (st' := [.int 2]) (g_c dX7_isUnder_4 g_n) rfl rfl ?_
  refine V_gsU C dX7_isUnder_5 ?_
  refine V_alenU C dX7_isUnder_8 ?_
  refine V_icmp_ge2 C (tgt := 38) dX7_isUnder_9 (by decide) (fun z => absurd z (by decide)) (fun _ => ?_)
  refine V_blk C (pc' := 13) (σ' := σ) (L' := [some (.int 3), some (.int 4), some (.int 0), some (.int 2)]) (st' := [.int 0]) (g_c dX7_isUnder_12 g_n) rfl rfl ?_
  refine V_callSI C cs_X7_116 (c_X7_isKind σ 0) (by decide) (by decide) (fun _ h => h) (As := [.int 0]) (rest := []) rfl rfl (Nat.le_of_ble_eq_true rfl) dX7_isUnder_13 ?_
  refine V_if_eq_b C (tgt := 38) dX7_isUnder_16 (by decide) (fun z => absurd (by decide) z) (fun _ => ?_)
  refine V_blk C (pc' := 21) (σ' := σ) (L' := [some (.int 3), some (.int 4), some (.int 0), some (.int 2)]) (st' := [.int 4, .int 0]) (g_c dX7_isUnder_19 (g_c dX7_isUnder_20 g_n)) rfl rfl ?_
  refine V_icmp_ne C (tgt := 26) dX7_isUnder_21 (by decide) (fun _ => ?_) (fun z => absurd z (by decide))
  refine V_gsU C dX7_isUnder_26 ?_
  refine V_blk C (pc' := 30) (σ' := σ) (L' := [some (.int 3), some (.int 4), some (.int 0), some (.int 2)]) (st' := [.int 0, .ref 106]) (g_c dX7_isUnder_29 g_n) rfl rfl ?_
  refine V_aldU C (v := (-1)) (vp_in_nI (n := 0) (N := 6) (by decide) (by decide)) (by decide) dX7_isUnder_30 ?_
  refine V_blk C (pc' := 35) (σ' := σ) (L' := [some (.int 3), some (.int 4), some (.int (-1)), some (.int 3)]) (st' := []) (g_c dX7_isUnder_31 (g_c dX7_isUnder_32 g_n)) rfl rfl ?_
  refine V_goto C (tgt := 4) dX7_isUnder_35 (by decide) ?_
  refine V_blk C (pc' := 5) (σ' := σ) (L' := [some (.int 3), some (.int 4), some (.int (-1)), some (.int 3)]) (st' := [.int 3]) (g_c dX7_isUnder_4 g_n) rfl rfl ?_
  refine V_gsU C dX7_isUnder_5 ?_
  refine V_alenU C dX7_isUnder_8 ?_
  refine V_icmp_ge2 C (tgt := 38) dX7_isUnder_9 (by decide) (fun z => absurd z (by decide)) (fun _ => ?_)
  refine V_blk C (pc' := 13) (σ' := σ) (L' := [some (.int 3), some (.int 4), some (.int (-1)), some (.int 3)]) (st' := [.int (-1)]) (g_c dX7_isUnder_12 g_n) rfl rfl ?_
  refine V_callSI C cs_X7_116 (c_X7_isKind σ (-1)) (by decide) (by decide) (fun _ h => h) (As := [.int (-1)]) (rest := []) rfl rfl (Nat.le_of_ble_eq_true rfl) dX7_isUnder_13 ?_
  refine V_if_eq_b C (tgt := 38) dX7_isUnder_16 (by decide) (fun _ => ?_) (fun z => absurd z (by decide))
  refine V_blk C (pc' := 39) (σ' := σ) (L' := [some (.int 3), some (.int 4), some (.int (-1)), some (.int 3)]) (st' := [.int 0]) (g_c dX7_isUnder_38 g_n) rfl rfl ?_
  refine V_zret C (by decide) dX7_isUnder_39 ?_
  exact ⟨rfl, rfl⟩
set_option maxHeartbeats 4000000 in
set_option maxRecDepth 100000 in
theorem c_X7_isUnder_3_5 (σ : gS) : g_Met yX7_isUnder cX7_isUnder 4 (some .boolean) 3 kX [.int 3, .int 5] σ (fun rv s => rv = some (.int 0) ∧ s = σ) := by
  refine g_Met.of (own := 7) (L := [some (.int 3), some (.int 5), none, none]) (by decide) rfl rfl (fun ad => Nat.le_of_ble_eq_true rfl) (fun ad => rfl) (fun X G K C => ?_)
  refine V_blk C (pc' := 5) (σ' := σ) (L' := [some (.int 3), some (.int 5), some (.int 3), some (.int 0)]) (st' := [.int 0]) (g_c dX7_isUnder_0 (g_c dX7_isUnder_1 (g_c dX7_isUnder_2 (g_c dX7_isUnder_3 (g_c dX7_isUnder_4 g_n))))) rfl rfl ?_
  refine V_gsU C dX7_isUnder_5 ?_
  refine V_alenU C dX7_isUnder_8 ?_
  refine V_icmp_ge2 C (tgt := 38) dX7_isUnder_9 (by decide) (fun z => absurd z (by decide)) (fun _ => ?_)
  refine V_blk C (pc' := 13) (σ' := σ) (L' := [some (.int 3), some (.int 5), some (.int 3), some (.int 0)]) (st' := [.int 3]) (g_c dX7_isUnder_12 g_n) rfl rfl ?_
  refine V_callSI C cs_X7_116 (c_X7_isKind σ 3) (by decide) (by decide) (fun _ h => h) (As := [.int 3]) (rest := []) rfl rfl (Nat.le_of_ble_eq_true rfl) dX7_isUnder_13 ?_
  refine V_if_eq_b C (tgt := 38) dX7_isUnder_16 (by decide) (fun z => absurd (by decide) z) (fun _ => ?_)
  refine V_blk C (pc' := 21) (σ' := σ) (L' := [some (.int 3), some (.int 5), some (.int 3), some (.int 0)]) (st' := [.int 5, .int 3]) (g_c dX7_isUnder_19 (g_c dX7_isUnder_20 g_n)) rfl rfl ?_
  refine V_icmp_ne C (tgt := 26) dX7_isUnder_21 (by decide) (fun _ => ?_) (fun z => absurd z (by decide))
  refine V_gsU C dX7_isUnder_26 ?_
  refine V_blk C (pc' := 30) (σ' := σ) (L' := [some (.int 3), some (.int 5), some (.int 3), some (.int 0)]) (st' := [.int 3, .ref 106]) (g_c dX7_isUnder_29 g_n) rfl rfl ?_
  refine V_aldU C (v := 1) (vp_in_nI (n := 3) (N := 6) (by decide) (by decide)) (by decide) dX7_isUnder_30 ?_
  refine V_blk C (pc' := 35) (σ' := σ) (L' := [some (.int 3), some (.int 5), some (.int 1), some (.int 1)]) (st' := []) (g_c dX7_isUnder_31 (g_c dX7_isUnder_32 g_n)) rfl rfl ?_
  refine V_goto C (tgt := 4) dX7_isUnder_35 (by decide) ?_
  refine V_blk C (pc' := 5) (σ' := σ) (L' := [some (.int 3), some (.int 5), some (.int 1), some (.int 1)]) (st' := [.int 1]) (g_c dX7_isUnder_4 g_n) rfl rfl ?_
  refine V_gsU C dX7_isUnder_5 ?_
  refine V_alenU C dX7_isUnder_8 ?_
  refine V_icmp_ge2 C (tgt := 38) dX7_isUnder_9 (by decide) (fun z => absurd z (by decide)) (fun _ => ?_)
  refine V_blk C (pc' := 13) (σ' := σ) (L' := [some (.int 3), some (.int 5), some (.int 1), some (.int 1)]) (st' := [.int 1]) (g_c dX7_isUnder_12 g_n) rfl rfl ?_
  refine V_callSI C cs_X7_116 (c_X7_isKind σ 1) (by decide) (by decide) (fun _ h => h) (As := [.int 1]) (rest := []) rfl rfl (Nat.le_of_ble_eq_true rfl) dX7_isUnder_13 ?_
  refine V_if_eq_b C (tgt := 38) dX7_isUnder_16 (by decide) (fun z => absurd (by decide) z) (fun _ => ?_)
  refine V_blk C (pc' := 21) (σ' := σ) (L' := [some (.int 3), some (.int 5), some (.int 1), some (.int 1)]) (st' := [.int 5, .int 1]) (g_c dX7_isUnder_19 (g_c dX7_isUnder_20 g_n)) rfl rfl ?_
  refine V_icmp_ne C (tgt := 26) dX7_isUnder_21 (by decide) (fun _ => ?_) (fun z => absurd z (by decide))
  refine V_gsU C dX7_isUnder_26 ?_
  refine V_blk C (pc' := 30) (σ' := σ) (L' := [some (.int 3), some (.int 5), some (.int 1), some (.int 1)]) (st' := [.int 1, .ref 106]) (g_c dX7_isUnder_29 g_n) rfl rfl ?_
  refine V_aldU C (v := 0) (vp_in_nI (n := 1) (N := 6) (by decide) (by decide)) (by decide) dX7_isUnder_30 ?_
  refine V_blk C (pc' := 35) (σ' := σ) (L' := [some (.int 3), some (.int 5), some (.int 0), some (.int 2)]) (st' := []) (g_c dX7_isUnder_31 (g_c dX7_isUnder_32 g_n)) rfl rfl ?_
  refine V_goto C (tgt := 4) dX7_isUnder_35 (by decide) ?_
  refine V_blk C (pc' := 5) (σ' := σ) (L' := [some (.int 3), some (.int 5), some (.int 0), some (.int 2)]) (st' := [.int 2]) (g_c dX7_isUnder_4 g_n) rfl rfl ?_
  refine V_gsU C dX7_isUnder_5 ?_
  refine V_alenU C dX7_isUnder_8 ?_
  refine V_icmp_ge2 C (tgt := 38) dX7_isUnder_9 (by decide) (fun z => absurd z (by decide)) (fun _ => ?_)
  refine V_blk C (pc' := 13) (σ' := σ) (L' := [some (.int 3), some (.int 5), some (.int 0), some (.int 2)]) (st' := [.int 0]) (g_c dX7_isUnder_12 g_n) rfl rfl ?_
  refine V_callSI C cs_X7_116 (c_X7_isKind σ 0) (by decide) (by decide) (fun _ h => h) (As := [.int 0]) (rest := []) rfl rfl (Nat.le_of_ble_eq_true rfl) dX7_isUnder_13 ?_
  refine V_if_eq_b C (tgt := 38) dX7_isUnder_16 (by decide) (fun z => absurd (by decide) z) (fun _ => ?_)
  refine V_blk C (pc' := 21) (σ' := σ) (L' := [some (.int 3), some (.int 5), some (.int 0), some (.int 2)]) (st' := [.int 5, .int 0]) (g_c dX7_isUnder_19 (g_c dX7_isUnder_20 g_n)) rfl rfl ?_
  refine V_icmp_ne C (tgt := 26) dX7_isUnder_21 (by decide) (fun _ => ?_) (fun z => absurd z (by decide))
  refine V_gsU C dX7_isUnder_26 ?_
  refine V_blk C (pc' := 30) (σ' := σ) (L' := [some (.int 3), some (.int 5), some (.int 0), some (.int 2)]) (st' := [.int 0, .ref 106]) (g_c dX7_isUnder_29 g_n) rfl rfl ?_
  refine V_aldU C (v := (-1)) (vp_in_nI (n := 0) (N := 6) (by decide) (by decide)) (by decide) dX7_isUnder_30 ?_
  refine V_blk C (pc' := 35) (σ' := σ) (L' := [some (.int 3), some (.int 5), some (.int (-1)), some (.int 3)]) (st' := []) (g_c dX7_isUnder_31 (g_c dX7_isUnder_32 g_n)) rfl rfl ?_
  refine V_goto C (tgt := 4) dX7_isUnder_35 (by decide) ?_
  refine V_blk C (pc' := 5) (σ' := σ) (L' := [some (.int 3), some (.int 5), some (.int (-1)), some (.int 3)]) (st' := [.int 3]) (g_c dX7_isUnder_4 g_n) rfl rfl ?_
  refine V_gsU C dX7_isUnder_5 ?_
  refine V_alenU C dX7_isUnder_8 ?_
  refine V_icmp_ge2 C (tgt := 38) dX7_isUnder_9 (by decide) (fun z => absurd z (by decide)) (fun _ => ?_)
  refine V_blk C (pc' := 13) (σ' := σ) (L' := [some (.int 3), some (.int 5), some (.int (-1)), some (.int 3)]) (st' := [.int (-1)]) (g_c dX7_isUnder_12 g_n) rfl rfl ?_
  refine V_callSI C cs_X7_116 (c_X7_isKind σ (-1)) (by decide) (by decide) (fun _ h => h) (As := [.int (-1)]) (rest := []) rfl rfl (Nat.le_of_ble_eq_true rfl) dX7_isUnder_13 ?_
  refine V_if_eq_b C (tgt := 38) dX7_isUnder_16 (by decide) (fun _ => ?_) (fun z => absurd z (by decide))
  refine V_blk C (pc' := 39) (σ' := σ) (L' := [some (.int 3), some (.int 5), some (.int (-1)), some (.int 3)]) (st' := [.int 0]) (g_c dX7_isUnder_38 g_n) rfl rfl ?_
  refine V_zret C (by decide) dX7_isUnder_39 ?_
  exact ⟨rfl, rfl⟩
set_option maxHeartbeats 4000000 in
set_option maxRecDepth 100000 in
theorem c_X7_isUnder_4_0 (σ : gS) : g_Met yX7_isUnder cX7_isUnder 4 (some .boolean) 3 kX [.int 4, .int 0] σ (fun rv s => rv = some (.int 1) ∧ s = σ) := by
  refine g_Met.of (own := 7) (L := [some (.int 4), some (.int 0), none, none]) (by decide) rfl rfl (fun ad => Nat.le_of_ble_eq_true rfl) (fun ad => rfl) (fun X G K C => ?_)
  refine V_blk C (pc' := 5) (σ' := σ) (L' := [some (.int 4), some (.int 0), some (.int 4), some (.int 0)]) (st' := [.int 0]) (g_c dX7_isUnder_0 (g_c dX7_isUnder_1 (g_c dX7_isUnder_2 (g_c dX7_isUnder_3 (g_c dX7_isUnder_4 g_n))))) rfl rfl ?_
  refine V_gsU C dX7_isUnder_5 ?_
  refine V_alenU C dX7_isUnder_8 ?_
  refine V_icmp_ge2 C (tgt := 38) dX7_isUnder_9 (by decide) (fun z => absurd z (by decide)) (fun _ => ?_)
  refine V_blk C (pc' := 13) (σ' := σ) (L' := [some (.int 4), some (.int 0), some (.int 4), some (.int 0)]) (st' := [.int 4]) (g_c dX7_isUnder_12 g_n) rfl rfl ?_
  refine V_callSI C cs_X7_116 (c_X7_isKind σ 4) (by decide) (by decide) (fun _ h => h) (As := [.int 4]) (rest := []) rfl rfl (Nat.le_of_ble_eq_true rfl) dX7_isUnder_13 ?_
  refine V_if_eq_b C (tgt := 38) dX7_isUnder_16 (by decide) (fun z => absurd (by decide) z) (fun _ => ?_)
  refine V_blk C (pc' := 21) (σ' := σ) (L' := [some (.int 4), some (.int 0), some (.int 4), some (.int 0)]) (st' := [.int 0, .int 4]) (g_c dX7_isUnder_19 (g_c dX7_isUnder_20 g_n)) rfl rfl ?_
  refine V_icmp_ne C (tgt := 26) dX7_isUnder_21 (by decide) (fun _ => ?_) (fun z => absurd z (by decide))
  refine V_gsU C dX7_isUnder_26 ?_
  refine V_blk C (pc' := 30) (σ' := σ) (L' := [some (.int 4), some (.int 0), some (.int 4), some (.int 0)]) (st' := [.int 4, .ref 106]) (g_c dX7_isUnder_29 g_n) rfl rfl ?_
  refine V_aldU C (v := 2) (vp_in_nI (n := 4) (N := 6) (by decide) (by decide)) (by decide) dX7_isUnder_30 ?_
  refine V_blk C (pc' := 35) (σ' := σ) (L' := [some (.int 4), some (.int 0), some (.int 2), some (.int 1)]) (st' := []) (g_c dX7_isUnder_31 (g_c dX7_isUnder_32 g_n)) rfl rfl ?_
  refine V_goto C (tgt := 4) dX7_isUnder_35 (by decide) ?_
  refine V_blk C (pc' := 5) (σ' := σ) (L' := [some (.int 4), some (.int 0), some (.int 2), some (.int 1)]) (st' := [.int 1]) (g_c dX7_isUnder_4 g_n) rfl rfl ?_
  refine V_gsU C dX7_isUnder_5 ?_
  refine V_alenU C dX7_isUnder_8 ?_
  refine V_icmp_ge2 C (tgt := 38) dX7_isUnder_9 (by decide) (fun z => absurd z (by decide)) (fun _ => ?_)
  refine V_blk C (pc' := 13) (σ' := σ) (L' := [some (.int 4), some (.int 0), some (.int 2), some (.int 1)]) (st' := [.int 2]) (g_c dX7_isUnder_12 g_n) rfl rfl ?_
  refine V_callSI C cs_X7_116 (c_X7_isKind σ 2) (by decide) (by decide) (fun _ h => h) (As := [.int 2]) (rest := []) rfl rfl (Nat.le_of_ble_eq_true rfl) dX7_isUnder_13 ?_
  refine V_if_eq_b C (tgt := 38) dX7_isUnder_16 (by decide) (fun z => absurd (by decide) z) (fun _ => ?_)
  refine V_blk C (pc' := 21) (σ' := σ) (L' := [some (.int 4), some (.int 0), some (.int 2), some (.int 1)]) (st' := [.int 0, .int 2]) (g_c dX7_isUnder_19 (g_c dX7_isUnder_20 g_n)) rfl rfl ?_
  refine V_icmp_ne C (tgt := 26) dX7_isUnder_21 (by decide) (fun _ => ?_) (fun z => absurd z (by decide))
  refine V_gsU C dX7_isUnder_26 ?_
  refine V_blk C (pc' := 30) (σ' := σ) (L' := [some (.int 4), some (.int 0), some (.int 2), some (.int 1)]) (st' := [.int 2, .ref 106]) (g_c dX7_isUnder_29 g_n) rfl rfl ?_
  refine V_aldU C (v := 0) (vp_in_nI (n := 2) (N := 6) (by decide) (by decide)) (by decide) dX7_isUnder_30 ?_
  refine V_blk C (pc' := 35) (σ' := σ) (L' := [some (.int 4), some (.int 0), some (.int 0), some (.int 2)]) (st' := []) (g_c dX7_isUnder_31 (g_c dX7_isUnder_32 g_n)) rfl rfl ?_
  refine V_goto C (tgt := 4) dX7_isUnder_35 (by decide) ?_
  refine V_blk C (pc' := 5) (σ' := σ) (L' := [some (.int 4), some (.int 0), some (.int 0), some (.int 2)]) (st' := [.int 2]) (g_c dX7_isUnder_4 g_n) rfl rfl ?_
  refine V_gsU C dX7_isUnder_5 ?_
  refine V_alenU C dX7_isUnder_8 ?_
  refine V_icmp_ge2 C (tgt := 38) dX7_isUnder_9 (by decide) (fun z => absurd z (by decide)) (fun _ => ?_)
  refine V_blk C (pc' := 13) (σ' := σ) (L' := [some (.int 4), some (.int 0), some (.int 0), some (.int 2)]) (st' := [.int 0]) (g_c dX7_isUnder_12 g_n) rfl rfl ?_
  refine V_callSI C cs_X7_116 (c_X7_isKind σ 0) (by decide) (by decide) (fun _ h => h) (As := [.int 0]) (rest := []) rfl rfl (Nat.le_of_ble_eq_true rfl) dX7_isUnder_13 ?_
  refine V_if_eq_b C (tgt := 38) dX7_isUnder_16 (by decide) (fun z => absurd (by decide) z) (fun _ => ?_)
  refine V_blk C (pc' := 21) (σ' := σ) (L' := [some (.int 4), some (.int 0), some (.int 0), some (.int 2)]) (st' := [.int 0, .int 0]) (g_c dX7_isUnder_19 (g_c dX7_isUnder_20 g_n)) rfl rfl ?_
  refine V_icmp_ne C (tgt := 26) dX7_isUnder_21 (by decide) (fun z => absurd z (by decide)) (fun _ => ?_)
  refine V_blk C (pc' := 25) (σ' := σ) (L' := [some (.int 4), some (.int 0), some (.int 0), some (.int 2)]) (st' := [.int 1]) (g_c dX7_isUnder_24 g_n) rfl rfl ?_
  refine V_zret C (by decide) dX7_isUnder_25 ?_
  exact ⟨rfl, rfl⟩
set_option maxHeartbeats 4000000 in
set_option maxRecDepth 100000 in
theorem c_X7_isUnder_4_1 (σ : gS) : g_Met yX7_isUnder cX7_isUnder 4 (some .boolean) 3 kX [.int 4, .int 1] σ (fun rv s => rv = some (.int 0) ∧ s = σ) := by
  refine g_Met.of (own := 7) (L := [some (.int 4), some (.int 1), none, none]) (by decide) rfl rfl (fun ad => Nat.le_of_ble_eq_true rfl) (fun ad => rfl) (fun X G K C => ?_)
  refine V_blk C (pc' := 5) (σ' := σ) (L' := [some (.int 4), some (.int 1), some (.int 4), some (.int 0)]) (st' := [.int 0]) (g_c dX7_isUnder_0 (g_c dX7_isUnder_1 (g_c dX7_isUnder_2 (g_c dX7_isUnder_3 (g_c dX7_isUnder_4 g_n))))) rfl rfl ?_
  refine V_gsU C dX7_isUnder_5 ?_
  refine V_alenU C dX7_isUnder_8 ?_
  refine V_icmp_ge2 C (tgt := 38) dX7_isUnder_9 (by decide) (fun z => absurd z (by decide)) (fun _ => ?_)
  refine V_blk C (pc' := 13) (σ' := σ) (L' := [some (.int 4), some (.int 1), some (.int 4), some (.int 0)]) (st' := [.int 4]) (g_c dX7_isUnder_12 g_n) rfl rfl ?_
  refine V_callSI C cs_X7_116 (c_X7_isKind σ 4) (by decide) (by decide) (fun _ h => h) (As := [.int 4]) (rest := []) rfl rfl (Nat.le_of_ble_eq_true rfl) dX7_isUnder_13 ?_
  refine V_if_eq_b C (tgt := 38) dX7_isUnder_16 (by decide) (fun z => absurd (by decide) z) (fun _ => ?_)
  refine V_blk C (pc' := 21) (σ' := σ) (L' := [some (.int 4), some (.int 1), some (.int 4), some (.int 0)]) (st' := [.int 1, .int 4]) (g_c dX7_isUnder_19 (g_c dX7_isUnder_20 g_n)) rfl rfl ?_
  refine V_icmp_ne C (tgt := 26) dX7_isUnder_21 (by decide) (fun _ => ?_) (fun z => absurd z (by decide))
  refine V_gsU C dX7_isUnder_26 ?_
  refine V_blk C (pc' := 30) (σ' := σ) (L' := [some (.int 4), some (.int 1), some (.int 4), some (.int 0)]) (st' := [.int 4, .ref 106]) (g_c dX7_isUnder_29 g_n) rfl rfl ?_
  refine V_aldU C (v := 2) (vp_in_nI (n := 4) (N := 6) (by decide) (by decide)) (by decide) dX7_isUnder_30 ?_
  refine V_blk C (pc' := 35) (σ' := σ) (L' := [some (.int 4), some (.int 1), some (.int 2), some (.int 1)]) (st' := []) (g_c dX7_isUnder_31 (g_c dX7_isUnder_32 g_n)) rfl rfl ?_
  refine V_goto C (tgt := 4) dX7_isUnder_35 (by decide) ?_
  refine V_blk C (pc' := 5) (σ' := σ) (L' := [some (.int 4), some (.int 1), some (.int 2), some (.int 1)]) (st' := [.int 1]) (g_c dX7_isUnder_4 g_n) rfl rfl ?_
  refine V_gsU C dX7_isUnder_5 ?_
  refine V_alenU C dX7_isUnder_8 ?_
  refine V_icmp_ge2 C (tgt := 38) dX7_isUnder_9 (by decide) (fun z => absurd z (by decide)) (fun _ => ?_)
  refine V_blk C (pc' := 13) (σ' := σ) (L' := [some (.int 4), some (.int 1), some (.int 2), some (.int 1)]) (st' := [.int 2]) (g_c dX7_isUnder_12 g_n) rfl rfl ?_
  refine V_callSI C cs_X7_116 (c_X7_isKind σ 2) (by decide) (by decide) (fun _ h => h) (As := [.int 2]) (rest := []) rfl rfl (Nat.le_of_ble_eq_true rfl) dX7_isUnder_13 ?_
  refine V_if_eq_b C (tgt := 38) dX7_isUnder_16 (by decide) (fun z => absurd (by decide) z) (fun _ => ?_)
  refine V_blk C (pc' := 21) (σ' := σ) (L' := [some (.int 4), some (.int 1), some (.int 2), some (.int 1)]) (st' := [.int 1, .int 2]) (g_c dX7_isUnder_19 (g_c dX7_isUnder_20 g_n)) rfl rfl ?_
  refine V_icmp_ne C (tgt := 26) dX7_isUnder_21 (by decide) (fun _ => ?_) (fun z => absurd z (by decide))
  refine V_gsU C dX7_isUnder_26 ?_
  refine V_blk C (pc' := 30) (σ' := σ) (L' := [some (.int 4), some (.int 1), some (.int 2), some (.int 1)]) (st' := [.int 2, .ref 106]) (g_c dX7_isUnder_29 g_n) rfl rfl ?_
  refine V_aldU C (v := 0) (vp_in_nI (n := 2) (N := 6) (by decide) (by decide)) (by decide) dX7_isUnder_30 ?_
  refine V_blk C (pc' := 35) (σ' := σ) (L' := [some (.int 4), some (.int 1), some (.int 0), some (.int 2)]) (st' := []) (g_c dX7_isUnder_31 (g_c dX7_isUnder_32 g_n)) rfl rfl ?_
  refine V_goto C (tgt := 4) dX7_isUnder_35 (by decide) ?_
  refine V_blk C (pc' := 5) (σ' := σ) (L' := [some (.int 4), some (.int 1), some (.int 0), some (.int 2)]) (st' := [.int 2]) (g_c dX7_isUnder_4 g_n) rfl rfl ?_
  refine V_gsU C dX7_isUnder_5 ?_
  refine V_alenU C dX7_isUnder_8 ?_
  refine V_icmp_ge2 C (tgt := 38) dX7_isUnder_9 (by decide) (fun z => absurd z (by decide)) (fun _ => ?_)
  refine V_blk C (pc' := 13) (σ' := σ) (L' := [some (.int 4), some (.int 1), some (.int 0), some (.int 2)]) (st' := [.int 0]) (g_c dX7_isUnder_12 g_n) rfl rfl ?_
  refine V_callSI C cs_X7_116 (c_X7_isKind σ 0) (by decide) (by decide) (fun _ h => h) (As := [.int 0]) (rest := []) rfl rfl (Nat.le_of_ble_eq_true rfl) dX7_isUnder_13 ?_
  refine V_if_eq_b C (tgt := 38) dX7_isUnder_16 (by decide) (fun z => absurd (by decide) z) (fun _ => ?_)
  refine V_blk C (pc' := 21) (σ' := σ) (L' := [some (.int 4), some (.int 1), some (.int 0), some (.int 2)]) (st' := [.int 1, .int 0]) (g_c dX7_isUnder_19 (g_c dX7_isUnder_20 g_n)) rfl rfl ?_
  refine V_icmp_ne C (tgt := 26) dX7_isUnder_21 (by decide) (fun _ => ?_) (fun z => absurd z (by decide))
  refine V_gsU C dX7_isUnder_26 ?_
  refine V_blk C (pc' := 30) (σ' := σ) (L' := [some (.int 4), some (.int 1), some (.int 0), some (.int 2)]) (st' := [.int 0, .ref 106]) (g_c dX7_isUnder_29 g_n) rfl rfl ?_
  refine V_aldU C (v := (-1)) (vp_in_nI (n := 0) (N := 6) (by decide) (by decide)) (by decide) dX7_isUnder_30 ?_
  refine V_blk C (pc' := 35) (σ' := σ) (L' := [some (.int 4), some (.int 1), some (.int (-1)), some (.int 3)]) (st' := []) (g_c dX7_isUnder_31 (g_c dX7_isUnder_32 g_n)) rfl rfl ?_
  refine V_goto C (tgt := 4) dX7_isUnder_35 (by decide) ?_
  refine V_blk C (pc' := 5) (σ' := σ) (L' := [some (.int 4), some (.int 1), some (.int (-1)), some (.int 3)]) (st' := [.int 3]) (g_c dX7_isUnder_4 g_n) rfl rfl ?_
  refine V_gsU C dX7_isUnder_5 ?_
  refine V_alenU C dX7_isUnder_8 ?_
  refine V_icmp_ge2 C (tgt := 38) dX7_isUnder_9 (by decide) (fun z => absurd z (by decide)) (fun _ => ?_)
  refine V_blk C (pc' := 13) (σ' := σ) (L' := [some (.int 4), some (.int 1), some (.int (-1)), some (.int 3)]) (st' := [.int (-1)]) (g_c dX7_isUnder_12 g_n) rfl rfl ?_
  refine V_callSI C cs_X7_116 (c_X7_isKind σ (-1)) (by decide) (by decide) (fun _ h => h) (As := [.int (-1)]) (rest := []) rfl rfl (Nat.le_of_ble_eq_true rfl) dX7_isUnder_13 ?_
  refine V_if_eq_b C (tgt := 38) dX7_isUnder_16 (by decide) (fun _ => ?_) (fun z => absurd z (by decide))
  refine V_blk C (pc' := 39) (σ' := σ) (L' := [some (.int 4), some (.int 1), some (.int (-1)), some (.int 3)]) (st' := [.int 0]) (g_c dX7_isUnder_38 g_n) rfl rfl ?_
  refine V_zret C (by decide) dX7_isUnder_39 ?_
  exact ⟨rfl, rfl⟩
set_option maxHeartbeats 4000000 in
set_option maxRecDepth 100000 in
theorem c_X7_isUnder_4_2 (σ : gS) : g_Met yX7_isUnder cX7_isUnder 4 (some .boolean) 3 kX [.int 4, .int 2] σ (fun rv s => rv = some (.int 1) ∧ s = σ) := by
  refine g_Met.of (own := 7) (L := [some (.int 4), some (.int 2), none, none]) (by decide) rfl rfl (fun ad => Nat.le_of_ble_eq_true rfl) (fun ad => rfl) (fun X G K C => ?_)
  refine V_blk C (pc' := 5) (σ' := σ) (L' := [some (.int 4), some (.int 2), some (.int 4), some (.int 0)]) (st' := [.int 0]) (g_c dX7_isUnder_0 (g_c dX7_isUnder_1 (g_c dX7_isUnder_2 (g_c dX7_isUnder_3 (g_c dX7_isUnder_4 g_n))))) rfl rfl ?_
  refine V_gsU C dX7_isUnder_5 ?_
  refine V_alenU C dX7_isUnder_8 ?_
  refine V_icmp_ge2 C (tgt := 38) dX7_isUnder_9 (by decide) (fun z => absurd z (by decide)) (fun _ => ?_)
  refine V_blk C (pc' := 13) (σ' := σ) (L' := [some (.int 4), some (.int 2), some (.int 4), some (.int 0)]) (st' := [.int 4]) (g_c dX7_isUnder_12 g_n) rfl rfl ?_
  refine V_callSI C cs_X7_116 (c_X7_isKind σ 4) (by decide) (by decide) (fun _ h => h) (As := [.int 4]) (rest := []) rfl rfl (Nat.le_of_ble_eq_true rfl) dX7_isUnder_13 ?_
  refine V_if_eq_b C (tgt := 38) dX7_isUnder_16 (by decide) (fun z => absurd (by decide) z) (fun _ => ?_)
  refine V_blk C (pc' := 21) (σ' := σ) (L' := [some (.int 4), some (.int 2), some (.int 4), some (.int 0)]) (st' := [.int 2, .int 4]) (g_c dX7_isUnder_19 (g_c dX7_isUnder_20 g_n)) rfl rfl ?_
  refine V_icmp_ne C (tgt := 26) dX7_isUnder_21 (by decide) (fun _ => ?_) (fun z => absurd z (by decide))
  refine V_gsU C dX7_isUnder_26 ?_
  refine V_blk C (pc' := 30) (σ' := σ) (L' := [some (.int 4), some (.int 2), some (.int 4), some (.int 0)]) (st' := [.int 4, .ref 106]) (g_c dX7_isUnder_29 g_n) rfl rfl ?_
  refine V_aldU C (v := 2) (vp_in_nI (n := 4) (N := 6) (by decide) (by decide)) (by decide) dX7_isUnder_30 ?_
  refine V_blk C (pc' := 35) (σ' := σ) (L' := [some (.int 4), some (.int 2), some (.int 2), some (.int 1)]) (st' := []) (g_c dX7_isUnder_31 (g_c dX7_isUnder_32 g_n)) rfl rfl ?_
  refine V_goto C (tgt := 4) dX7_isUnder_35 (by decide) ?_
  refine V_blk C (pc' := 5) (σ' := σ) (L' := [some (.int 4), some (.int 2), some (.int 2), some (.int 1)]) (st' := [.int 1]) (g_c dX7_isUnder_4 g_n) rfl rfl ?_
  refine V_gsU C dX7_isUnder_5 ?_
  refine V_alenU C dX7_isUnder_8 ?_
  refine V_icmp_ge2 C (tgt := 38) dX7_isUnder_9 (by decide) (fun z => absurd z (by decide)) (fun _ => ?_)
  refine V_blk C (pc' := 13) (σ' := σ) (L' := [some (.int 4), some (.int 2), some (.int 2), some (.int 1)]) (st' := [.int 2]) (g_c dX7_isUnder_12 g_n) rfl rfl ?_
  refine V_callSI C cs_X7_116 (c_X7_isKind σ 2) (by decide) (by decide) (fun _ h => h) (As := [.int 2]) (rest := []) rfl rfl (Nat.le_of_ble_eq_true rfl) dX7_isUnder_13 ?_
  refine V_if_eq_b C (tgt := 38) dX7_isUnder_16 (by decide) (fun z => absurd (by decide) z) (fun _ => ?_)
  refine V_blk C (pc' := 21) (σ' := σ) (L' := [some (.int 4), some (.int 2), some (.int 2), some (.int 1)]) (st' := [.int 2, .int 2]) (g_c dX7_isUnder_19 (g_c dX7_isUnder_20 g_n)) rfl rfl ?_
  refine V_icmp_ne C (tgt := 26) dX7_isUnder_21 (by decide) (fun z => absurd z (by decide)) (fun _ => ?_)
  refine V_blk C (pc' := 25) (σ' := σ) (L' := [some (.int 4), some (.int 2), some (.int 2), some (.int 1)]) (st' := [.int 1]) (g_c dX7_isUnder_24 g_n) rfl rfl ?_
  refine V_zret C (by decide) dX7_isUnder_25 ?_
  exact ⟨rfl, rfl⟩
set_option maxHeartbeats 4000000 in
set_option maxRecDepth 100000 in
theorem c_X7_isUnder_4_3 (σ : gS) : g_Met yX7_isUnder cX7_isUnder 4 (some .boolean) 3 kX [.int 4, .int 3] σ (fun rv s => rv = some (.int 0) ∧ s = σ) := by
  refine g_Met.of (own := 7) (L := [some (.int 4), some (.int 3), none, none]) (by decide) rfl rfl (fun ad => Nat.le_of_ble_eq_true rfl) (fun ad => rfl) (fun X G K C => ?_)
  refine V_blk C (pc' := 5) (σ' := σ) (L' := [some (.int 4), some (.int 3), some (.int 4), some (.int 0)]) (st' := [.int 0]) (g_c dX7_isUnder_0 (g_c dX7_isUnder_1 (g_c dX7_isUnder_2 (g_c dX7_isUnder_3 (g_c dX7_isUnder_4 g_n))))) rfl rfl ?_
  refine V_gsU C dX7_isUnder_5 ?_
  refine V_alenU C dX7_isUnder_8 ?_
  refine V_icmp_ge2 C (tgt := 38) dX7_isUnder_9 (by decide) (fun z => absurd z (by decide)) (fun _ => ?_)
  refine V_blk C (pc' := 13) (σ' := σ) (L' := [some (.int 4), some (.int 3), some (.int 4), some (.int 0)]) (st' := [.int 4]) (g_c dX7_isUnder_12 g_n) rfl rfl ?_
  refine V_callSI C cs_X7_116 (c_X7_isKind σ 4) (by decide) (by decide) (fun _ h => h) (As := [.int 4]) (rest := []) rfl rfl (Nat.le_of_ble_eq_true rfl) dX7_isUnder_13 ?_
  refine V_if_eq_b C (tgt := 38) dX7_isUnder_16 (by decide) (fun z => absurd (by decide) z) (fun _ => ?_)
  refine V_blk C (pc' := 21) (σ' := σ) (L' := [some (.int 4), some (.int 3), some (.int 4), some (.int 0)]) (st' := [.int 3, .int 4]) (g_c dX7_isUnder_19 (g_c dX7_isUnder_20 g_n)) rfl rfl ?_
  refine V_icmp_ne C (tgt := 26) dX7_isUnder_21 (by decide) (fun _ => ?_) (fun z => absurd z (by decide))
  refine V_gsU C dX7_isUnder_26 ?_
  refine V_blk C (pc' := 30) (σ' := σ) (L' := [some (.int 4), some (.int 3), some (.int 4), some (.int 0)]) (st' := [.int 4, .ref 106]) (g_c dX7_isUnder_29 g_n) rfl rfl ?_
  refine V_aldU C (v := 2) (vp_in_nI (n := 4) (N := 6) (by decide) (by decide)) (by decide) dX7_isUnder_30 ?_
  refine V_blk C (pc' := 35) (σ' := σ) (L' := [some (.int 4), some (.int 3), some (.int 2), some (.int 1)]) (st' := []) (g_c dX7_isUnder_31 (g_c dX7_isUnder_32 g_n)) rfl rfl ?_
  refine V_goto C (tgt := 4) dX7_isUnder_35 (by decide) ?_
  refine V_blk C (pc' := 5) (σ' := σ) (L' := [some (.int 4), some (.int 3), some (.int 2), some (.int 1)]) (st' := [.int 1]) (g_c dX7_isUnder_4 g_n) rfl rfl ?_
  refine V_gsU C dX7_isUnder_5 ?_
  refine V_alenU C dX7_isUnder_8 ?_
  refine V_icmp_ge2 C (tgt := 38) dX7_isUnder_9 (by decide) (fun z => absurd z (by decide)) (fun _ => ?_)
  refine V_blk C (pc' := 13) (σ' := σ) (L' := [some (.int 4), some (.int 3), some (.int 2), some (.int 1)]) (st' := [.int 2]) (g_c dX7_isUnder_12 g_n) rfl rfl ?_
  refine V_callSI C cs_X7_116 (c_X7_isKind σ 2) (by decide) (by decide) (fun _ h => h) (As := [.int 2]) (rest := []) rfl rfl (Nat.le_of_ble_eq_true rfl) dX7_isUnder_13 ?_
  refine V_if_eq_b C (tgt := 38) dX7_isUnder_16 (by decide) (fun z => absurd (by decide) z) (fun _ => ?_)
  refine V_blk C (pc' := 21) (σ' := σ) (L' := [some (.int 4), some (.int 3), some (.int 2), some (.int 1)]) (st' := [.int 3, .int 2]) (g_c dX7_isUnder_19 (g_c dX7_isUnder_20 g_n)) rfl rfl ?_
  refine V_icmp_ne C (tgt := 26) dX7_isUnder_21 (by decide) (fun _ => ?_) (fun z => absurd z (by decide))
  refine V_gsU C dX7_isUnder_26 ?_
  refine V_blk C (pc' := 30) (σ' := σ) (L' := [some (.int 4), some (.int 3), some (.int 2), some (.int 1)]) (st' := [.int 2, .ref 106]) (g_c dX7_isUnder_29 g_n) rfl rfl ?_
  refine V_aldU C (v := 0) (vp_in_nI (n := 2) (N := 6) (by decide) (by decide)) (by decide) dX7_isUnder_30 ?_
  refine V_blk C (pc' := 35) (σ' := σ) (L' := [some (.int 4), some (.int 3), some (.int 0), some (.int 2)]) (st' := []) (g_c dX7_isUnder_31 (g_c dX7_isUnder_32 g_n)) rfl rfl ?_
  refine V_goto C (tgt := 4) dX7_isUnder_35 (by decide) ?_
  refine V_blk C (pc' := 5) (σ' := σ) (L' := [some (.int 4), some (.int 3), some (.int 0), some (.int 2)]) (st' := [.int 2]) (g_c dX7_isUnder_4 g_n) rfl rfl ?_
  refine V_gsU C dX7_isUnder_5 ?_
  refine V_alenU C dX7_isUnder_8 ?_
  refine V_icmp_ge2 C (tgt := 38) dX7_isUnder_9 (by decide) (fun z => absurd z (by decide)) (fun _ => ?_)
  refine V_blk C (pc' := 13) (σ' := σ) (L' := [some (.int 4), some (.int 3), some (.int 0), some (.int 2)]) (st' := [.int 0]) (g_c dX7_isUnder_12 g_n) rfl rfl ?_
  refine V_callSI C cs_X7_116 (c_X7_isKind σ 0) (by decide) (by decide) (fun _ h => h) (As := [.int 0]) (rest := []) rfl rfl (Nat.le_of_ble_eq_true rfl) dX7_isUnder_13 ?_
  refine V_if_eq_b C (tgt := 38) dX7_isUnder_16 (by decide) (fun z => absurd (by decide) z) (fun _ => ?_)
  refine V_blk C (pc' := 21) (σ' := σ) (L' := [some (.int 4), some (.int 3), some (.int 0), some (.int 2)]) (st' := [.int 3, .int 0]) (g_c dX7_isUnder_19 (g_c dX7_isUnder_20 g_n)) rfl rfl ?_
  refine V_icmp_ne C (tgt := 26) dX7_isUnder_21 (by decide) (fun _ => ?_) (fun z => absurd z (by decide))
  refine V_gsU C dX7_isUnder_26 ?_
  refine V_blk C (pc' := 30) (σ' := σ) (L' := [some (.int 4), some (.int 3), some (.int 0), some (.int 2)]) (st' := [.int 0, .ref 106]) (g_c dX7_isUnder_29 g_n) rfl rfl ?_
  refine V_aldU C (v := (-1)) (vp_in_nI (n := 0) (N := 6) (by decide) (by decide)) (by decide) dX7_isUnder_30 ?_
  refine V_blk C (pc' := 35) (σ' := σ) (L' := [some (.int 4), some (.int 3), some (.int (-1)), some (.int 3)]) (st' := []) (g_c dX7_isUnder_31 (g_c dX7_isUnder_32 g_n)) rfl rfl ?_
  refine V_goto C (tgt := 4) dX7_isUnder_35 (by decide) ?_
  refine V_blk C (pc' := 5) (σ' := σ) (L' := [some (.int 4), some (.int 3), some (.int (-1)), some (.int 3)]) (st' := [.int 3]) (g_c dX7_isUnder_4 g_n) rfl rfl ?_
  refine V_gsU C dX7_isUnder_5 ?_
  refine V_alenU C dX7_isUnder_8 ?_
  refine V_icmp_ge2 C (tgt := 38) dX7_isUnder_9 (by decide) (fun z => absurd z (by decide)) (fun _ => ?_)
  refine V_blk C (pc' := 13) (σ' := σ) (L' := [some (.int 4), some (.int 3), some (.int (-1)), some (.int 3)]) (st' := [.int (-1)]) (g_c dX7_isUnder_12 g_n) rfl rfl ?_
  refine V_callSI C cs_X7_116 (c_X7_isKind σ (-1)) (by decide) (by decide) (fun _ h => h) (As := [.int (-1)]) (rest := []) rfl rfl (Nat.le_of_ble_eq_true rfl) dX7_isUnder_13 ?_
  refine V_if_eq_b C (tgt := 38) dX7_isUnder_16 (by decide) (fun _ => ?_) (fun z => absurd z (by decide))
  refine V_blk C (pc' := 39) (σ' := σ) (L' := [some (.int 4), some (.int 3), some (.int (-1)), some (.int 3)]) (st' := [.int 0]) (g_c dX7_isUnder_38 g_n) rfl rfl ?_
  refine V_zret C (by decide) dX7_isUnder_39 ?_
  exact ⟨rfl, rfl⟩
set_option maxHeartbeats 4000000 in
set_option maxRecDepth 100000 in
theorem c_X7_isUnder_4_4 (σ : gS) : g_Met yX7_isUnder cX7_isUnder 4 (some .boolean) 3 kX [.int 4, .int 4] σ (fun rv s => rv = some (.int 1) ∧ s = σ) := by
  refine g_Met.of (own := 7) (L := [some (.int 4), some (.int 4), none, none]) (by decide) rfl rfl (fun ad => Nat.le_of_ble_eq_true rfl) (fun ad => rfl) (fun X G K C => ?_)
  refine V_blk C (pc' := 5) (σ' := σ) (L' := [some (.int 4), some (.int 4), some (.int 4), some (.int 0)]) (st' := [.int 0]) (g_c dX7_isUnder_0 (g_c dX7_isUnder_1 (g_c dX7_isUnder_2 (g_c dX7_isUnder_3 (g_c dX7_isUnder_4 g_n))))) rfl rfl ?_
  refine V_gsU C dX7_isUnder_5 ?_
  refine V_alenU C dX7_isUnder_8 ?_
  refine V_icmp_ge2 C (tgt := 38) dX7_isUnder_9 (by decide) (fun z => absurd z (by decide)) (fun _ => ?_)
  refine V_blk C (pc' := 13) (σ' := σ) (L' := [some (.int 4), some (.int 4), some (.int 4), some (.int 0)]) (st' := [.int 4]) (g_c dX7_isUnder_12 g_n) rfl rfl ?_
  refine V_callSI C cs_X7_116 (c_X7_isKind σ 4) (by decide) (by decide) (fun _ h => h) (As := [.int 4]) (rest := []) rfl rfl (Nat.le_of_ble_eq_true rfl) dX7_isUnder_13 ?_
  refine V_if_eq_b C (tgt := 38) dX7_isUnder_16 (by decide) (fun z => absurd (by decide) z) (fun _ => ?_)
  refine V_blk C (pc' := 21) (σ' := σ) (L' := [some (.int 4), some (.int 4), some (.int 4), some (.int 0)]) (st' := [.int 4, .int 4]) (g_c dX7_isUnder_19 (g_c dX7_isUnder_20 g_n)) rfl rfl ?_
  refine V_icmp_ne C (tgt := 26) dX7_isUnder_21 (by decide) (fun z => absurd z (by decide)) (fun _ => ?_)
  refine V_blk C (pc' := 25) (σ' := σ) (L' := [some (.int 4), some (.int 4), some (.int 4), some (.int 0)]) (st' := [.int 1]) (g_c dX7_isUnder_24 g_n) rfl rfl ?_
  refine V_zret C (by decide) dX7_isUnder_25 ?_
  exact ⟨rfl, rfl⟩
set_option maxHeartbeats 4000000 in
set_option maxRecDepth 100000 in
theorem c_X7_isUnder_4_5 (σ : gS) : g_Met yX7_isUnder cX7_isUnder 4 (some .boolean) 3 kX [.int 4, .int 5] σ (fun rv s => rv = some (.int 0) ∧ s = σ) := by
  refine g_Met.of (own := 7) (L := [some (.int 4), some (.int 5), none, none]) (by decide) rfl rfl (fun ad => Nat.le_of_ble_eq_true rfl) (fun ad => rfl) (fun X G K C => ?_)
  refine V_blk C (pc' := 5) (σ' := σ) (L' := [some (.int 4), some (.int 5), some (.int 4), some (.int 0)]) (st' := [.int 0]) (g_c dX7_isUnder_0 (g_c dX7_isUnder_1 (g_c dX7_isUnder_2 (g_c dX7_isUnder_3 (g_c dX7_isUnder_4 g_n))))) rfl rfl ?_
  refine V_gsU C dX7_isUnder_5 ?_
  refine V_alenU C dX7_isUnder_8 ?_
  refine V_icmp_ge2 C (tgt := 38) dX7_isUnder_9 (by decide) (fun z => absurd z (by decide)) (fun _ => ?_)
  refine V_blk C (pc' := 13) (σ' := σ) (L' := [some (.int 4), some (.int 5), some (.int 4), some (.int 0)]) (st' := [.int 4]) (g_c dX7_isUnder_12 g_n) rfl rfl ?_
  refine V_callSI C cs_X7_116 (c_X7_isKind σ 4) (by decide) (by decide) (fun _ h => h) (As := [.int 4]) (rest := []) rfl rfl (Nat.le_of_ble_eq_true rfl) dX7_isUnder_13 ?_
  refine V_if_eq_b C (tgt := 38) dX7_isUnder_16 (by decide) (fun z => absurd (by decide) z) (fun _ => ?_)
  refine V_blk C (pc' := 21) (σ' := σ) (L' := [some (.int 4), some (.int 5), some (.int 4), some (.int 0)]) (st' := [.int 5, .int 4]) (g_c dX7_isUnder_19 (g_c dX7_isUnder_20 g_n)) rfl rfl ?_
  refine V_icmp_ne C (tgt := 26) dX7_isUnder_21 (by decide) (fun _ => ?_) (fun z => absurd z (by decide))
  refine V_gsU C dX7_isUnder_26 ?_
  refine V_blk C (pc' := 30) (σ' := σ) (L' := [some (.int 4), some (.int 5), some (.int 4), some (.int 0)]) (st' := [.int 4, .ref 106]) (g_c dX7_isUnder_29 g_n) rfl rfl ?_
  refine V_aldU C (v := 2) (vp_in_nI (n := 4) (N := 6) (by decide) (by decide)) (by decide) dX7_isUnder_30 ?_
  refine V_blk C (pc' := 35) (σ' := σ) (L' := [some (.int 4), some (.int 5), some (.int 2), some (.int 1)]) (st' := []) (g_c dX7_isUnder_31 (g_c dX7_isUnder_32 g_n)) rfl rfl ?_
  refine V_goto C (tgt := 4) dX7_isUnder_35 (by decide) ?_
  refine V_blk C (pc' := 5) (σ' := σ) (L' := [some (.int 4), some (.int 5), some (.int 2), some (.int 1)]) (st' := [.int 1]) (g_c dX7_isUnder_4 g_n) rfl rfl ?_
  refine V_gsU C dX7_isUnder_5 ?_
  refine V_alenU C dX7_isUnder_8 ?_
  refine V_icmp_ge2 C (tgt := 38) dX7_isUnder_9 (by decide) (fun z => absurd z (by decide)) (fun _ => ?_)
  refine V_blk C (pc' := 13) (σ' := σ) (L' := [some (.int 4), some (.int 5), some (.int 2), some (.int 1)]) (st' := [.int 2]) (g_c dX7_isUnder_12 g_n) rfl rfl ?_
  refine V_callSI C cs_X7_116 (c_X7_isKind σ 2) (by decide) (by decide) (fun _ h => h) (As := [.int 2]) (rest := []) rfl rfl (Nat.le_of_ble_eq_true rfl) dX7_isUnder_13 ?_
  refine V_if_eq_b C (tgt := 38) dX7_isUnder_16 (by decide) (fun z => absurd (by decide) z) (fun _ => ?_)
  refine V_blk C (pc' := 21) (σ' := σ) (L' := [some (.int 4), some (.int 5), some (.int 2), some (.int 1)]) (st' := [.int 5, .int 2]) (g_c dX7_isUnder_19 (g_c dX7_isUnder_20 g_n)) rfl rfl ?_
  refine V_icmp_ne C (tgt := 26) dX7_isUnder_21 (by decide) (fun _ => ?_) (fun z => absurd z (by decide))
  refine V_gsU C dX7_isUnder_26 ?_
  refine V_blk C (pc' := 30) (σ' := σ) (L' := [some (.int 4), some (.int 5), some (.int 2), some (.int 1)]) (st' := [.int 2, .ref 106]) (g_c dX7_isUnder_29 g_n) rfl rfl ?_
  refine V_aldU C (v := 0) (vp_in_nI (n := 2) (N := 6) (by decide) (by decide)) (by decide) dX7_isUnder_30 ?_
  refine V_blk C (pc' := 35) (σ' := σ) (L' := [some (.int 4), some (.int 5), some (.int 0), some (.int 2)]) (st' := []) (g_c dX7_isUnder_31 (g_c dX7_isUnder_32 g_n)) rfl rfl ?_
  refine V_goto C (tgt := 4) dX7_isUnder_35 (by decide) ?_
  refine V_blk C (pc' := 5) (σ' := σ) (L' := [some (.int 4), some (.int 5), some (.int 0), some (.int 2)]) (st' := [.int 2]) (g_c dX7_isUnder_4 g_n) rfl rfl ?_
  refine V_gsU C dX7_isUnder_5 ?_
  refine V_alenU C dX7_isUnder_8 ?_
  refine V_icmp_ge2 C (tgt := 38) dX7_isUnder_9 (by decide) (fun z => absurd z (by decide)) (fun _ => ?_)
  refine V_blk C (pc' := 13) (σ' := σ) (L' := [some (.int 4), some (.int 5), some (.int 0), some (.int 2)]) (st' := [.int 0]) (g_c dX7_isUnder_12 g_n) rfl rfl ?_
  refine V_callSI C cs_X7_116 (c_X7_isKind σ 0) (by decide) (by decide) (fun _ h => h) (As := [.int 0]) (rest := []) rfl rfl (Nat.le_of_ble_eq_true rfl) dX7_isUnder_13 ?_
  refine V_if_eq_b C (tgt := 38) dX7_isUnder_16 (by decide) (fun z => absurd (by decide) z) (fun _ => ?_)
  refine V_blk C (pc' := 21) (σ' := σ) (L' := [some (.int 4), some (.int 5), some (.int 0), some (.int 2)]) (st' := [.int 5, .int 0]) (g_c dX7_isUnder_19 (g_c dX7_isUnder_20 g_n)) rfl rfl ?_
  refine V_icmp_ne C (tgt := 26) dX7_isUnder_21 (by decide) (fun _ => ?_) (fun z => absurd z (by decide))
  refine V_gsU C dX7_isUnder_26 ?_
  refine V_blk C (pc' := 30) (σ' := σ) (L' := [some (.int 4), some (.int 5), some (.int 0), some (.int 2)]) (st' := [.int 0, .ref 106]) (g_c dX7_isUnder_29 g_n) rfl rfl ?_
  refine V_aldU C (v := (-1)) (vp_in_nI (n := 0) (N := 6) (by decide) (by decide)) (by decide) dX7_isUnder_30 ?_
  refine V_blk C (pc' := 35) (σ' := σ) (L' := [some (.int 4), some (.int 5), some (.int (-1)), some (.int 3)]) (st' := []) (g_c dX7_isUnder_31 (g_c dX7_isUnder_32 g_n)) rfl rfl ?_
  refine V_goto C (tgt := 4) dX7_isUnder_35 (by decide) ?_
  refine V_blk C (pc' := 5) (σ' := σ) (L' := [some (.int 4), some (.int 5), some (.int (-1)), some (.int 3)]) (st' := [.int 3]) (g_c dX7_isUnder_4 g_n) rfl rfl ?_
  refine V_gsU C dX7_isUnder_5 ?_
  refine V_alenU C dX7_isUnder_8 ?_
  refine V_icmp_ge2 C (tgt := 38) dX7_isUnder_9 (by decide) (fun z => absurd z (by decide)) (fun _ => ?_)
  refine V_blk C (pc' := 13) (σ' := σ) (L' := [some (.int 4), some (.int 5), some (.int (-1)), some (.int 3)]) (st' := [.int (-1)]) (g_c dX7_isUnder_12 g_n) rfl rfl ?_
  refine V_callSI C cs_X7_116 (c_X7_isKind σ (-1)) (by decide) (by decide) (fun _ h => h) (As := [.int (-1)]) (rest := []) rfl rfl (Nat.le_of_ble_eq_true rfl) dX7_isUnder_13 ?_
  refine V_if_eq_b C (tgt := 38) dX7_isUnder_16 (by decide) (fun _ => ?_) (fun z => absurd z (by decide))
  refine V_blk C (pc' := 39) (σ' := σ) (L' := [some (.int 4), some (.int 5), some (.int (-1)), some (.int 3)]) (st' := [.int 0]) (g_c dX7_isUnder_38 g_n) rfl rfl ?_
  refine V_zret C (by decide) dX7_isUnder_39 ?_
  exact ⟨rfl, rfl⟩
set_option maxHeartbeats 4000000 in
set_option maxRecDepth 100000 in
theorem c_X7_isUnder_5_0 (σ : gS) : g_Met yX7_isUnder cX7_isUnder 4 (some .boolean) 3 kX [.int 5, .int 0] σ (fun rv s => rv = some (.int 1) ∧ s = σ) := by
  refine g_Met.of (own := 7) (L := [some (.int 5), some (.int 0), none, none]) (by decide) rfl rfl (fun ad => Nat.le_of_ble_eq_true rfl) (fun ad => rfl) (fun X G K C => ?_)
  refine V_blk C (pc' := 5) (σ' := σ) (L' := [some (.int 5), some (.int 0), some (.int 5), some (.int 0)]) (st' := [.int 0]) (g_c dX7_isUnder_0 (g_c dX7_isUnder_1 (g_c dX7_isUnder_2 (g_c dX7_isUnder_3 (g_c dX7_isUnder_4 g_n))))) rfl rfl ?_
  refine V_gsU C dX7_isUnder_5 ?_
  refine V_alenU C dX7_isUnder_8 ?_
  refine V_icmp_ge2 C (tgt := 38) dX7_isUnder_9 (by decide) (fun z => absurd z (by decide)) (fun _ => ?_)
  refine V_blk C (pc' := 13) (σ' := σ) (L' := [some (.int 5), some (.int 0), some (.int 5), some (.int 0)]) (st' := [.int 5]) (g_c dX7_isUnder_12 g_n) rfl rfl ?_
  refine V_callSI C cs_X7_116 (c_X7_isKind σ 5) (by decide) (by decide) (fun _ h => h) (As := [.int 5]) (rest := []) rfl rfl (Nat.le_of_ble_eq_true rfl) dX7_isUnder_13 ?_
  refine V_if_eq_b C (tgt := 38) dX7_isUnder_16 (by decide) (fun z => absurd (by decide) z) (fun _ => ?_)
  refine V_blk C (pc' := 21) (σ' := σ) (L' := [some (.int 5), some (.int 0), some (.int 5), some (.int 0)]) (st' := [.int 0, .int 5]) (g_c dX7_isUnder_19 (g_c dX7_isUnder_20 g_n)) rfl rfl ?_
  refine V_icmp_ne C (tgt := 26) dX7_isUnder_21 (by decide) (fun _ => ?_) (fun z => absurd z (by decide))
  refine V_gsU C dX7_isUnder_26 ?_
  refine V_blk C (pc' := 30) (σ' := σ) (L' := [some (.int 5), some (.int 0), some (.int 5), some (.int 0)]) (st' := [.int 5, .ref 106]) (g_c dX7_isUnder_29 g_n) rfl rfl ?_
  refine V_aldU C (v := 1) (vp_in_nI (n := 5) (N := 6) (by decide) (by decide)) (by decide) dX7_isUnder_30 ?_
  refine V_blk C (pc' := 35) (σ' := σ) (L' := [some (.int 5), some (.int 0), some (.int 1), some (.int 1)]) (st' := []) (g_c dX7_isUnder_31 (g_c dX7_isUnder_32 g_n)) rfl rfl ?_
  refine V_goto C (tgt := 4) dX7_isUnder_35 (by decide) ?_
  refine V_blk C (pc' := 5) (σ' := σ) (L' := [some (.int 5), some (.int 0), some (.int 1), some (.int 1)]) (st' := [.int 1]) (g_c dX7_isUnder_4 g_n) rfl rfl ?_
  refine V_gsU C dX7_isUnder_5 ?_
  refine V_alenU C dX7_isUnder_8 ?_
  refine V_icmp_ge2 C (tgt := 38) dX7_isUnder_9 (by decide) (fun z => absurd z (by decide)) (fun _ => ?_)
  refine V_blk C (pc' := 13) (σ' := σ) (L' := [some (.int 5), some (.int 0), some (.int 1), some (.int 1)]) (st' := [.int 1]) (g_c dX7_isUnder_12 g_n) rfl rfl ?_
  refine V_callSI C cs_X7_116 (c_X7_isKind σ 1) (by decide) (by decide) (fun _ h => h) (As := [.int 1]) (rest := []) rfl rfl (Nat.le_of_ble_eq_true rfl) dX7_isUnder_13 ?_
  refine V_if_eq_b C (tgt := 38) dX7_isUnder_16 (by decide) (fun z => absurd (by decide) z) (fun _ => ?_)
  refine V_blk C (pc' := 21) (σ' := σ) (L' := [some (.int 5), some (.int 0), some (.int 1), some (.int 1)]) (st' := [.int 0, .int 1]) (g_c dX7_isUnder_19 (g_c dX7_isUnder_20 g_n)) rfl rfl ?_
  refine V_icmp_ne C (tgt := 26) dX7_isUnder_21 (by decide) (fun _ => ?_) (fun z => absurd z (by decide))
  refine V_gsU C dX7_isUnder_26 ?_
  refine V_blk C (pc' := 30) (σ' := σ) (L' := [some (.int 5), some (.int 0), some (.int 1), some (.int 1)]) (st' := [.int 1, .ref 106]) (g_c dX7_isUnder_29 g_n) rfl rfl ?_
  refine V_aldU C (v := 0) (vp_in_nI (n := 1) (N := 6) (by decide) (by decide)) (by decide) dX7_isUnder_30 ?_
  refine V_blk C (pc' := 35) (σ' := σ) (L' := [some (.int 5), some (.int 0), some (.int 0), some (.int 2)]) (st' := []) (g_c dX7_isUnder_31 (g_c dX7_isUnder_32 g_n)) rfl rfl ?_
  refine V_goto C (tgt := 4) dX7_isUnder_35 (by decide) ?_
  refine V_blk C (pc' := 5) (σ' := σ) (L' := [some (.int 5), some (.int 0), some (.int 0), some (.int 2)]) (st' := [.int 2]) (g_c dX7_isUnder_4 g_n) rfl rfl ?_
  refine V_gsU C dX7_isUnder_5 ?_
  refine V_alenU C dX7_isUnder_8 ?_
  refine V_icmp_ge2 C (tgt := 38) dX7_isUnder_9 (by decide) (fun z => absurd z (by decide)) (fun _ => ?_)
  refine V_blk C (pc' := 13) (σ' := σ) (L' := [some (.int 5), some (.int 0), some (.int 0), some (.int 2)]) (st' := [.int 0]) (g_c dX7_isUnder_12 g_n) rfl rfl ?_
  refine V_callSI C cs_X7_116 (c_X7_isKind σ 0) (by decide) (by decide) (fun _ h => h) (As := [.int 0]) (rest := []) rfl rfl (Nat.le_of_ble_eq_true rfl) dX7_isUnder_13 ?_
  refine V_if_eq_b C (tgt := 38) dX7_isUnder_16 (by decide) (fun z => absurd (by decide) z) (fun _ => ?_)
  refine V_blk C (pc' := 21) (σ' := σ) (L' := [some (.int 5), some (.int 0), some (.int 0), some (.int 2)]) (st' := [.int 0, .int 0]) (g_c dX7_isUnder_19 (g_c dX7_isUnder_20 g_n)) rfl rfl ?_
  refine V_icmp_ne C (tgt := 26) dX7_isUnder_21 (by decide) (fun z => absurd z (by decide)) (fun _ => ?_)
  refine V_blk C (pc' := 25) (σ' := σ) (L' := [some (.int 5), some (.int 0), some (.int 0), some (.int 2)]) (st' := [.int 1]) (g_c dX7_isUnder_24 g_n) rfl rfl ?_
  refine V_zret C (by decide) dX7_isUnder_25 ?_
  exact ⟨rfl, rfl⟩
set_option maxHeartbeats 4000000 in
set_option maxRecDepth 100000 in
theorem c_X7_isUnder_5_1 (σ : gS) : g_Met yX7_isUnder cX7_isUnder 4 (some .boolean) 3 kX [.int 5, .int 1] σ (fun rv s => rv = some (.int 1) ∧ s = σ) := by
  refine g_Met.of (own := 7) (L := [some (.int 5), some (.int 1), none, none]) (by decide) rfl rfl (fun ad => Nat.le_of_ble_eq_true rfl) (fun ad => rfl) (fun X G K C => ?_)
  refine V_blk C (pc' := 5) (σ' := σ) (L' := [some (.int 5), some (.int 1), some (.int 5), some (.int 0)]) (st' := [.int 0]) (g_c dX7_isUnder_0 (g_c dX7_isUnder_1 (g_c dX7_isUnder_2 (g_c dX7_isUnder_3 (g_c dX7_isUnder_4 g_n))))) rfl rfl ?_
  refine V_gsU C dX7_isUnder_5 ?_
  refine V_alenU C dX7_isUnder_8 ?_
  refine V_icmp_ge2 C (tgt := 38) dX7_isUnder_9 (by decide) (fun z => absurd z (by decide)) (fun _ => ?_)
  refine V_blk C (pc' := 13) (σ' := σ) (L' := [some (.int 5), some (.int 1), some (.int 5), some (.int 0)]) (st' := [.int 5]) (g_c dX7_isUnder_12 g_n) rfl rfl ?_
  refine V_callSI C cs_X7_116 (c_X7_isKind σ 5) (by decide) (by decide) (fun _ h => h) (As := [.int 5]) (rest := []) rfl rfl (Nat.le_of_ble_eq_true rfl) dX7_isUnder_13 ?_
  refine V_if_eq_b C (tgt := 38) dX7_isUnder_16 (by decide) (fun z => absurd (by decide) z) (fun _ => ?_)
  refine V_blk C (pc' := 21) (σ' := σ) (L' := [some (.int 5), some (.int 1), some (.int 5), some (.int 0)]) (st' := [.int 1, .int 5]) (g_c dX7_isUnder_19 (g_c dX7_isUnder_20 g_n)) rfl rfl ?_
  refine V_icmp_ne C (tgt := 26) dX7_isUnder_21 (by decide) (fun _ => ?_) (fun z => absurd z (by decide))
  refine V_gsU C dX7_isUnder_26 ?_
  refine V_blk C (pc' := 30) (σ' := σ) (L' := [some (.int 5), some (.int 1), some (.int 5), some (.int 0)]) (st' := [.int 5, .ref 106]) (g_c dX7_isUnder_29 g_n) rfl rfl ?_
  refine V_aldU C (v := 1) (vp_in_nI (n := 5) (N := 6) (by decide) (by decide)) (by decide) dX7_isUnder_30 ?_
  refine V_blk C (pc' := 35) (σ' := σ) (L' := [some (.int 5), some (.int 1), some (.int 1), some (.int 1)]) (st' := []) (g_c dX7_isUnder_31 (g_c dX7_isUnder_32 g_n)) rfl rfl ?_
  refine V_goto C (tgt := 4) dX7_isUnder_35 (by decide) ?_
  refine V_blk C (pc' := 5) (σ' := σ) (L' := [some (.int 5), some (.int 1), some (.int 1), some (.int 1)]) (st' := [.int 1]) (g_c dX7_isUnder_4 g_n) rfl rfl ?_
  refine V_gsU C dX7_isUnder_5 ?_
  refine V_alenU C dX7_isUnder_8 ?_
  refine V_icmp_ge2 C (tgt := 38) dX7_isUnder_9 (by decide) (fun z => absurd z (by decide)) (fun _ => ?_)
  refine V_blk C (pc' := 13) (σ' := σ) (L' := [some (.int 5), some (.int 1), some (.int 1), some (.int 1)]) (st' := [.int 1]) (g_c dX7_isUnder_12 g_n) rfl rfl ?_
  refine V_callSI C cs_X7_116 (c_X7_isKind σ 1) (by decide) (by decide) (fun _ h => h) (As := [.int 1]) (rest := []) rfl rfl (Nat.le_of_ble_eq_true rfl) dX7_isUnder_13 ?_
  refine V_if_eq_b C (tgt := 38) dX7_isUnder_16 (by decide) (fun z => absurd (by decide) z) (fun _ => ?_)
  refine V_blk C (pc' := 21) (σ' := σ) (L' := [some (.int 5), some (.int 1), some (.int 1), some (.int 1)]) (st' := [.int 1, .int 1]) (g_c dX7_isUnder_19 (g_c dX7_isUnder_20 g_n)) rfl rfl ?_
  refine V_icmp_ne C (tgt := 26) dX7_isUnder_21 (by decide) (fun z => absurd z (by decide)) (fun _ => ?_)
  refine V_blk C (pc' := 25) (σ' := σ) (L' := [some (.int 5), some (.int 1), some (.int 1), some (.int 1)]) (st' := [.int 1]) (g_c dX7_isUnder_24 g_n) rfl rfl ?_
  refine V_zret C (by decide) dX7_isUnder_25 ?_
  exact ⟨rfl, rfl⟩
set_option maxHeartbeats 4000000 in
set_option maxRecDepth 100000 in
theorem c_X7_isUnder_5_2 (σ : gS) : g_Met yX7_isUnder cX7_isUnder 4 (some .boolean) 3 kX [.int 5, .int 2] σ (fun rv s => rv = some (.int 0) ∧ s = σ) := by
  refine g_Met.of (own := 7) (L := [some (.int 5), some (.int 2), none, none]) (by decide) rfl rfl (fun ad => Nat.le_of_ble_eq_true rfl) (fun ad => rfl) (fun X G K C => ?_)
  refine V_blk C (pc' := 5) (σ' := σ) (L' := [some (.int 5), some (.int 2), some (.int 5), some (.int 0)]) (st' := [.int 0]) (g_c dX7_isUnder_0 (g_c dX7_isUnder_1 (g_c dX7_isUnder_2 (g_c dX7_isUnder_3 (g_c dX7_isUnder_4 g_n))))) rfl rfl ?_
  refine V_gsU C dX7_isUnder_5 ?_
  refine V_alenU C dX7_isUnder_8 ?_
  refine V_icmp_ge2 C (tgt := 38) dX7_isUnder_9 (by decide) (fun z => absurd z (by decide)) (fun _ => ?_)
  refine V_blk C (pc' := 13) (σ' := σ) (L' := [some (.int 5), some (.int 2), some (.int 5), some (.int 0)]) (st' := [.int 5]) (g_c dX7_isUnder_12 g_n) rfl rfl ?_
  refine V_callSI C cs_X7_116 (c_X7_isKind σ 5) (by decide) (by decide) (fun _ h => h) (As := [.int 5]) (rest := []) rfl rfl (Nat.le_of_ble_eq_true rfl) dX7_isUnder_13 ?_
  refine V_if_eq_b C (tgt := 38) dX7_isUnder_16 (by decide) (fun z => absurd (by decide) z) (fun _ => ?_)
  refine V_blk C (pc' := 21) (σ' := σ) (L' := [some (.int 5), some (.int 2), some (.int 5), some (.int 0)]) (st' := [.int 2, .int 5]) (g_c dX7_isUnder_19 (g_c dX7_isUnder_20 g_n)) rfl rfl ?_
  refine V_icmp_ne C (tgt := 26) dX7_isUnder_21 (by decide) (fun _ => ?_) (fun z => absurd z (by decide))
  refine V_gsU C dX7_isUnder_26 ?_
  refine V_blk C (pc' := 30) (σ' := σ) (L' := [some (.int 5), some (.int 2), some (.int 5), some (.int 0)]) (st' := [.int 5, .ref 106]) (g_c dX7_isUnder_29 g_n) rfl rfl ?_
  refine V_aldU C (v := 1) (vp_in_nI (n := 5) (N := 6) (by decide) (by decide)) (by decide) dX7_isUnder_30 ?_
  refine V_blk C (pc' := 35) (σ' := σ) (L' := [some (.int 5), some (.int 2), some (.int 1), some (.int 1)]) (st' := []) (g_c dX7_isUnder_31 (g_c dX7_isUnder_32 g_n)) rfl rfl ?_
  refine V_goto C (tgt := 4) dX7_isUnder_35 (by decide) ?_
  refine V_blk C (pc' := 5) (σ' := σ) (L' := [some (.int 5), some (.int 2), some (.int 1), some (.int 1)]) (st' := [.int 1]) (g_c dX7_isUnder_4 g_n) rfl rfl ?_
  refine V_gsU C dX7_isUnder_5 ?_
  refine V_alenU C dX7_isUnder_8 ?_
  refine V_icmp_ge2 C (tgt := 38) dX7_isUnder_9 (by decide) (fun z => absurd z (by decide)) (fun _ => ?_)
  refine V_blk C (pc' := 13) (σ' := σ) (L' := [some (.int 5), some (.int 2), some (.int 1), some (.int 1)]) (st' := [.int 1]) (g_c dX7_isUnder_12 g_n) rfl rfl ?_
  refine V_callSI C cs_X7_116 (c_X7_isKind σ 1) (by decide) (by decide) (fun _ h => h) (As := [.int 1]) (rest := []) rfl rfl (Nat.le_of_ble_eq_true rfl) dX7_isUnder_13 ?_
  refine V_if_eq_b C (tgt := 38) dX7_isUnder_16 (by decide) (fun z => absurd (by decide) z) (fun _ => ?_)
  refine V_blk C (pc' := 21) (σ' := σ) (L' := [some (.int 5), some (.int 2), some (.int 1), some (.int 1)]) (st' := [.int 2, .int 1]) (g_c dX7_isUnder_19 (g_c dX7_isUnder_20 g_n)) rfl rfl ?_
  refine V_icmp_ne C (tgt := 26) dX7_isUnder_21 (by decide) (fun _ => ?_) (fun z => absurd z (by decide))
  refine V_gsU C dX7_isUnder_26 ?_
  refine V_blk C (pc' := 30) (σ' := σ) (L' := [some (.int 5), some (.int 2), some (.int 1), some (.int 1)]) (st' := [.int 1, .ref 106]) (g_c dX7_isUnder_29 g_n) rfl rfl ?_
  refine V_aldU C (v := 0) (vp_in_nI (n := 1) (N := 6) (by decide) (by decide)) (by decide) dX7_isUnder_30 ?_
  refine V_blk C (pc' := 35) (σ' := σ) (L' := [some (.int 5), some (.int 2), some (.int 0), some (.int 2)]) (st' := []) (g_c dX7_isUnder_31 (g_c dX7_isUnder_32 g_n)) rfl rfl ?_
  refine V_goto C (tgt := 4) dX7_isUnder_35 (by decide) ?_
  refine V_blk C (pc' := 5) (σ' := σ) (L' := [some (.int 5), some (.int 2), some (.int 0), some (.int 2)]) (st' := [.int 2]) (g_c dX7_isUnder_4 g_n) rfl rfl ?_
  refine V_gsU C dX7_isUnder_5 ?_
  refine V_alenU C dX7_isUnder_8 ?_
  refine V_icmp_ge2 C (tgt := 38) dX7_isUnder_9 (by decide) (fun z => absurd z (by decide)) (fun _ => ?_)
  refine V_blk C (pc' := 13) (σ' := σ) (L' := [some (.int 5), some (.int 2), some (.int 0), some (.int 2)]) (st' := [.int 0]) (g_c dX7_isUnder_12 g_n) rfl rfl ?_
  refine V_callSI C cs_X7_116 (c_X7_isKind σ 0) (by decide) (by decide) (fun _ h => h) (As := [.int 0]) (rest := []) rfl rfl (Nat.le_of_ble_eq_true rfl) dX7_isUnder_13 ?_
  refine V_if_eq_b C (tgt := 38) dX7_isUnder_16 (by decide) (fun z => absurd (by decide) z) (fun _ => ?_)
  refine V_blk C (pc' := 21) (σ' := σ) (L' := [some (.int 5), some (.int 2), some (.int 0), some (.int 2)]) (st' := [.int 2, .int 0]) (g_c dX7_isUnder_19 (g_c dX7_isUnder_20 g_n)) rfl rfl ?_
  refine V_icmp_ne C (tgt := 26) dX7_isUnder_21 (by decide) (fun _ => ?_) (fun z => absurd z (by decide))
  refine V_gsU C dX7_isUnder_26 ?_
  refine V_blk C (pc' := 30) (σ' := σ) (L' := [some (.int 5), some (.int 2), some (.int 0), some (.int 2)]) (st' := [.int 0, .ref 106]) (g_c dX7_isUnder_29 g_n) rfl rfl ?_
  refine V_aldU C (v := (-1)) (vp_in_nI (n := 0) (N := 6) (by decide) (by decide)) (by decide) dX7_isUnder_30 ?_
  refine V_blk C (pc' := 35) (σ' := σ) (L' := [some (.int 5), some (.int 2), some (.int (-1)), some (.int 3)]) (st' := []) (g_c dX7_isUnder_31 (g_c dX7_isUnder_32 g_n)) rfl rfl ?_
  refine V_goto C (tgt := 4) dX7_isUnder_35 (by decide) ?_
  refine V_blk C (pc' := 5) (σ' := σ) (L' := [some (.int 5), some (.int 2), some (.int (-1)), some (.int 3)]) (st' := [.int 3]) (g_c dX7_isUnder_4 g_n) rfl rfl ?_
  refine V_gsU C dX7_isUnder_5 ?_
  refine V_alenU C dX7_isUnder_8 ?_
  refine V_icmp_ge2 C (tgt := 38) dX7_isUnder_9 (by decide) (fun z => absurd z (by decide)) (fun _ => ?_)
  refine V_blk C (pc' := 13) (σ' := σ) (L' := [some (.int 5), some (.int 2), some (.int (-1)), some (.int 3)]) (st' := [.int (-1)]) (g_c dX7_isUnder_12 g_n) rfl rfl ?_
  refine V_callSI C cs_X7_116 (c_X7_isKind σ (-1)) (by decide) (by decide) (fun _ h => h) (As := [.int (-1)]) (rest := []) rfl rfl (Nat.le_of_ble_eq_true rfl) dX7_isUnder_13 ?_
  refine V_if_eq_b C (tgt := 38) dX7_isUnder_16 (by decide) (fun _ => ?_) (fun z => absurd z (by decide))
  refine V_blk C (pc' := 39) (σ' := σ) (L' := [some (.int 5), some (.int 2), some (.int (-1)), some (.int 3)]) (st' := [.int 0]) (g_c dX7_isUnder_38 g_n) rfl rfl ?_
  refine V_zret C (by decide) dX7_isUnder_39 ?_
  exact ⟨rfl, rfl⟩
set_option maxHeartbeats 4000000 in
set_option maxRecDepth 100000 in
theorem c_X7_isUnder_5_3 (σ : gS) : g_Met yX7_isUnder cX7_isUnder 4 (some .boolean) 3 kX [.int 5, .int 3] σ (fun rv s => rv = some (.int 0) ∧ s = σ) := by
  refine g_Met.of (own := 7) (L := [some (.int 5), some (.int 3), none, none]) (by decide) rfl rfl (fun ad => Nat.le_of_ble_eq_true rfl) (fun ad => rfl) (fun X G K C => ?_)
  refine V_blk C (pc' := 5) (σ' := σ) (L' := [some (.int 5), some (.int 3), some (.int 5), some (.int 0)]) (st' := [.int 0]) (g_c dX7_isUnder_0 (g_c dX7_isUnder_1 (g_c dX7_isUnder_2 (g_c dX7_isUnder_3 (g_c dX7_isUnder_4 g_n))))) rfl rfl ?_
  refine V_gsU C dX7_isUnder_5 ?_
  refine V_alenU C dX7_isUnder_8 ?_
  refine V_icmp_ge2 C (tgt := 38) dX7_isUnder_9 (by decide) (fun z => absurd z (by decide)) (fun _ => ?_)
  refine V_blk C (pc' := 13) (σ' := σ) (L' := [some (.int 5), some (.int 3), some (.int 5), some (.int 0)]) (st' := [.int 5]) (g_c dX7_isUnder_12 g_n) rfl rfl ?_
  refine V_callSI C cs_X7_116 (c_X7_isKind σ 5) (by decide) (by decide) (fun _ h => h) (As := [.int 5]) (rest := []) rfl rfl (Nat.le_of_ble_eq_true rfl) dX7_isUnder_13 ?_
  refine V_if_eq_b C (tgt := 38) dX7_isUnder_16 (by decide) (fun z => absurd (by decide) z) (fun _ => ?_)
  refine V_blk C (pc' := 21) (σ' := σ) (L' := [some (.int 5), some (.int 3), some (.int 5), some (.int 0)]) (st' := [.int 3, .int 5]) (g_c dX7_isUnder_19 (g_c dX7_isUnder_20 g_n)) rfl rfl ?_
  refine V_icmp_ne C (tgt := 26) dX7_isUnder_21 (by decide) (fun _ => ?_) (fun z => absurd z (by decide))
  refine V_gsU C dX7_isUnder_26 ?_
  refine V_blk C (pc' := 30) (σ' := σ) (L' := [some (.int 5), some (.int 3), some (.int 5), some (.int 0)]) (st' := [.int 5, .ref 106]) (g_c dX7_isUnder_29 g_n) rfl rfl ?_
  refine V_aldU C (v := 1) (vp_in_nI (n := 5) (N := 6) (by decide) (by decide)) (by decide) dX7_isUnder_30 ?_
  refine V_blk C (pc' := 35) (σ' := σ) (L' := [some (.int 5), some (.int 3), some (.int 1), some (.int 1)]) (st' := []) (g_c dX7_isUnder_31 (g_c dX7_isUnder_32 g_n)) rfl rfl ?_
  refine V_goto C (tgt := 4) dX7_isUnder_35 (by decide) ?_
  refine V_blk C (pc' := 5) (σ' := σ) (L' := [some (.int 5), some (.int 3), some (.int 1), some (.int 1)]) (st' := [.int 1]) (g_c dX7_isUnder_4 g_n) rfl rfl ?_
  refine V_gsU C dX7_isUnder_5 ?_
  refine V_alenU C dX7_isUnder_8 ?_
  refine V_icmp_ge2 C (tgt := 38) dX7_isUnder_9 (by decide) (fun z => absurd z (by decide)) (fun _ => ?_)
  refine V_blk C (pc' := 13) (σ' := σ) (L' := [some (.int 5), some (.int 3), some (.int 1), some (.int 1)]) (st' := [.int 1]) (g_c dX7_isUnder_12 g_n) rfl rfl ?_
  refine V_callSI C cs_X7_116 (c_X7_isKind σ 1) (by decide) (by decide) (fun _ h => h) (As := [.int 1]) (rest := []) rfl rfl (Nat.le_of_ble_eq_true rfl) dX7_isUnder_13 ?_
  refine V_if_eq_b C (tgt := 38) dX7_isUnder_16 (by decide) (fun z => absurd (by decide) z) (fun _ => ?_)
  refine V_blk C (pc' := 21) (σ' := σ) (L' := [some (.int 5), some (.int 3), some (.int 1), some (.int 1)]) (st' := [.int 3, .int 1]) (g_c dX7_isUnder_19 (g_c dX7_isUnder_20 g_n)) rfl rfl ?_
  refine V_icmp_ne C (tgt := 26) dX7_isUnder_21 (by decide) (fun _ => ?_) (fun z => absurd z (by decide))
  refine V_gsU C dX7_isUnder_26 ?_
  refine V_blk C (pc' := 30) (σ' := σ) (L' := [some (.int 5), some (.int 3), some (.int 1), some (.int 1)]) (st' := [.int 1, .ref 106]) (g_c dX7_isUnder_29 g_n) rfl rfl ?_
  refine V_aldU C (v := 0) (vp_in_nI (n := 1) (N := 6) (by decide) (by decide)) (by decide) dX7_isUnder_30 ?_
  refine V_blk C (pc' := 35) (σ' := σ) (L' := [some (.int 5), some (.int 3), some (.int 0), some (.int 2)]) (st' := []) (g_c dX7_isUnder_31 (g_c dX7_isUnder_32 g_n)) rfl rfl ?_
  refine V_goto C (tgt := 4) dX7_isUnder_35 (by decide) ?_
  refine V_blk C (pc' := 5) (σ' := σ) (L' := [some (.int 5), some (.int 3), some (.int 0), some (.int 2)]) (st' := [.int 2]) (g_c dX7_isUnder_4 g_n) rfl rfl ?_
  refine V_gsU C dX7_isUnder_5 ?_
  refine V_alenU C dX7_isUnder_8 ?_
  refine V_icmp_ge2 C (tgt := 38) dX7_isUnder_9 (by decide) (fun z => absurd z (by decide)) (fun _ => ?_)
  refine V_blk C (pc' := 13) (σ' := σ) (L' := [some (.int 5), some (.int 3), some (.int 0), some (.int 2)]) (st' := [.int 0]) (g_c dX7_isUnder_12 g_n) rfl rfl ?_
  refine V_callSI C cs_X7_116 (c_X7_isKind σ 0) (by decide) (by decide) (fun _ h => h) (As := [.int 0]) (rest := []) rfl rfl (Nat.le_of_ble_eq_true rfl) dX7_isUnder_13 ?_
  refine V_if_eq_b C (tgt := 38) dX7_isUnder_16 (by decide) (fun z => absurd (by decide) z) (fun _ => ?_)
  refine V_blk C (pc' := 21) (σ' := σ) (L' := [some (.int 5), some (.int 3), some (.int 0), some (.int 2)]) (st' := [.int 3, .int 0]) (g_c dX7_isUnder_19 (g_c dX7_isUnder_20 g_n)) rfl rfl ?_
  refine V_icmp_ne C (tgt := 26) dX7_isUnder_21 (by decide) (fun _ => ?_) (fun z => absurd z (by decide))
  refine V_gsU C dX7_isUnder_26 ?_
  refine V_blk C (pc' := 30) (σ' := σ) (L' := [some (.int 5), some (.int 3), some (.int 0), some (.int 2)]) (st' := [.int 0, .ref 106]) (g_c dX7_isUnder_29 g_n) rfl rfl ?_
  refine V_aldU C (v := (-1)) (vp_in_nI (n := 0) (N := 6) (by decide) (by decide)) (by decide) dX7_isUnder_30 ?_
  refine V_blk C (pc' := 35) (σ' := σ) (L' := [some (.int 5), some (.int 3), some (.int (-1)), some (.int 3)]) (st' := []) (g_c dX7_isUnder_31 (g_c dX7_isUnder_32 g_n)) rfl rfl ?_
  refine V_goto C (tgt := 4) dX7_isUnder_35 (by decide) ?_
  refine V_blk C (pc' := 5) (σ' := σ) (L' := [some (.int 5), some (.int 3), some (.int (-1)), some (.int 3)]) (st' := [.int 3]) (g_c dX7_isUnder_4 g_n) rfl rfl ?_
  refine V_gsU C dX7_isUnder_5 ?_
  refine V_alenU C dX7_isUnder_8 ?_
  refine V_icmp_ge2 C (tgt := 38) dX7_isUnder_9 (by decide) (fun z => absurd z (by decide)) (fun _ => ?_)
  refine V_blk C (pc' := 13) (σ' := σ) (L' := [some (.int 5), some (.int 3), some (.int (-1)), some (.int 3)]) (st' := [.int (-1)]) (g_c dX7_isUnder_12 g_n) rfl rfl ?_
  refine V_callSI C cs_X7_116 (c_X7_isKind σ (-1)) (by decide) (by decide) (fun _ h => h) (As := [.int (-1)]) (rest := []) rfl rfl (Nat.le_of_ble_eq_true rfl) dX7_isUnder_13 ?_
  refine V_if_eq_b C (tgt := 38) dX7_isUnder_16 (by decide) (fun _ => ?_) (fun z => absurd z (by decide))
  refine V_blk C (pc' := 39) (σ' := σ) (L' := [some (.int 5), some (.int 3), some (.int (-1)), some (.int 3)]) (st' := [.int 0]) (g_c dX7_isUnder_38 g_n) rfl rfl ?_
  refine V_zret C (by decide) dX7_isUnder_39 ?_
  exact ⟨rfl, rfl⟩
set_option maxHeartbeats 4000000 in
set_option maxRecDepth 100000 in
theorem c_X7_isUnder_5_4 (σ : gS) : g_Met yX7_isUnder cX7_isUnder 4 (some .boolean) 3 kX [.int 5, .int 4] σ (fun rv s => rv = some (.int 0) ∧ s = σ) := by
  refine g_Met.of (own := 7) (L := [some (.int 5), some (.int 4), none, none]) (by decide) rfl rfl (fun ad => Nat.le_of_ble_eq_true rfl) (fun ad => rfl) (fun X G K C => ?_)
  refine V_blk C (pc' := 5) (σ' := σ) (L' := [some (.int 5), some (.int 4), some (.int 5), some (.int 0)]) (st' := [.int 0]) (g_c dX7_isUnder_0 (g_c dX7_isUnder_1 (g_c dX7_isUnder_2 (g_c dX7_isUnder_3 (g_c dX7_isUnder_4 g_n))))) rfl rfl ?_
  refine V_gsU C dX7_isUnder_5 ?_
  refine V_alenU C dX7_isUnder_8 ?_
  refine V_icmp_ge2 C (tgt := 38) dX7_isUnder_9 (by decide) (fun z => absurd z (by decide)) (fun _ => ?_)
  refine V_blk C (pc' := 13) (σ' := σ) (L' := [some (.int 5), some (.int 4), some (.int 5), some (.int 0)]) (st' := [.int 5]) (g_c dX7_isUnder_12 g_n) rfl rfl ?_
  refine V_callSI C cs_X7_116 (c_X7_isKind σ 5) (by decide) (by decide) (fun _ h => h) (As := [.int 5]) (rest := []) rfl rfl (Nat.le_of_ble_eq_true rfl) dX7_isUnder_13 ?_
  refine V_if_eq_b C (tgt := 38) dX7_isUnder_16 (by decide) (fun z => absurd (by decide) z) (fun _ => ?_)
  refine V_blk C (pc' := 21) (σ' := σ) (L' := [some (.int 5), some (.int 4), some (.int 5), some (.int 0)]) (st' := [.int 4, .int 5]) (g_c dX7_isUnder_19 (g_c dX7_isUnder_20 g_n)) rfl rfl ?_
  refine V_icmp_ne C (tgt := 26) dX7_isUnder_21 (by decide) (fun _ => ?_) (fun z => absurd z (by decide))
  refine V_gsU C dX7_isUnder_26 ?_
  refine V_blk C (pc' := 30) (σ' := σ) (L' := [some (.int 5), some (.int 4), some (.int 5), some (.int 0)]) (st' := [.int 5, .ref 106]) (g_c dX7_isUnder_29 g_n) rfl rfl ?_
  refine V_aldU C (v := 1) (vp_in_nI (n := 5) (N := 6) (by decide) (by decide)) (by decide) dX7_isUnder_30 ?_
  refine V_blk C (pc' := 35) (σ' := σ) (L' := [some (.int 5), some (.int 4), some (.int 1), some (.int 1)]) (st' := []) (g_c dX7_isUnder_31 (g_c dX7_isUnder_32 g_n)) rfl rfl ?_
  refine V_goto C (tgt := 4) dX7_isUnder_35 (by decide) ?_
  refine V_blk C (pc' := 5) (σ' := σ) (L' := [some (.int 5), some (.int 4), some (.int 1), some (.int 1)]) (st' := [.int 1]) (g_c dX7_isUnder_4 g_n) rfl rfl ?_
  refine V_gsU C dX7_isUnder_5 ?_
  refine V_alenU C dX7_isUnder_8 ?_
  refine V_icmp_ge2 C (tgt := 38) dX7_isUnder_9 (by decide) (fun z => absurd z (by decide)) (fun _ => ?_)
  refine V_blk C (pc' := 13) (σ' := σ) (L' := [some (.int 5), some (.int 4), some (.int 1), some (.int 1)]) (st' := [.int 1]) (g_c dX7_isUnder_12 g_n) rfl rfl ?_
  refine V_callSI C cs_X7_116 (c_X7_isKind σ 1) (by decide) (by decide) (fun _ h => h) (As := [.int 1]) (rest := []) rfl rfl (Nat.le_of_ble_eq_true rfl) dX7_isUnder_13 ?_
  refine V_if_eq_b C (tgt := 38) dX7_isUnder_16 (by decide) (fun z => absurd (by decide) z) (fun _ => ?_)
  refine V_blk C (pc' := 21) (σ' := σ) (L' := [some (.int 5), some (.int 4), some (.int 1), some (.int 1)]) (st' := [.int 4, .int 1]) (g_c dX7_isUnder_19 (g_c dX7_isUnder_20 g_n)) rfl rfl ?_
  refine V_icmp_ne C (tgt := 26) dX7_isUnder_21 (by decide) (fun _ => ?_) (fun z => absurd z (by decide))
  refine V_gsU C dX7_isUnder_26 ?_
  refine V_blk C (pc' := 30) (σ' := σ) (L' := [some (.int 5), some (.int 4), some (.int 1), some (.int 1)]) (st' := [.int 1, .ref 106]) (g_c dX7_isUnder_29 g_n) rfl rfl ?_
  refine V_aldU C (v := 0) (vp_in_nI (n := 1) (N := 6) (by decide) (by decide)) (by decide) dX7_isUnder_30 ?_
  refine V_blk C (pc' := 35) (σ' := σ) (L' := [some (.int 5), some (.int 4), some (.int 0), some (.int 2)]) (st' := []) (g_c dX7_isUnder_31 (g_c dX7_isUnder_32 g_n)) rfl rfl ?_
  refine V_goto C (tgt := 4) dX7_isUnder_35 (by decide) ?_
  refine V_blk C (pc' := 5) (σ' := σ) (L' := [some (.int 5), some (.int 4), some (.int 0), some (.int 2)]) (st' := [.int 2]) (g_c dX7_isUnder_4 g_n) rfl rfl ?_
  refine V_gsU C dX7_isUnder_5 ?_
  refine V_alenU C dX7_isUnder_8 ?_
  refine V_icmp_ge2 C (tgt := 38) dX7_isUnder_9 (by decide) (fun z => absurd z (by decide)) (fun _ => ?_)
  refine V_blk C (pc' := 13) (σ' := σ) (L' := [some (.int 5), some (.int 4), some (.int 0), some (.int 2)]) (st' := [.int 0]) (g_c dX7_isUnder_12 g_n) rfl rfl ?_
  refine V_callSI C cs_X7_116 (c_X7_isKind σ 0) (by decide) (by decide) (fun _ h => h) (As := [.int 0]) (rest := []) rfl rfl (Nat.le_of_ble_eq_true rfl) dX7_isUnder_13 ?_
  refine V_if_eq_b C (tgt := 38) dX7_isUnder_16 (by decide) (fun z => absurd (by decide) z) (fun _ => ?_)
  refine V_blk C (pc' := 21) (σ' := σ) (L' := [some (.int 5), some (.int 4), some (.int 0), some (.int 2)]) (st' := [.int 4, .int 0]) (g_c dX7_isUnder_19 (g_c dX7_isUnder_20 g_n)) rfl rfl ?_
  refine V_icmp_ne C (tgt := 26) dX7_isUnder_21 (by decide) (fun _ => ?_) (fun z => absurd z (by decide))
  refine V_gsU C dX7_isUnder_26 ?_
  refine V_blk C (pc' := 30) (σ' := σ) (L' := [some (.int 5), some (.int 4), some (.int 0), some (.int 2)]) (st' := [.int 0, .ref 106]) (g_c dX7_isUnder_29 g_n) rfl rfl ?_
  refine V_aldU C (v := (-1)) (vp_in_nI (n := 0) (N := 6) (by decide) (by decide)) (by decide) dX7_isUnder_30 ?_
  refine V_blk C (pc' := 35) (σ' := σ) (L' := [some (.int 5), some (.int 4), some (.int (-1)), some (.int 3)]) (st' := []) (g_c dX7_isUnder_31 (g_c dX7_isUnder_32 g_n)) rfl rfl ?_
  refine V_goto C (tgt := 4) dX7_isUnder_35 (by decide) ?_
  refine V_blk C (pc' := 5) (σ' := σ) (L' := [some (.int 5), some (.int 4), some (.int (-1)), some (.int 3)]) (st' := [.int 3]) (g_c dX7_isUnder_4 g_n) rfl rfl ?_
  refine V_gsU C dX7_isUnder_5 ?_
  refine V_alenU C dX7_isUnder_8 ?_
  refine V_icmp_ge2 C (tgt := 38) dX7_isUnder_9 (by decide) (fun z => absurd z (by decide)) (fun _ => ?_)
  refine V_blk C (pc' := 13) (σ' := σ) (L' := [some (.int 5), some (.int 4), some (.int (-1)), some (.int 3)]) (st' := [.int (-1)]) (g_c dX7_isUnder_12 g_n) rfl rfl ?_
  refine V_callSI C cs_X7_116 (c_X7_isKind σ (-1)) (by decide) (by decide) (fun _ h => h) (As := [.int (-1)]) (rest := []) rfl rfl (Nat.le_of_ble_eq_true rfl) dX7_isUnder_13 ?_
  refine V_if_eq_b C (tgt := 38) dX7_isUnder_16 (by decide) (fun _ => ?_) (fun z => absurd z (by decide))
  refine V_blk C (pc' := 39) (σ' := σ) (L' := [some (.int 5), some (.int 4), some (.int (-1)), some (.int 3)]) (st' := [.int 0]) (g_c dX7_isUnder_38 g_n) rfl rfl ?_
  refine V_zret C (by decide) dX7_isUnder_39 ?_
  exact ⟨rfl, rfl⟩
set_option maxHeartbeats 4000000 in
set_option maxRecDepth 100000 in
theorem c_X7_isUnder_5_5 (σ : gS) : g_Met yX7_isUnder cX7_isUnder 4 (some .boolean) 3 kX [.int 5, .int 5] σ (fun rv s => rv = some (.int 1) ∧ s = σ) := by
  refine g_Met.of (own := 7) (L := [some (.int 5), some (.int 5), none, none]) (by decide) rfl rfl (fun ad => Nat.le_of_ble_eq_true rfl) (fun ad => rfl) (fun X G K C => ?_)
  refine V_blk C (pc' := 5) (σ' := σ) (L' := [some (.int 5), some (.int 5), some (.int 5), some (.int 0)]) (st' := [.int 0]) (g_c dX7_isUnder_0 (g_c dX7_isUnder_1 (g_c dX7_isUnder_2 (g_c dX7_isUnder_3 (g_c dX7_isUnder_4 g_n))))) rfl rfl ?_
  refine V_gsU C dX7_isUnder_5 ?_
  refine V_alenU C dX7_isUnder_8 ?_
  refine V_icmp_ge2 C (tgt := 38) dX7_isUnder_9 (by decide) (fun z => absurd z (by decide)) (fun _ => ?_)
  refine V_blk C (pc' := 13) (σ' := σ) (L' := [some (.int 5), some (.int 5), some (.int 5), some (.int 0)]) (st' := [.int 5]) (g_c dX7_isUnder_12 g_n) rfl rfl ?_
  refine V_callSI C cs_X7_116 (c_X7_isKind σ 5) (by decide) (by decide) (fun _ h => h) (As := [.int 5]) (rest := []) rfl rfl (Nat.le_of_ble_eq_true rfl) dX7_isUnder_13 ?_
  refine V_if_eq_b C (tgt := 38) dX7_isUnder_16 (by decide) (fun z => absurd (by decide) z) (fun _ => ?_)
  refine V_blk C (pc' := 21) (σ' := σ) (L' := [some (.int 5), some (.int 5), some (.int 5), some (.int 0)]) (st' := [.int 5, .int 5]) (g_c dX7_isUnder_19 (g_c dX7_isUnder_20 g_n)) rfl rfl ?_
  refine V_icmp_ne C (tgt := 26) dX7_isUnder_21 (by decide) (fun z => absurd z (by decide)) (fun _ => ?_)
  refine V_blk C (pc' := 25) (σ' := σ) (L' := [some (.int 5), some (.int 5), some (.int 5), some (.int 0)]) (st' := [.int 1]) (g_c dX7_isUnder_24 g_n) rfl rfl ?_
  refine V_zret C (by decide) dX7_isUnder_25 ?_
  exact ⟨rfl, rfl⟩
set_option maxHeartbeats 4000000 in
set_option maxRecDepth 100000 in
theorem c_X8_over_0 {KR : Nat → Bool} (σ : gS) : g_Met yX8_over cX8_over 1 (some .int) 1 KR [.int 0] σ (fun rv s => rv = some (.int (-1)) ∧ s = σ) := by
  refine g_Met.of (own := 8) (L := [some (.int 0)]) (by decide) rfl rfl (fun ad => Nat.le_of_ble_eq_true rfl) (fun ad => rfl) (fun X G K C => ?_)
  refine V_blk C (pc' := 1) (σ' := σ) (L' := [some (.int 0)]) (st' := [.int 0]) (g_c dX8_over_0 g_n) rfl rfl ?_
  refine V_if_ne C (tgt := 8) dX8_over_1 (by decide) (fun z => absurd z (by decide)) (fun _ => ?_)
  refine V_blk C (pc' := 5) (σ' := σ) (L' := [some (.int 0)]) (st' := [.int (-1)]) (g_c dX8_over_4 g_n) rfl rfl ?_
  refine V_goto C (tgt := 32) dX8_over_5 (by decide) ?_
  refine V_iret C dX8_over_32 ?_
  exact ⟨rfl, rfl⟩
set_option maxHeartbeats 4000000 in
set_option maxRecDepth 100000 in
theorem c_X8_over_1 {KR : Nat → Bool} (σ : gS) : g_Met yX8_over cX8_over 1 (some .int) 1 KR [.int 1] σ (fun rv s => rv = some (.int 0) ∧ s = σ) := by
  refine g_Met.of (own := 8) (L := [some (.int 1)]) (by decide) rfl rfl (fun ad => Nat.le_of_ble_eq_true rfl) (fun ad => rfl) (fun X G K C => ?_)
  refine V_blk C (pc' := 1) (σ' := σ) (L' := [some (.int 1)]) (st' := [.int 1]) (g_c dX8_over_0 g_n) rfl rfl ?_
  refine V_if_ne C (tgt := 8) dX8_over_1 (by decide) (fun _ => ?_) (fun z => absurd z (by decide))
  refine V_blk C (pc' := 10) (σ' := σ) (L' := [some (.int 1)]) (st' := [.int 4, .int 1]) (g_c dX8_over_8 (g_c dX8_over_9 g_n)) rfl rfl ?_
  refine V_icmp_ne C (tgt := 17) dX8_over_10 (by decide) (fun _ => ?_) (fun z => absurd z (by decide))
  refine V_blk C (pc' := 19) (σ' := σ) (L' := [some (.int 1)]) (st' := [.int 3, .int 1]) (g_c dX8_over_17 (g_c dX8_over_18 g_n)) rfl rfl ?_
  refine V_icmp_eq C (tgt := 27) dX8_over_19 (by decide) (fun z => absurd z (by decide)) (fun _ => ?_)
  refine V_blk C (pc' := 24) (σ' := σ) (L' := [some (.int 1)]) (st' := [.int 5, .int 1]) (g_c dX8_over_22 (g_c dX8_over_23 g_n)) rfl rfl ?_
  refine V_icmp_ne C (tgt := 31) dX8_over_24 (by decide) (fun _ => ?_) (fun z => absurd z (by decide))
  refine V_blk C (pc' := 32) (σ' := σ) (L' := [some (.int 1)]) (st' := [.int 0]) (g_c dX8_over_31 g_n) rfl rfl ?_
  refine V_iret C dX8_over_32 ?_
  exact ⟨rfl, rfl⟩
set_option maxHeartbeats 4000000 in
set_option maxRecDepth 100000 in
theorem c_X8_over_2 {KR : Nat → Bool} (σ : gS) : g_Met yX8_over cX8_over 1 (some .int) 1 KR [.int 2] σ (fun rv s => rv = some (.int 0) ∧ s = σ) := by
  refine g_Met.of (own := 8) (L := [some (.int 2)]) (by decide) rfl rfl (fun ad => Nat.le_of_ble_eq_true rfl) (fun ad => rfl) (fun X G K C => ?_)
  refine V_blk C (pc' := 1) (σ' := σ) (L' := [some (.int 2)]) (st' := [.int 2]) (g_c dX8_over_0 g_n) rfl rfl ?_
  refine V_if_ne C (tgt := 8) dX8_over_1 (by decide) (fun _ => ?_) (fun z => absurd z (by decide))
  refine V_blk C (pc' := 10) (σ' := σ) (L' := [some (.int 2)]) (st' := [.int 4, .int 2]) (g_c dX8_over_8 (g_c dX8_over_9 g_n)) rfl rfl ?_
  refine V_icmp_ne C (tgt := 17) dX8_over_10 (by decide) (fun _ => ?_) (fun z => absurd z (by decide))
  refine V_blk C (pc' := 19) (σ' := σ) (L' := [some (.int 2)]) (st' := [.int 3, .int 2]) (g_c dX8_over_17 (g_c dX8_over_18 g_n)) rfl rfl ?_
  refine V_icmp_eq C (tgt := 27) dX8_over_19 (by decide) (fun z => absurd z (by decide)) (fun _ => ?_)
  refine V_blk C (pc' := 24) (σ' := σ) (L' := [some (.int 2)]) (st' := [.int 5, .int 2]) (g_c dX8_over_22 (g_c dX8_over_23 g_n)) rfl rfl ?_
  refine V_icmp_ne C (tgt := 31) dX8_over_24 (by decide) (fun _ => ?_) (fun z => absurd z (by decide))
  refine V_blk C (pc' := 32) (σ' := σ) (L' := [some (.int 2)]) (st' := [.int 0]) (g_c dX8_over_31 g_n) rfl rfl ?_
  refine V_iret C dX8_over_32 ?_
  exact ⟨rfl, rfl⟩
set_option maxHeartbeats 4000000 in
set_option maxRecDepth 100000 in
theorem c_X8_over_3 {KR : Nat → Bool} (σ : gS) : g_Met yX8_over cX8_over 1 (some .int) 1 KR [.int 3] σ (fun rv s => rv = some (.int 1) ∧ s = σ) := by
  refine g_Met.of (own := 8) (L := [some (.int 3)]) (by decide) rfl rfl (fun ad => Nat.le_of_ble_eq_true rfl) (fun ad => rfl) (fun X G K C => ?_)
  refine V_blk C (pc' := 1) (σ' := σ) (L' := [some (.int 3)]) (st' := [.int 3]) (g_c dX8_over_0 g_n) rfl rfl ?_
  refine V_if_ne C (tgt := 8) dX8_over_1 (by decide) (fun _ => ?_) (fun z => absurd z (by decide))
  refine V_blk C (pc' := 10) (σ' := σ) (L' := [some (.int 3)]) (st' := [.int 4, .int 3]) (g_c dX8_over_8 (g_c dX8_over_9 g_n)) rfl rfl ?_
  refine V_icmp_ne C (tgt := 17) dX8_over_10 (by decide) (fun _ => ?_) (fun z => absurd z (by decide))
  refine V_blk C (pc' := 19) (σ' := σ) (L' := [some (.int 3)]) (st' := [.int 3, .int 3]) (g_c dX8_over_17 (g_c dX8_over_18 g_n)) rfl rfl ?_
  refine V_icmp_eq C (tgt := 27) dX8_over_19 (by decide) (fun _ => ?_) (fun z => absurd z (by decide))
  refine V_blk C (pc' := 28) (σ' := σ) (L' := [some (.int 3)]) (st' := [.int 1]) (g_c dX8_over_27 g_n) rfl rfl ?_
  refine V_goto C (tgt := 32) dX8_over_28 (by decide) ?_
  refine V_iret C dX8_over_32 ?_
  exact ⟨rfl, rfl⟩
set_option maxHeartbeats 4000000 in
set_option maxRecDepth 100000 in
theorem c_X8_over_4 {KR : Nat → Bool} (σ : gS) : g_Met yX8_over cX8_over 1 (some .int) 1 KR [.int 4] σ (fun rv s => rv = some (.int 2) ∧ s = σ) := by
  refine g_Met.of (own := 8) (L := [some (.int 4)]) (by decide) rfl rfl (fun ad => Nat.le_of_ble_eq_true rfl) (fun ad => rfl) (fun X G K C => ?_)
  refine V_blk C (pc' := 1) (σ' := σ) (L' := [some (.int 4)]) (st' := [.int 4]) (g_c dX8_over_0 g_n) rfl rfl ?_
  refine V_if_ne C (tgt := 8) dX8_over_1 (by decide) (fun _ => ?_) (fun z => absurd z (by decide))
  refine V_blk C (pc' := 10) (σ' := σ) (L' := [some (.int 4)]) (st' := [.int 4, .int 4]) (g_c dX8_over_8 (g_c dX8_over_9 g_n)) rfl rfl ?_
  refine V_icmp_ne C (tgt := 17) dX8_over_10 (by decide) (fun z => absurd z (by decide)) (fun _ => ?_)
  refine V_blk C (pc' := 14) (σ' := σ) (L' := [some (.int 4)]) (st' := [.int 2]) (g_c dX8_over_13 g_n) rfl rfl ?_
  refine V_goto C (tgt := 32) dX8_over_14 (by decide) ?_
  refine V_iret C dX8_over_32 ?_
  exact ⟨rfl, rfl⟩
set_option maxHeartbeats 4000000 in
set_option maxRecDepth 100000 in
theorem c_X8_over_5 {KR : Nat → Bool} (σ : gS) : g_Met yX8_over cX8_over 1 (some .int) 1 KR [.int 5] σ (fun rv s => rv = some (.int 1) ∧ s = σ) := by
  refine g_Met.of (own := 8) (L := [some (.int 5)]) (by decide) rfl rfl (fun ad => Nat.le_of_ble_eq_true rfl) (fun ad => rfl) (fun X G K C => ?_)
  refine V_blk C (pc' := 1) (σ' := σ) (L' := [some (.int 5)]) (st' := [.int 5]) (g_c dX8_over_0 g_n) rfl rfl ?_
  refine V_if_ne C (tgt := 8) dX8_over_1 (by decide) (fun _ => ?_) (fun z => absurd z (by decide))
  refine V_blk C (pc' := 10) (σ' := σ) (L' := [some (.int 5)]) (st' := [.int 4, .int 5]) (g_c dX8_over_8 (g_c dX8_over_9 g_n)) rfl rfl ?_
  refine V_icmp_ne C (tgt := 17) dX8_over_10 (by decide) (fun _ => ?_) (fun z => absurd z (by decide))
  refine V_blk C (pc' := 19) (σ' := σ) (L' := [some (.int 5)]) (st' := [.int 3, .int 5]) (g_c dX8_over_17 (g_c dX8_over_18 g_n)) rfl rfl ?_
  refine V_icmp_eq C (tgt := 27) dX8_over_19 (by decide) (fun z => absurd z (by decide)) (fun _ => ?_)
  refine V_blk C (pc' := 24) (σ' := σ) (L' := [some (.int 5)]) (st' := [.int 5, .int 5]) (g_c dX8_over_22 (g_c dX8_over_23 g_n)) rfl rfl ?_
  refine V_icmp_ne C (tgt := 31) dX8_over_24 (by decide) (fun z => absurd z (by decide)) (fun _ => ?_)
  refine V_blk C (pc' := 28) (σ' := σ) (L' := [some (.int 5)]) (st' := [.int 1]) (g_c dX8_over_27 g_n) rfl rfl ?_
  refine V_goto C (tgt := 32) dX8_over_28 (by decide) ?_
  refine V_iret C dX8_over_32 ?_
  exact ⟨rfl, rfl⟩
set_option maxHeartbeats 4000000 in
set_option maxRecDepth 100000 in
theorem c_X7_taken_0_0 (σ : gS) (d : Int32) {nd : Nat} (hd : σ 1 8 = nI nd) (hd6 : nd ≤ 6) (hx : σ 3 (ix d) = 0) : g_Met yX7_taken cX7_taken 3 (some .int) 4 kX [.ref 0, .int d, .int 0] σ (fun rv s => rv = some (.int (if g_in d 0 ((σ 1 8) - 1) then (σ 4 (ix d)) else (-11))) ∧ s = σ) := by
  refine g_Met.of (own := 7) (L := [some (.ref 0), some (.int d), some (.int 0)]) (by decide) rfl rfl (fun ad => Nat.le_of_ble_eq_true rfl) (fun ad => rfl) (fun X G K C => ?_)
  refine V_blk C (pc' := 1) (σ' := σ) (L' := [some (.ref 0), some (.int d), some (.int 0)]) (st' := [.int 0]) (g_c dX7_taken_0 g_n) rfl rfl ?_
  refine V_callSI C cs_X7_116 (c_X7_isKind σ 0) (by decide) (by decide) (fun _ h => h) (As := [.int 0]) (rest := []) rfl rfl (Nat.le_of_ble_eq_true rfl) dX7_taken_1 ?_
  refine V_if_ne_b C (tgt := 10) dX7_taken_4 (by decide) (fun _ => ?_) (fun z => absurd (by decide) z)
  refine V_blk C (pc' := 12) (σ' := σ) (L' := [some (.ref 0), some (.int d), some (.int 0)]) (st' := [.int d, .ref 0]) (g_c dX7_taken_10 (g_c dX7_taken_11 g_n)) rfl rfl ?_
  refine V_callVI C cv_X7_101 (c_X7_isDrip σ d) ⟨_, _, _, _, rfl, rfl⟩ (by rfl) (by decide) (by decide) (fun _ h => h) (As := [.int d]) (rest := []) rfl rfl (Nat.le_of_ble_eq_true rfl) dX7_taken_12 ?_
  refine V_if_ne_b C (tgt := 21) dX7_taken_15 (by decide) (fun h15 => ?_) (fun h15 => ?_)
  · skip
    refine V_blk C (pc' := 29) (σ' := σ) (L' := [some (.ref 0), some (.int d), some (.int 0)]) (st' := [.int d, .ref 3]) (g_c dX7_taken_21 (g_c dX7_taken_22 (g_c dX7_taken_25 (g_c dX7_taken_28 g_n)))) rfl rfl ?_
    refine V_iald C (k := 3) (n := 6) (by rfl) (by rfl) (g_vp h15 hd hd6 (by decide)) dX7_taken_29 ?_
    rw [show σ 3 (Int32.toNatClampNeg d) = 0 from hx]
    refine V_blk C (pc' := 31) (σ' := σ) (L' := [some (.ref 0), some (.int d), some (.int 0)]) (st' := [.int 0, .int 0]) (g_c dX7_taken_30 g_n) rfl rfl ?_
    refine V_callSI C cs_X7_287 (c_X7_isUnder_0_0 σ) (by decide) (by decide) (fun _ h => h) (As := [.int 0, .int 0]) (rest := []) rfl rfl (Nat.le_of_ble_eq_true rfl) dX7_taken_31 ?_
    refine V_if_eq C (tgt := 49) dX7_taken_34 (by decide) (fun z => absurd z (by decide)) (fun _ => ?_)
    refine V_blk C (pc' := 45) (σ' := σ) (L' := [some (.ref 0), some (.int d), some (.int 0)]) (st' := [.int d, .ref 4]) (g_c dX7_taken_37 (g_c dX7_taken_38 (g_c dX7_taken_41 (g_c dX7_taken_44 g_n)))) rfl rfl ?_
    refine V_iald C (k := 4) (n := 6) (by rfl) (by rfl) (g_vp h15 hd hd6 (by decide)) dX7_taken_45 ?_
    refine V_goto C (tgt := 51) dX7_taken_46 (by decide) ?_
    refine V_iret C dX7_taken_51 ?_
    exact ⟨by rw [if_pos h15], rfl⟩
  · skip
    refine V_blk C (pc' := 20) (σ' := σ) (L' := [some (.ref 0), some (.int d), some (.int 0)]) (st' := [.int (-11)]) (g_c dX7_taken_18 g_n) rfl rfl ?_
    refine V_iret C dX7_taken_20 ?_
    exact ⟨by rw [if_neg (fun z => h15 z)], rfl⟩
set_option maxHeartbeats 4000000 in
set_option maxRecDepth 100000 in
theorem c_X8_taken_0_0 (σ : gS) (d : Int32) {nd : Nat} (hd : σ 63 15 = nI nd) (hd6 : nd ≤ 6) (hx : σ 68 (ix d) = 0) : g_Met yX8_taken cX8_taken 4 (some .int) 4 kM [.ref 63, .int d, .int 0] σ (fun rv s => rv = some (.int (if g_in d 0 ((σ 63 15) - 1) then (σ 69 (ix d)) else (-11))) ∧ s = σ) := by
  refine g_Met.of (own := 8) (L := [some (.ref 63), some (.int d), some (.int 0), none]) (by decide) rfl rfl (fun ad => Nat.le_of_ble_eq_true rfl) (fun ad => rfl) (fun X G K C => ?_)
  refine V_blk C (pc' := 6) (σ' := σ) (L' := [some (.ref 63), some (.int d), some (.int 0), none]) (st' := [.long 5, .long 0, .long (Int32.toInt64 0)]) (g_c dX8_taken_0 (g_c dX8_taken_1 (g_c dX8_taken_2 (g_c dX8_taken_3 g_n)))) rfl rfl ?_
  refine V_callSI C cs_X8_110 (c_X8_in32 σ 0 0 5 (by decide) (by decide)) (by decide) (by decide) (fun _ h => h) (As := [.long (Int32.toInt64 0), .long 0, .long 5]) (rest := []) rfl rfl (Nat.le_of_ble_eq_true rfl) dX8_taken_6 ?_
  refine V_if_ne_b C (tgt := 15) dX8_taken_9 (by decide) (fun _ => ?_) (fun z => absurd (by decide) z)
  refine V_blk C (pc' := 17) (σ' := σ) (L' := [some (.ref 63), some (.int d), some (.int 0), none]) (st' := [.int d, .ref 63]) (g_c dX8_taken_15 (g_c dX8_taken_16 g_n)) rfl rfl ?_
  refine V_callVI C cv_X8_127 (c_X8_isDrip σ d) ⟨_, _, _, _, rfl, rfl⟩ (by rfl) (by decide) (by decide) (fun _ h => h) (As := [.int d]) (rest := []) rfl rfl (Nat.le_of_ble_eq_true rfl) dX8_taken_17 ?_
  refine V_if_ne_b C (tgt := 26) dX8_taken_20 (by decide) (fun h20 => ?_) (fun h20 => ?_)
  · skip
    refine V_blk C (pc' := 31) (σ' := σ) (L' := [some (.ref 63), some (.int d), some (.int 0), none]) (st' := [.int d, .ref 68]) (g_c dX8_taken_26 (g_c dX8_taken_27 (g_c dX8_taken_30 g_n))) rfl rfl ?_
    refine V_iald C (k := 68) (n := 6) (by rfl) (by rfl) (g_vp h20 hd hd6 (by decide)) dX8_taken_31 ?_
    rw [show σ 68 (Int32.toNatClampNeg d) = 0 from hx]
    refine V_blk C (pc' := 35) (σ' := σ) (L' := [some (.ref 63), some (.int d), some (.int 0), some (.int 0)]) (st' := [.int (-1), .int 0]) (g_c dX8_taken_32 (g_c dX8_taken_33 (g_c dX8_taken_34 g_n))) rfl rfl ?_
    refine V_icmp_eq C (tgt := 51) dX8_taken_35 (by decide) (fun z => absurd z (by decide)) (fun _ => ?_)
    refine V_blk C (pc' := 40) (σ' := σ) (L' := [some (.ref 63), some (.int d), some (.int 0), some (.int 0)]) (st' := [.int 0, .int 0]) (g_c dX8_taken_38 (g_c dX8_taken_39 g_n)) rfl rfl ?_
    refine V_icmp_eq C (tgt := 51) dX8_taken_40 (by decide) (fun _ => ?_) (fun z => absurd z (by decide))
    refine V_blk C (pc' := 53) (σ' := σ) (L' := [some (.ref 63), some (.int d), some (.int 0), some (.int 0)]) (st' := [.int 0, .int 0]) (g_c dX8_taken_51 (g_c dX8_taken_52 g_n)) rfl rfl ?_
    refine V_icmp_ne C (tgt := 65) dX8_taken_53 (by decide) (fun z => absurd z (by decide)) (fun _ => ?_)
    refine V_blk C (pc' := 61) (σ' := σ) (L' := [some (.ref 63), some (.int d), some (.int 0), some (.int 0)]) (st' := [.int d, .ref 69]) (g_c dX8_taken_56 (g_c dX8_taken_57 (g_c dX8_taken_60 g_n))) rfl rfl ?_
    refine V_iald C (k := 69) (n := 6) (by rfl) (by rfl) (g_vp h20 hd hd6 (by decide)) dX8_taken_61 ?_
    refine V_goto C (tgt := 67) dX8_taken_62 (by decide) ?_
    refine V_iret C dX8_taken_67 ?_
    exact ⟨by rw [if_pos h20], rfl⟩
  · skip
    refine V_blk C (pc' := 25) (σ' := σ) (L' := [some (.ref 63), some (.int d), some (.int 0), none]) (st' := [.int (-11)]) (g_c dX8_taken_23 g_n) rfl rfl ?_
    refine V_iret C dX8_taken_25 ?_
    exact ⟨by rw [if_neg (fun z => h20 z)], rfl⟩
set_option maxHeartbeats 4000000 in
set_option maxRecDepth 100000 in
theorem c_X7_taken_0_1 (σ : gS) (d : Int32) {nd : Nat} (hd : σ 1 8 = nI nd) (hd6 : nd ≤ 6) (hx : σ 3 (ix d) = 0) : g_Met yX7_taken cX7_taken 3 (some .int) 4 kX [.ref 0, .int d, .int 1] σ (fun rv s => rv = some (.int (if g_in d 0 ((σ 1 8) - 1) then (-13) else (-11))) ∧ s = σ) := by
  refine g_Met.of (own := 7) (L := [some (.ref 0), some (.int d), some (.int 1)]) (by decide) rfl rfl (fun ad => Nat.le_of_ble_eq_true rfl) (fun ad => rfl) (fun X G K C => ?_)
  refine V_blk C (pc' := 1) (σ' := σ) (L' := [some (.ref 0), some (.int d), some (.int 1)]) (st' := [.int 1]) (g_c dX7_taken_0 g_n) rfl rfl ?_
  refine V_callSI C cs_X7_116 (c_X7_isKind σ 1) (by decide) (by decide) (fun _ h => h) (As := [.int 1]) (rest := []) rfl rfl (Nat.le_of_ble_eq_true rfl) dX7_taken_1 ?_
  refine V_if_ne_b C (tgt := 10) dX7_taken_4 (by decide) (fun _ => ?_) (fun z => absurd (by decide) z)
  refine V_blk C (pc' := 12) (σ' := σ) (L' := [some (.ref 0), some (.int d), some (.int 1)]) (st' := [.int d, .ref 0]) (g_c dX7_taken_10 (g_c dX7_taken_11 g_n)) rfl rfl ?_
  refine V_callVI C cv_X7_101 (c_X7_isDrip σ d) ⟨_, _, _, _, rfl, rfl⟩ (by rfl) (by decide) (by decide) (fun _ h => h) (As := [.int d]) (rest := []) rfl rfl (Nat.le_of_ble_eq_true rfl) dX7_taken_12 ?_
  refine V_if_ne_b C (tgt := 21) dX7_taken_15 (by decide) (fun h15 => ?_) (fun h15 => ?_)
  · skip
    refine V_blk C (pc' := 29) (σ' := σ) (L' := [some (.ref 0), some (.int d), some (.int 1)]) (st' := [.int d, .ref 3]) (g_c dX7_taken_21 (g_c dX7_taken_22 (g_c dX7_taken_25 (g_c dX7_taken_28 g_n)))) rfl rfl ?_
    refine V_iald C (k := 3) (n := 6) (by rfl) (by rfl) (g_vp h15 hd hd6 (by decide)) dX7_taken_29 ?_
    rw [show σ 3 (Int32.toNatClampNeg d) = 0 from hx]
    refine V_blk C (pc' := 31) (σ' := σ) (L' := [some (.ref 0), some (.int d), some (.int 1)]) (st' := [.int 1, .int 0]) (g_c dX7_taken_30 g_n) rfl rfl ?_
    refine V_callSI C cs_X7_287 (c_X7_isUnder_0_1 σ) (by decide) (by decide) (fun _ h => h) (As := [.int 0, .int 1]) (rest := []) rfl rfl (Nat.le_of_ble_eq_true rfl) dX7_taken_31 ?_
    refine V_if_eq C (tgt := 49) dX7_taken_34 (by decide) (fun _ => ?_) (fun z => absurd z (by decide))
    refine V_blk C (pc' := 51) (σ' := σ) (L' := [some (.ref 0), some (.int d), some (.int 1)]) (st' := [.int (-13)]) (g_c dX7_taken_49 g_n) rfl rfl ?_
    refine V_iret C dX7_taken_51 ?_
    exact ⟨by rw [if_pos h15], rfl⟩
  · skip
    refine V_blk C (pc' := 20) (σ' := σ) (L' := [some (.ref 0), some (.int d), some (.int 1)]) (st' := [.int (-11)]) (g_c dX7_taken_18 g_n) rfl rfl ?_
    refine V_iret C dX7_taken_20 ?_
    exact ⟨by rw [if_neg (fun z => h15 z)], rfl⟩
set_option maxHeartbeats 4000000 in
set_option maxRecDepth 100000 in
theorem c_X8_taken_0_1 (σ : gS) (d : Int32) {nd : Nat} (hd : σ 63 15 = nI nd) (hd6 : nd ≤ 6) (hx : σ 68 (ix d) = 0) : g_Met yX8_taken cX8_taken 4 (some .int) 4 kM [.ref 63, .int d, .int 1] σ (fun rv s => rv = some (.int (if g_in d 0 ((σ 63 15) - 1) then (-13) else (-11))) ∧ s = σ) := by
  refine g_Met.of (own := 8) (L := [some (.ref 63), some (.int d), some (.int 1), none]) (by decide) rfl rfl (fun ad => Nat.le_of_ble_eq_true rfl) (fun ad => rfl) (fun X G K C => ?_)
  refine V_blk C (pc' := 6) (σ' := σ) (L' := [some (.ref 63), some (.int d), some (.int 1), none]) (st' := [.long 5, .long 0, .long (Int32.toInt64 1)]) (g_c dX8_taken_0 (g_c dX8_taken_1 (g_c dX8_taken_2 (g_c dX8_taken_3 g_n)))) rfl rfl ?_
  refine V_callSI C cs_X8_110 (c_X8_in32 σ 1 0 5 (by decide) (by decide)) (by decide) (by decide) (fun _ h => h) (As := [.long (Int32.toInt64 1), .long 0, .long 5]) (rest := []) rfl rfl (Nat.le_of_ble_eq_true rfl) dX8_taken_6 ?_
  refine V_if_ne_b C (tgt := 15) dX8_taken_9 (by decide) (fun _ => ?_) (fun z => absurd (by decide) z)
  refine V_blk C (pc' := 17) (σ' := σ) (L' := [some (.ref 63), some (.int d), some (.int 1), none]) (st' := [.int d, .ref 63]) (g_c dX8_taken_15 (g_c dX8_taken_16 g_n)) rfl rfl ?_
  refine V_callVI C cv_X8_127 (c_X8_isDrip σ d) ⟨_, _, _, _, rfl, rfl⟩ (by rfl) (by decide) (by decide) (fun _ h => h) (As := [.int d]) (rest := []) rfl rfl (Nat.le_of_ble_eq_true rfl) dX8_taken_17 ?_
  refine V_if_ne_b C (tgt := 26) dX8_taken_20 (by decide) (fun h20 => ?_) (fun h20 => ?_)
  · skip
    refine V_blk C (pc' := 31) (σ' := σ) (L' := [some (.ref 63), some (.int d), some (.int 1), none]) (st' := [.int d, .ref 68]) (g_c dX8_taken_26 (g_c dX8_taken_27 (g_c dX8_taken_30 g_n))) rfl rfl ?_
    refine V_iald C (k := 68) (n := 6) (by rfl) (by rfl) (g_vp h20 hd hd6 (by decide)) dX8_taken_31 ?_
    rw [show σ 68 (Int32.toNatClampNeg d) = 0 from hx]
    refine V_blk C (pc' := 35) (σ' := σ) (L' := [some (.ref 63), some (.int d), some (.int 1), some (.int 0)]) (st' := [.int (-1), .int 0]) (g_c dX8_taken_32 (g_c dX8_taken_33 (g_c dX8_taken_34 g_n))) rfl rfl ?_
    refine V_icmp_eq C (tgt := 51) dX8_taken_35 (by decide) (fun z => absurd z (by decide)) (fun _ => ?_)
    refine V_blk C (pc' := 40) (σ' := σ) (L' := [some (.ref 63), some (.int d), some (.int 1), some (.int 0)]) (st' := [.int 1, .int 0]) (g_c dX8_taken_38 (g_c dX8_taken_39 g_n)) rfl rfl ?_
    refine V_icmp_eq C (tgt := 51) dX8_taken_40 (by decide) (fun z => absurd z (by decide)) (fun _ => ?_)
    refine V_blk C (pc' := 44) (σ' := σ) (L' := [some (.ref 63), some (.int d), some (.int 1), some (.int 0)]) (st' := [.int 0]) (g_c dX8_taken_43 g_n) rfl rfl ?_
    refine V_callSI C cs_X8_396 (c_X8_over_0 σ) (by decide) (by decide) (fun _ h => h) (As := [.int 0]) (rest := []) rfl rfl (Nat.le_of_ble_eq_true rfl) dX8_taken_44 ?_
    refine V_blk C (pc' := 48) (σ' := σ) (L' := [some (.ref 63), some (.int d), some (.int 1), some (.int (-1))]) (st' := []) (g_c dX8_taken_47 g_n) rfl rfl ?_
    refine V_goto C (tgt := 33) dX8_taken_48 (by decide) ?_
    refine V_blk C (pc' := 35) (σ' := σ) (L' := [some (.ref 63), some (.int d), some (.int 1), some (.int (-1))]) (st' := [.int (-1), .int (-1)]) (g_c dX8_taken_33 (g_c dX8_taken_34 g_n)) rfl rfl ?_
    refine V_icmp_eq C (tgt := 51) dX8_taken_35 (by decide) (fun _ => ?_) (fun z => absurd z (by decide))
    refine V_blk C (pc' := 53) (σ' := σ) (L' := [some (.ref 63), some (.int d), some (.int 1), some (.int (-1))]) (st' := [.int 1, .int (-1)]) (g_c dX8_taken_51 (g_c dX8_taken_52 g_n)) rfl rfl ?_
    refine V_icmp_ne C (tgt := 65) dX8_taken_53 (by decide) (fun _ => ?_) (fun z => absurd z (by decide))
    refine V_blk C (pc' := 67) (σ' := σ) (L' := [some (.ref 63), some (.int d), some (.int 1), some (.int (-1))]) (st' := [.int (-13)]) (g_c dX8_taken_65 g_n) rfl rfl ?_
    refine V_iret C dX8_taken_67 ?_
    exact ⟨by rw [if_pos h20], rfl⟩
  · skip
    refine V_blk C (pc' := 25) (σ' := σ) (L' := [some (.ref 63), some (.int d), some (.int 1), none]) (st' := [.int (-11)]) (g_c dX8_taken_23 g_n) rfl rfl ?_
    refine V_iret C dX8_taken_25 ?_
    exact ⟨by rw [if_neg (fun z => h20 z)], rfl⟩
set_option maxHeartbeats 4000000 in
set_option maxRecDepth 100000 in
theorem c_X7_taken_0_2 (σ : gS) (d : Int32) {nd : Nat} (hd : σ 1 8 = nI nd) (hd6 : nd ≤ 6) (hx : σ 3 (ix d) = 0) : g_Met yX7_taken cX7_taken 3 (some .int) 4 kX [.ref 0, .int d, .int 2] σ (fun rv s => rv = some (.int (if g_in d 0 ((σ 1 8) - 1) then (-13) else (-11))) ∧ s = σ) := by
  refine g_Met.of (own := 7) (L := [some (.ref 0), some (.int d), some (.int 2)]) (by decide) rfl rfl (fun ad => Nat.le_of_ble_eq_true rfl) (fun ad => rfl) (fun X G K C => ?_)
  refine V_blk C (pc' := 1) (σ' := σ) (L' := [some (.ref 0), some (.int d), some (.int 2)]) (st' := [.int 2]) (g_c dX7_taken_0 g_n) rfl rfl ?_
  refine V_callSI C cs_X7_116 (c_X7_isKind σ 2) (by decide) (by decide) (fun _ h => h) (As := [.int 2]) (rest := []) rfl rfl (Nat.le_of_ble_eq_true rfl) dX7_taken_1 ?_
  refine V_if_ne_b C (tgt := 10) dX7_taken_4 (by decide) (fun _ => ?_) (fun z => absurd (by decide) z)
  refine V_blk C (pc' := 12) (σ' := σ) (L' := [some (.ref 0), some (.int d), some (.int 2)]) (st' := [.int d, .ref 0]) (g_c dX7_taken_10 (g_c dX7_taken_11 g_n)) rfl rfl ?_
  refine V_callVI C cv_X7_101 (c_X7_isDrip σ d) ⟨_, _, _, _, rfl, rfl⟩ (by rfl) (by decide) (by decide) (fun _ h => h) (As := [.int d]) (rest := []) rfl rfl (Nat.le_of_ble_eq_true rfl) dX7_taken_12 ?_
  refine V_if_ne_b C (tgt := 21) dX7_taken_15 (by decide) (fun h15 => ?_) (fun h15 => ?_)
  · skip
    refine V_blk C (pc' := 29) (σ' := σ) (L' := [some (.ref 0), some (.int d), some (.int 2)]) (st' := [.int d, .ref 3]) (g_c dX7_taken_21 (g_c dX7_taken_22 (g_c dX7_taken_25 (g_c dX7_taken_28 g_n)))) rfl rfl ?_
    refine V_iald C (k := 3) (n := 6) (by rfl) (by rfl) (g_vp h15 hd hd6 (by decide)) dX7_taken_29 ?_
    rw [show σ 3 (Int32.toNatClampNeg d) = 0 from hx]
    refine V_blk C (pc' := 31) (σ' := σ) (L' := [some (.ref 0), some (.int d), some (.int 2)]) (st' := [.int 2, .int 0]) (g_c dX7_taken_30 g_n) rfl rfl ?_
    refine V_callSI C cs_X7_287 (c_X7_isUnder_0_2 σ) (by decide) (by decide) (fun _ h => h) (As := [.int 0, .int 2]) (rest := []) rfl rfl (Nat.le_of_ble_eq_true rfl) dX7_taken_31 ?_
    refine V_if_eq C (tgt := 49) dX7_taken_34 (by decide) (fun _ => ?_) (fun z => absurd z (by decide))
    refine V_blk C (pc' := 51) (σ' := σ) (L' := [some (.ref 0), some (.int d), some (.int 2)]) (st' := [.int (-13)]) (g_c dX7_taken_49 g_n) rfl rfl ?_
    refine V_iret C dX7_taken_51 ?_
    exact ⟨by rw [if_pos h15], rfl⟩
  · skip
    refine V_blk C (pc' := 20) (σ' := σ) (L' := [some (.ref 0), some (.int d), some (.int 2)]) (st' := [.int (-11)]) (g_c dX7_taken_18 g_n) rfl rfl ?_
    refine V_iret C dX7_taken_20 ?_
    exact ⟨by rw [if_neg (fun z => h15 z)], rfl⟩
set_option maxHeartbeats 4000000 in
set_option maxRecDepth 100000 in
theorem c_X8_taken_0_2 (σ : gS) (d : Int32) {nd : Nat} (hd : σ 63 15 = nI nd) (hd6 : nd ≤ 6) (hx : σ 68 (ix d) = 0) : g_Met yX8_taken cX8_taken 4 (some .int) 4 kM [.ref 63, .int d, .int 2] σ (fun rv s => rv = some (.int (if g_in d 0 ((σ 63 15) - 1) then (-13) else (-11))) ∧ s = σ) := by
  refine g_Met.of (own := 8) (L := [some (.ref 63), some (.int d), some (.int 2), none]) (by decide) rfl rfl (fun ad => Nat.le_of_ble_eq_true rfl) (fun ad => rfl) (fun X G K C => ?_)
  refine V_blk C (pc' := 6) (σ' := σ) (L' := [some (.ref 63), some (.int d), some (.int 2), none]) (st' := [.long 5, .long 0, .long (Int32.toInt64 2)]) (g_c dX8_taken_0 (g_c dX8_taken_1 (g_c dX8_taken_2 (g_c dX8_taken_3 g_n)))) rfl rfl ?_
  refine V_callSI C cs_X8_110 (c_X8_in32 σ 2 0 5 (by decide) (by decide)) (by decide) (by decide) (fun _ h => h) (As := [.long (Int32.toInt64 2), .long 0, .long 5]) (rest := []) rfl rfl (Nat.le_of_ble_eq_true rfl) dX8_taken_6 ?_
  refine V_if_ne_b C (tgt := 15) dX8_taken_9 (by decide) (fun _ => ?_) (fun z => absurd (by decide) z)
  refine V_blk C (pc' := 17) (σ' := σ) (L' := [some (.ref 63), some (.int d), some (.int 2), none]) (st' := [.int d, .ref 63]) (g_c dX8_taken_15 (g_c dX8_taken_16 g_n)) rfl rfl ?_
  refine V_callVI C cv_X8_127 (c_X8_isDrip σ d) ⟨_, _, _, _, rfl, rfl⟩ (by rfl) (by decide) (by decide) (fun _ h => h) (As := [.int d]) (rest := []) rfl rfl (Nat.le_of_ble_eq_true rfl) dX8_taken_17 ?_
  refine V_if_ne_b C (tgt := 26) dX8_taken_20 (by decide) (fun h20 => ?_) (fun h20 => ?_)
  · skip
    refine V_blk C (pc' := 31) (σ' := σ) (L' := [some (.ref 63), some (.int d), some (.int 2), none]) (st' := [.int d, .ref 68]) (g_c dX8_taken_26 (g_c dX8_taken_27 (g_c dX8_taken_30 g_n))) rfl rfl ?_
    refine V_iald C (k := 68) (n := 6) (by rfl) (by rfl) (g_vp h20 hd hd6 (by decide)) dX8_taken_31 ?_
    rw [show σ 68 (Int32.toNatClampNeg d) = 0 from hx]
    refine V_blk C (pc' := 35) (σ' := σ) (L' := [some (.ref 63), some (.int d), some (.int 2), some (.int 0)]) (st' := [.int (-1), .int 0]) (g_c dX8_taken_32 (g_c dX8_taken_33 (g_c dX8_taken_34 g_n))) rfl rfl ?_
    refine V_icmp_eq C (tgt := 51) dX8_taken_35 (by decide) (fun z => absurd z (by decide)) (fun _ => ?_)
    refine V_blk C (pc' := 40) (σ' := σ) (L' := [some (.ref 63), some (.int d), some (.int 2), some (.int 0)]) (st' := [.int 2, .int 0]) (g_c dX8_taken_38 (g_c dX8_taken_39 g_n)) rfl rfl ?_
    refine V_icmp_eq C (tgt := 51) dX8_taken_40 (by decide) (fun z => absurd z (by decide)) (fun _ => ?_)
    refine V_blk C (pc' := 44) (σ' := σ) (L' := [some (.ref 63), some (.int d), some (.int 2), some (.int 0)]) (st' := [.int 0]) (g_c dX8_taken_43 g_n) rfl rfl ?_
    refine V_callSI C cs_X8_396 (c_X8_over_0 σ) (by decide) (by decide) (fun _ h => h) (As := [.int 0]) (rest := []) rfl rfl (Nat.le_of_ble_eq_true rfl) dX8_taken_44 ?_
    refine V_blk C (pc' := 48) (σ' := σ) (L' := [some (.ref 63), some (.int d), some (.int 2), some (.int (-1))]) (st' := []) (g_c dX8_taken_47 g_n) rfl rfl ?_
    refine V_goto C (tgt := 33) dX8_taken_48 (by decide) ?_
    refine V_blk C (pc' := 35) (σ' := σ) (L' := [some (.ref 63), some (.int d), some (.int 2), some (.int (-1))]) (st' := [.int (-1), .int (-1)]) (g_c dX8_taken_33 (g_c dX8_taken_34 g_n)) rfl rfl ?_
    refine V_icmp_eq C (tgt := 51) dX8_taken_35 (by decide) (fun _ => ?_) (fun z => absurd z (by decide))
    refine V_blk C (pc' := 53) (σ' := σ) (L' := [some (.ref 63), some (.int d), some (.int 2), some (.int (-1))]) (st' := [.int 2, .int (-1)]) (g_c dX8_taken_51 (g_c dX8_taken_52 g_n)) rfl rfl ?_
    refine V_icmp_ne C (tgt := 65) dX8_taken_53 (by decide) (fun _ => ?_) (fun z => absurd z (by decide))
    refine V_blk C (pc' := 67) (σ' := σ) (L' := [some (.ref 63), some (.int d), some (.int 2), some (.int (-1))]) (st' := [.int (-13)]) (g_c dX8_taken_65 g_n) rfl rfl ?_
    refine V_iret C dX8_taken_67 ?_
    exact ⟨by rw [if_pos h20], rfl⟩
  · skip
    refine V_blk C (pc' := 25) (σ' := σ) (L' := [some (.ref 63), some (.int d), some (.int 2), none]) (st' := [.int (-11)]) (g_c dX8_taken_23 g_n) rfl rfl ?_
    refine V_iret C dX8_taken_25 ?_
    exact ⟨by rw [if_neg (fun z => h20 z)], rfl⟩
set_option maxHeartbeats 4000000 in
set_option maxRecDepth 100000 in
theorem c_X7_taken_0_3 (σ : gS) (d : Int32) {nd : Nat} (hd : σ 1 8 = nI nd) (hd6 : nd ≤ 6) (hx : σ 3 (ix d) = 0) : g_Met yX7_taken cX7_taken 3 (some .int) 4 kX [.ref 0, .int d, .int 3] σ (fun rv s => rv = some (.int (if g_in d 0 ((σ 1 8) - 1) then (-13) else (-11))) ∧ s = σ) := by
  refine g_Met.of (own := 7) (L := [some (.ref 0), some (.int d), some (.int 3)]) (by decide) rfl rfl (fun ad => Nat.le_of_ble_eq_true rfl) (fun ad => rfl) (fun X G K C => ?_)
  refine V_blk C (pc' := 1) (σ' := σ) (L' := [some (.ref 0), some (.int d), some (.int 3)]) (st' := [.int 3]) (g_c dX7_taken_0 g_n) rfl rfl ?_
  refine V_callSI C cs_X7_116 (c_X7_isKind σ 3) (by decide) (by decide) (fun _ h => h) (As := [.int 3]) (rest := []) rfl rfl (Nat.le_of_ble_eq_true rfl) dX7_taken_1 ?_
  refine V_if_ne_b C (tgt := 10) dX7_taken_4 (by decide) (fun _ => ?_) (fun z => absurd (by decide) z)
  refine V_blk C (pc' := 12) (σ' := σ) (L' := [some (.ref 0), some (.int d), some (.int 3)]) (st' := [.int d, .ref 0]) (g_c dX7_taken_10 (g_c dX7_taken_11 g_n)) rfl rfl ?_
  refine V_callVI C cv_X7_101 (c_X7_isDrip σ d) ⟨_, _, _, _, rfl, rfl⟩ (by rfl) (by decide) (by decide) (fun _ h => h) (As := [.int d]) (rest := []) rfl rfl (Nat.le_of_ble_eq_true rfl) dX7_taken_12 ?_
  refine V_if_ne_b C (tgt := 21) dX7_taken_15 (by decide) (fun h15 => ?_) (fun h15 => ?_)
  · skip
    refine V_blk C (pc' := 29) (σ' := σ) (L' := [some (.ref 0), some (.int d), some (.int 3)]) (st' := [.int d, .ref 3]) (g_c dX7_taken_21 (g_c dX7_taken_22 (g_c dX7_taken_25 (g_c dX7_taken_28 g_n)))) rfl rfl ?_
    refine V_iald C (k := 3) (n := 6) (by rfl) (by rfl) (g_vp h15 hd hd6 (by decide)) dX7_taken_29 ?_
    rw [show σ 3 (Int32.toNatClampNeg d) = 0 from hx]
    refine V_blk C (pc' := 31) (σ' := σ) (L' := [some (.ref 0), some (.int d), some (.int 3)]) (st' := [.int 3, .int 0]) (g_c dX7_taken_30 g_n) rfl rfl ?_
    refine V_callSI C cs_X7_287 (c_X7_isUnder_0_3 σ) (by decide) (by decide) (fun _ h => h) (As := [.int 0, .int 3]) (rest := []) rfl rfl (Nat.le_of_ble_eq_true rfl) dX7_taken_31 ?_
    refine V_if_eq C (tgt := 49) dX7_taken_34 (by decide) (fun _ => ?_) (fun z => absurd z (by decide))
    refine V_blk C (pc' := 51) (σ' := σ) (L' := [some (.ref 0), some (.int d), some (.int 3)]) (st' := [.int (-13)]) (g_c dX7_taken_49 g_n) rfl rfl ?_
    refine V_iret C dX7_taken_51 ?_
    exact ⟨by rw [if_pos h15], rfl⟩
  · skip
    refine V_blk C (pc' := 20) (σ' := σ) (L' := [some (.ref 0), some (.int d), some (.int 3)]) (st' := [.int (-11)]) (g_c dX7_taken_18 g_n) rfl rfl ?_
    refine V_iret C dX7_taken_20 ?_
    exact ⟨by rw [if_neg (fun z => h15 z)], rfl⟩
set_option maxHeartbeats 4000000 in
set_option maxRecDepth 100000 in
theorem c_X8_taken_0_3 (σ : gS) (d : Int32) {nd : Nat} (hd : σ 63 15 = nI nd) (hd6 : nd ≤ 6) (hx : σ 68 (ix d) = 0) : g_Met yX8_taken cX8_taken 4 (some .int) 4 kM [.ref 63, .int d, .int 3] σ (fun rv s => rv = some (.int (if g_in d 0 ((σ 63 15) - 1) then (-13) else (-11))) ∧ s = σ) := by
  refine g_Met.of (own := 8) (L := [some (.ref 63), some (.int d), some (.int 3), none]) (by decide) rfl rfl (fun ad => Nat.le_of_ble_eq_true rfl) (fun ad => rfl) (fun X G K C => ?_)
  refine V_blk C (pc' := 6) (σ' := σ) (L' := [some (.ref 63), some (.int d), some (.int 3), none]) (st' := [.long 5, .long 0, .long (Int32.toInt64 3)]) (g_c dX8_taken_0 (g_c dX8_taken_1 (g_c dX8_taken_2 (g_c dX8_taken_3 g_n)))) rfl rfl ?_
  refine V_callSI C cs_X8_110 (c_X8_in32 σ 3 0 5 (by decide) (by decide)) (by decide) (by decide) (fun _ h => h) (As := [.long (Int32.toInt64 3), .long 0, .long 5]) (rest := []) rfl rfl (Nat.le_of_ble_eq_true rfl) dX8_taken_6 ?_
  refine V_if_ne_b C (tgt := 15) dX8_taken_9 (by decide) (fun _ => ?_) (fun z => absurd (by decide) z)
  refine V_blk C (pc' := 17) (σ' := σ) (L' := [some (.ref 63), some (.int d), some (.int 3), none]) (st' := [.int d, .ref 63]) (g_c dX8_taken_15 (g_c dX8_taken_16 g_n)) rfl rfl ?_
  refine V_callVI C cv_X8_127 (c_X8_isDrip σ d) ⟨_, _, _, _, rfl, rfl⟩ (by rfl) (by decide) (by decide) (fun _ h => h) (As := [.int d]) (rest := []) rfl rfl (Nat.le_of_ble_eq_true rfl) dX8_taken_17 ?_
  refine V_if_ne_b C (tgt := 26) dX8_taken_20 (by decide) (fun h20 => ?_) (fun h20 => ?_)
  · skip
    refine V_blk C (pc' := 31) (σ' := σ) (L' := [some (.ref 63), some (.int d), some (.int 3), none]) (st' := [.int d, .ref 68]) (g_c dX8_taken_26 (g_c dX8_taken_27 (g_c dX8_taken_30 g_n))) rfl rfl ?_
    refine V_iald C (k := 68) (n := 6) (by rfl) (by rfl) (g_vp h20 hd hd6 (by decide)) dX8_taken_31 ?_
    rw [show σ 68 (Int32.toNatClampNeg d) = 0 from hx]
    refine V_blk C (pc' := 35) (σ' := σ) (L' := [some (.ref 63), some (.int d), some (.int 3), some (.int 0)]) (st' := [.int (-1), .int 0]) (g_c dX8_taken_32 (g_c dX8_taken_33 (g_c dX8_taken_34 g_n))) rfl rfl ?_
    refine V_icmp_eq C (tgt := 51) dX8_taken_35 (by decide) (fun z => absurd z (by decide)) (fun _ => ?_)
    refine V_blk C (pc' := 40) (σ' := σ) (L' := [some (.ref 63), some (.int d), some (.int 3), some (.int 0)]) (st' := [.int 3, .int 0]) (g_c dX8_taken_38 (g_c dX8_taken_39 g_n)) rfl rfl ?_
    refine V_icmp_eq C (tgt := 51) dX8_taken_40 (by decide) (fun z => absurd z (by decide)) (fun _ => ?_)
    refine V_blk C (pc' := 44) (σ' := σ) (L' := [some (.ref 63), some (.int d), some (.int 3), some (.int 0)]) (st' := [.int 0]) (g_c dX8_taken_43 g_n) rfl rfl ?_
    refine V_callSI C cs_X8_396 (c_X8_over_0 σ) (by decide) (by decide) (fun _ h => h) (As := [.int 0]) (rest := []) rfl rfl (Nat.le_of_ble_eq_true rfl) dX8_taken_44 ?_
    refine V_blk C (pc' := 48) (σ' := σ) (L' := [some (.ref 63), some (.int d), some (.int 3), some (.int (-1))]) (st' := []) (g_c dX8_taken_47 g_n) rfl rfl ?_
    refine V_goto C (tgt := 33) dX8_taken_48 (by decide) ?_
    refine V_blk C (pc' := 35) (σ' := σ) (L' := [some (.ref 63), some (.int d), some (.int 3), some (.int (-1))]) (st' := [.int (-1), .int (-1)]) (g_c dX8_taken_33 (g_c dX8_taken_34 g_n)) rfl rfl ?_
    refine V_icmp_eq C (tgt := 51) dX8_taken_35 (by decide) (fun _ => ?_) (fun z => absurd z (by decide))
    refine V_blk C (pc' := 53) (σ' := σ) (L' := [some (.ref 63), some (.int d), some (.int 3), some (.int (-1))]) (st' := [.int 3, .int (-1)]) (g_c dX8_taken_51 (g_c dX8_taken_52 g_n)) rfl rfl ?_
    refine V_icmp_ne C (tgt := 65) dX8_taken_53 (by decide) (fun _ => ?_) (fun z => absurd z (by decide))
    refine V_blk C (pc' := 67) (σ' := σ) (L' := [some (.ref 63), some (.int d), some (.int 3), some (.int (-1))]) (st' := [.int (-13)]) (g_c dX8_taken_65 g_n) rfl rfl ?_
    refine V_iret C dX8_taken_67 ?_
    exact ⟨by rw [if_pos h20], rfl⟩
  · skip
    refine V_blk C (pc' := 25) (σ' := σ) (L' := [some (.ref 63), some (.int d), some (.int 3), none]) (st' := [.int (-11)]) (g_c dX8_taken_23 g_n) rfl rfl ?_
    refine V_iret C dX8_taken_25 ?_
    exact ⟨by rw [if_neg (fun z => h20 z)], rfl⟩
set_option maxHeartbeats 4000000 in
set_option maxRecDepth 100000 in
theorem c_X7_taken_0_4 (σ : gS) (d : Int32) {nd : Nat} (hd : σ 1 8 = nI nd) (hd6 : nd ≤ 6) (hx : σ 3 (ix d) = 0) : g_Met yX7_taken cX7_taken 3 (some .int) 4 kX [.ref 0, .int d, .int 4] σ (fun rv s => rv = some (.int (if g_in d 0 ((σ 1 8) - 1) then (-13) else (-11))) ∧ s = σ) := by
  refine g_Met.of (own := 7) (L := [some (.ref 0), some (.int d), some (.int 4)]) (by decide) rfl rfl (fun ad => Nat.le_of_ble_eq_true rfl) (fun ad => rfl) (fun X G K C => ?_)
  refine V_blk C (pc' := 1) (σ' := σ) (L' := [some (.ref 0), some (.int d), some (.int 4)]) (st' := [.int 4]) (g_c dX7_taken_0 g_n) rfl rfl ?_
  refine V_callSI C cs_X7_116 (c_X7_isKind σ 4) (by decide) (by decide) (fun _ h => h) (As := [.int 4]) (rest := []) rfl rfl (Nat.le_of_ble_eq_true rfl) dX7_taken_1 ?_
  refine V_if_ne_b C (tgt := 10) dX7_taken_4 (by decide) (fun _ => ?_) (fun z => absurd (by decide) z)
  refine V_blk C (pc' := 12) (σ' := σ) (L' := [some (.ref 0), some (.int d), some (.int 4)]) (st' := [.int d, .ref 0]) (g_c dX7_taken_10 (g_c dX7_taken_11 g_n)) rfl rfl ?_
  refine V_callVI C cv_X7_101 (c_X7_isDrip σ d) ⟨_, _, _, _, rfl, rfl⟩ (by rfl) (by decide) (by decide) (fun _ h => h) (As := [.int d]) (rest := []) rfl rfl (Nat.le_of_ble_eq_true rfl) dX7_taken_12 ?_
  refine V_if_ne_b C (tgt := 21) dX7_taken_15 (by decide) (fun h15 => ?_) (fun h15 => ?_)
  · skip
    refine V_blk C (pc' := 29) (σ' := σ) (L' := [some (.ref 0), some (.int d), some (.int 4)]) (st' := [.int d, .ref 3]) (g_c dX7_taken_21 (g_c dX7_taken_22 (g_c dX7_taken_25 (g_c dX7_taken_28 g_n)))) rfl rfl ?_
    refine V_iald C (k := 3) (n := 6) (by rfl) (by rfl) (g_vp h15 hd hd6 (by decide)) dX7_taken_29 ?_
    rw [show σ 3 (Int32.toNatClampNeg d) = 0 from hx]
    refine V_blk C (pc' := 31) (σ' := σ) (L' := [some (.ref 0), some (.int d), some (.int 4)]) (st' := [.int 4, .int 0]) (g_c dX7_taken_30 g_n) rfl rfl ?_
    refine V_callSI C cs_X7_287 (c_X7_isUnder_0_4 σ) (by decide) (by decide) (fun _ h => h) (As := [.int 0, .int 4]) (rest := []) rfl rfl (Nat.le_of_ble_eq_true rfl) dX7_taken_31 ?_
    refine V_if_eq C (tgt := 49) dX7_taken_34 (by decide) (fun _ => ?_) (fun z => absurd z (by decide))
    refine V_blk C (pc' := 51) (σ' := σ) (L' := [some (.ref 0), some (.int d), some (.int 4)]) (st' := [.int (-13)]) (g_c dX7_taken_49 g_n) rfl rfl ?_
    refine V_iret C dX7_taken_51 ?_
    exact ⟨by rw [if_pos h15], rfl⟩
  · skip
    refine V_blk C (pc' := 20) (σ' := σ) (L' := [some (.ref 0), some (.int d), some (.int 4)]) (st' := [.int (-11)]) (g_c dX7_taken_18 g_n) rfl rfl ?_
    refine V_iret C dX7_taken_20 ?_
    exact ⟨by rw [if_neg (fun z => h15 z)], rfl⟩
set_option maxHeartbeats 4000000 in
set_option maxRecDepth 100000 in
theorem c_X8_taken_0_4 (σ : gS) (d : Int32) {nd : Nat} (hd : σ 63 15 = nI nd) (hd6 : nd ≤ 6) (hx : σ 68 (ix d) = 0) : g_Met yX8_taken cX8_taken 4 (some .int) 4 kM [.ref 63, .int d, .int 4] σ (fun rv s => rv = some (.int (if g_in d 0 ((σ 63 15) - 1) then (-13) else (-11))) ∧ s = σ) := by
  refine g_Met.of (own := 8) (L := [some (.ref 63), some (.int d), some (.int 4), none]) (by decide) rfl rfl (fun ad => Nat.le_of_ble_eq_true rfl) (fun ad => rfl) (fun X G K C => ?_)
  refine V_blk C (pc' := 6) (σ' := σ) (L' := [some (.ref 63), some (.int d), some (.int 4), none]) (st' := [.long 5, .long 0, .long (Int32.toInt64 4)]) (g_c dX8_taken_0 (g_c dX8_taken_1 (g_c dX8_taken_2 (g_c dX8_taken_3 g_n)))) rfl rfl ?_
  refine V_callSI C cs_X8_110 (c_X8_in32 σ 4 0 5 (by decide) (by decide)) (by decide) (by decide) (fun _ h => h) (As := [.long (Int32.toInt64 4), .long 0, .long 5]) (rest := []) rfl rfl (Nat.le_of_ble_eq_true rfl) dX8_taken_6 ?_
  refine V_if_ne_b C (tgt := 15) dX8_taken_9 (by decide) (fun _ => ?_) (fun z => absurd (by decide) z)
  refine V_blk C (pc' := 17) (σ' := σ) (L' := [some (.ref 63), some (.int d), some (.int 4), none]) (st' := [.int d, .ref 63]) (g_c dX8_taken_15 (g_c dX8_taken_16 g_n)) rfl rfl ?_
  refine V_callVI C cv_X8_127 (c_X8_isDrip σ d) ⟨_, _, _, _, rfl, rfl⟩ (by rfl) (by decide) (by decide) (fun _ h => h) (As := [.int d]) (rest := []) rfl rfl (Nat.le_of_ble_eq_true rfl) dX8_taken_17 ?_
  refine V_if_ne_b C (tgt := 26) dX8_taken_20 (by decide) (fun h20 => ?_) (fun h20 => ?_)
  · skip
    refine V_blk C (pc' := 31) (σ' := σ) (L' := [some (.ref 63), some (.int d), some (.int 4), none]) (st' := [.int d, .ref 68]) (g_c dX8_taken_26 (g_c dX8_taken_27 (g_c dX8_taken_30 g_n))) rfl rfl ?_
    refine V_iald C (k := 68) (n := 6) (by rfl) (by rfl) (g_vp h20 hd hd6 (by decide)) dX8_taken_31 ?_
    rw [show σ 68 (Int32.toNatClampNeg d) = 0 from hx]
    refine V_blk C (pc' := 35) (σ' := σ) (L' := [some (.ref 63), some (.int d), some (.int 4), some (.int 0)]) (st' := [.int (-1), .int 0]) (g_c dX8_taken_32 (g_c dX8_taken_33 (g_c dX8_taken_34 g_n))) rfl rfl ?_
    refine V_icmp_eq C (tgt := 51) dX8_taken_35 (by decide) (fun z => absurd z (by decide)) (fun _ => ?_)
    refine V_blk C (pc' := 40) (σ' := σ) (L' := [some (.ref 63), some (.int d), some (.int 4), some (.int 0)]) (st' := [.int 4, .int 0]) (g_c dX8_taken_38 (g_c dX8_taken_39 g_n)) rfl rfl ?_
    refine V_icmp_eq C (tgt := 51) dX8_taken_40 (by decide) (fun z => absurd z (by decide)) (fun _ => ?_)
    refine V_blk C (pc' := 44) (σ' := σ) (L' := [some (.ref 63), some (.int d), some (.int 4), some (.int 0)]) (st' := [.int 0]) (g_c dX8_taken_43 g_n) rfl rfl ?_
    refine V_callSI C cs_X8_396 (c_X8_over_0 σ) (by decide) (by decide) (fun _ h => h) (As := [.int 0]) (rest := []) rfl rfl (Nat.le_of_ble_eq_true rfl) dX8_taken_44 ?_
    refine V_blk C (pc' := 48) (σ' := σ) (L' := [some (.ref 63), some (.int d), some (.int 4), some (.int (-1))]) (st' := []) (g_c dX8_taken_47 g_n) rfl rfl ?_
    refine V_goto C (tgt := 33) dX8_taken_48 (by decide) ?_
    refine V_blk C (pc' := 35) (σ' := σ) (L' := [some (.ref 63), some (.int d), some (.int 4), some (.int (-1))]) (st' := [.int (-1), .int (-1)]) (g_c dX8_taken_33 (g_c dX8_taken_34 g_n)) rfl rfl ?_
    refine V_icmp_eq C (tgt := 51) dX8_taken_35 (by decide) (fun _ => ?_) (fun z => absurd z (by decide))
    refine V_blk C (pc' := 53) (σ' := σ) (L' := [some (.ref 63), some (.int d), some (.int 4), some (.int (-1))]) (st' := [.int 4, .int (-1)]) (g_c dX8_taken_51 (g_c dX8_taken_52 g_n)) rfl rfl ?_
    refine V_icmp_ne C (tgt := 65) dX8_taken_53 (by decide) (fun _ => ?_) (fun z => absurd z (by decide))
    refine V_blk C (pc' := 67) (σ' := σ) (L' := [some (.ref 63), some (.int d), some (.int 4), some (.int (-1))]) (st' := [.int (-13)]) (g_c dX8_taken_65 g_n) rfl rfl ?_
    refine V_iret C dX8_taken_67 ?_
    exact ⟨by rw [if_pos h20], rfl⟩
  · skip
    refine V_blk C (pc' := 25) (σ' := σ) (L' := [some (.ref 63), some (.int d), some (.int 4), none]) (st' := [.int (-11)]) (g_c dX8_taken_23 g_n) rfl rfl ?_
    refine V_iret C dX8_taken_25 ?_
    exact ⟨by rw [if_neg (fun z => h20 z)], rfl⟩
set_option maxHeartbeats 4000000 in
set_option maxRecDepth 100000 in
theorem c_X7_taken_0_5 (σ : gS) (d : Int32) {nd : Nat} (hd : σ 1 8 = nI nd) (hd6 : nd ≤ 6) (hx : σ 3 (ix d) = 0) : g_Met yX7_taken cX7_taken 3 (some .int) 4 kX [.ref 0, .int d, .int 5] σ (fun rv s => rv = some (.int (if g_in d 0 ((σ 1 8) - 1) then (-13) else (-11))) ∧ s = σ) := by
  refine g_Met.of (own := 7) (L := [some (.ref 0), some (.int d), some (.int 5)]) (by decide) rfl rfl (fun ad => Nat.le_of_ble_eq_true rfl) (fun ad => rfl) (fun X G K C => ?_)
  refine V_blk C (pc' := 1) (σ' := σ) (L' := [some (.ref 0), some (.int d), some (.int 5)]) (st' := [.int 5]) (g_c dX7_taken_0 g_n) rfl rfl ?_
  refine V_callSI C cs_X7_116 (c_X7_isKind σ 5) (by decide) (by decide) (fun _ h => h) (As := [.int 5]) (rest := []) rfl rfl (Nat.le_of_ble_eq_true rfl) dX7_taken_1 ?_
  refine V_if_ne_b C (tgt := 10) dX7_taken_4 (by decide) (fun _ => ?_) (fun z => absurd (by decide) z)
  refine V_blk C (pc' := 12) (σ' := σ) (L' := [some (.ref 0), some (.int d), some (.int 5)]) (st' := [.int d, .ref 0]) (g_c dX7_taken_10 (g_c dX7_taken_11 g_n)) rfl rfl ?_
  refine V_callVI C cv_X7_101 (c_X7_isDrip σ d) ⟨_, _, _, _, rfl, rfl⟩ (by rfl) (by decide) (by decide) (fun _ h => h) (As := [.int d]) (rest := []) rfl rfl (Nat.le_of_ble_eq_true rfl) dX7_taken_12 ?_
  refine V_if_ne_b C (tgt := 21) dX7_taken_15 (by decide) (fun h15 => ?_) (fun h15 => ?_)
  · skip
    refine V_blk C (pc' := 29) (σ' := σ) (L' := [some (.ref 0), some (.int d), some (.int 5)]) (st' := [.int d, .ref 3]) (g_c dX7_taken_21 (g_c dX7_taken_22 (g_c dX7_taken_25 (g_c dX7_taken_28 g_n)))) rfl rfl ?_
    refine V_iald C (k := 3) (n := 6) (by rfl) (by rfl) (g_vp h15 hd hd6 (by decide)) dX7_taken_29 ?_
    rw [show σ 3 (Int32.toNatClampNeg d) = 0 from hx]
    refine V_blk C (pc' := 31) (σ' := σ) (L' := [some (.ref 0), some (.int d), some (.int 5)]) (st' := [.int 5, .int 0]) (g_c dX7_taken_30 g_n) rfl rfl ?_
    refine V_callSI C cs_X7_287 (c_X7_isUnder_0_5 σ) (by decide) (by decide) (fun _ h => h) (As := [.int 0, .int 5]) (rest := []) rfl rfl (Nat.le_of_ble_eq_true rfl) dX7_taken_31 ?_
    refine V_if_eq C (tgt := 49) dX7_taken_34 (by decide) (fun _ => ?_) (fun z => absurd z (by decide))
    refine V_blk C (pc' := 51) (σ' := σ) (L' := [some (.ref 0), some (.int d), some (.int 5)]) (st' := [.int (-13)]) (g_c dX7_taken_49 g_n) rfl rfl ?_
    refine V_iret C dX7_taken_51 ?_
    exact ⟨by rw [if_pos h15], rfl⟩
  · skip
    refine V_blk C (pc' := 20) (σ' := σ) (L' := [some (.ref 0), some (.int d), some (.int 5)]) (st' := [.int (-11)]) (g_c dX7_taken_18 g_n) rfl rfl ?_
    refine V_iret C dX7_taken_20 ?_
    exact ⟨by rw [if_neg (fun z => h15 z)], rfl⟩
set_option maxHeartbeats 4000000 in
set_option maxRecDepth 100000 in
theorem c_X8_taken_0_5 (σ : gS) (d : Int32) {nd : Nat} (hd : σ 63 15 = nI nd) (hd6 : nd ≤ 6) (hx : σ 68 (ix d) = 0) : g_Met yX8_taken cX8_taken 4 (some .int) 4 kM [.ref 63, .int d, .int 5] σ (fun rv s => rv = some (.int (if g_in d 0 ((σ 63 15) - 1) then (-13) else (-11))) ∧ s = σ) := by
  refine g_Met.of (own := 8) (L := [some (.ref 63), some (.int d), some (.int 5), none]) (by decide) rfl rfl (fun ad => Nat.le_of_ble_eq_true rfl) (fun ad => rfl) (fun X G K C => ?_)
  refine V_blk C (pc' := 6) (σ' := σ) (L' := [some (.ref 63), some (.int d), some (.int 5), none]) (st' := [.long 5, .long 0, .long (Int32.toInt64 5)]) (g_c dX8_taken_0 (g_c dX8_taken_1 (g_c dX8_taken_2 (g_c dX8_taken_3 g_n)))) rfl rfl ?_
  refine V_callSI C cs_X8_110 (c_X8_in32 σ 5 0 5 (by decide) (by decide)) (by decide) (by decide) (fun _ h => h) (As := [.long (Int32.toInt64 5), .long 0, .long 5]) (rest := []) rfl rfl (Nat.le_of_ble_eq_true rfl) dX8_taken_6 ?_
  refine V_if_ne_b C (tgt := 15) dX8_taken_9 (by decide) (fun _ => ?_) (fun z => absurd (by decide) z)
  refine V_blk C (pc' := 17) (σ' := σ) (L' := [some (.ref 63), some (.int d), some (.int 5), none]) (st' := [.int d, .ref 63]) (g_c dX8_taken_15 (g_c dX8_taken_16 g_n)) rfl rfl ?_
  refine V_callVI C cv_X8_127 (c_X8_isDrip σ d) ⟨_, _, _, _, rfl, rfl⟩ (by rfl) (by decide) (by decide) (fun _ h => h) (As := [.int d]) (rest := []) rfl rfl (Nat.le_of_ble_eq_true rfl) dX8_taken_17 ?_
  refine V_if_ne_b C (tgt := 26) dX8_taken_20 (by decide) (fun h20 => ?_) (fun h20 => ?_)
  · skip
    refine V_blk C (pc' := 31) (σ' := σ) (L' := [some (.ref 63), some (.int d), some (.int 5), none]) (st' := [.int d, .ref 68]) (g_c dX8_taken_26 (g_c dX8_taken_27 (g_c dX8_taken_30 g_n))) rfl rfl ?_
    refine V_iald C (k := 68) (n := 6) (by rfl) (by rfl) (g_vp h20 hd hd6 (by decide)) dX8_taken_31 ?_
    rw [show σ 68 (Int32.toNatClampNeg d) = 0 from hx]
    refine V_blk C (pc' := 35) (σ' := σ) (L' := [some (.ref 63), some (.int d), some (.int 5), some (.int 0)]) (st' := [.int (-1), .int 0]) (g_c dX8_taken_32 (g_c dX8_taken_33 (g_c dX8_taken_34 g_n))) rfl rfl ?_
    refine V_icmp_eq C (tgt := 51) dX8_taken_35 (by decide) (fun z => absurd z (by decide)) (fun _ => ?_)
    refine V_blk C (pc' := 40) (σ' := σ) (L' := [some (.ref 63), some (.int d), some (.int 5), some (.int 0)]) (st' := [.int 5, .int 0]) (g_c dX8_taken_38 (g_c dX8_taken_39 g_n)) rfl rfl ?_
    refine V_icmp_eq C (tgt := 51) dX8_taken_40 (by decide) (fun z => absurd z (by decide)) (fun _ => ?_)
    refine V_blk C (pc' := 44) (σ' := σ) (L' := [some (.ref 63), some (.int d), some (.int 5), some (.int 0)]) (st' := [.int 0]) (g_c dX8_taken_43 g_n) rfl rfl ?_
    refine V_callSI C cs_X8_396 (c_X8_over_0 σ) (by decide) (by decide) (fun _ h => h) (As := [.int 0]) (rest := []) rfl rfl (Nat.le_of_ble_eq_true rfl) dX8_taken_44 ?_
    refine V_blk C (pc' := 48) (σ' := σ) (L' := [some (.ref 63), some (.int d), some (.int 5), some (.int (-1))]) (st' := []) (g_c dX8_taken_47 g_n) rfl rfl ?_
    refine V_goto C (tgt := 33) dX8_taken_48 (by decide) ?_
    refine V_blk C (pc' := 35) (σ' := σ) (L' := [some (.ref 63), some (.int d), some (.int 5), some (.int (-1))]) (st' := [.int (-1), .int (-1)]) (g_c dX8_taken_33 (g_c dX8_taken_34 g_n)) rfl rfl ?_
    refine V_icmp_eq C (tgt := 51) dX8_taken_35 (by decide) (fun _ => ?_) (fun z => absurd z (by decide))
    refine V_blk C (pc' := 53) (σ' := σ) (L' := [some (.ref 63), some (.int d), some (.int 5), some (.int (-1))]) (st' := [.int 5, .int (-1)]) (g_c dX8_taken_51 (g_c dX8_taken_52 g_n)) rfl rfl ?_
    refine V_icmp_ne C (tgt := 65) dX8_taken_53 (by decide) (fun _ => ?_) (fun z => absurd z (by decide))
    refine V_blk C (pc' := 67) (σ' := σ) (L' := [some (.ref 63), some (.int d), some (.int 5), some (.int (-1))]) (st' := [.int (-13)]) (g_c dX8_taken_65 g_n) rfl rfl ?_
    refine V_iret C dX8_taken_67 ?_
    exact ⟨by rw [if_pos h20], rfl⟩
  · skip
    refine V_blk C (pc' := 25) (σ' := σ) (L' := [some (.ref 63), some (.int d), some (.int 5), none]) (st' := [.int (-11)]) (g_c dX8_taken_23 g_n) rfl rfl ?_
    refine V_iret C dX8_taken_25 ?_
    exact ⟨by rw [if_neg (fun z => h20 z)], rfl⟩
set_option maxHeartbeats 4000000 in
set_option maxRecDepth 100000 in
theorem c_X7_taken_1_0 (σ : gS) (d : Int32) {nd : Nat} (hd : σ 1 8 = nI nd) (hd6 : nd ≤ 6) (hx : σ 3 (ix d) = 1) : g_Met yX7_taken cX7_taken 3 (some .int) 4 kX [.ref 0, .int d, .int 0] σ (fun rv s => rv = some (.int (if g_in d 0 ((σ 1 8) - 1) then (σ 4 (ix d)) else (-11))) ∧ s = σ) := by
  refine g_Met.of (own := 7) (L := [some (.ref 0), some (.int d), some (.int 0)]) (by decide) rfl rfl (fun ad => Nat.le_of_ble_eq_true rfl) (fun ad => rfl) (fun X G K C => ?_)
  refine V_blk C (pc' := 1) (σ' := σ) (L' := [some (.ref 0), some (.int d), some (.int 0)]) (st' := [.int 0]) (g_c dX7_taken_0 g_n) rfl rfl ?_
  refine V_callSI C cs_X7_116 (c_X7_isKind σ 0) (by decide) (by decide) (fun _ h => h) (As := [.int 0]) (rest := []) rfl rfl (Nat.le_of_ble_eq_true rfl) dX7_taken_1 ?_
  refine V_if_ne_b C (tgt := 10) dX7_taken_4 (by decide) (fun _ => ?_) (fun z => absurd (by decide) z)
  refine V_blk C (pc' := 12) (σ' := σ) (L' := [some (.ref 0), some (.int d), some (.int 0)]) (st' := [.int d, .ref 0]) (g_c dX7_taken_10 (g_c dX7_taken_11 g_n)) rfl rfl ?_
  refine V_callVI C cv_X7_101 (c_X7_isDrip σ d) ⟨_, _, _, _, rfl, rfl⟩ (by rfl) (by decide) (by decide) (fun _ h => h) (As := [.int d]) (rest := []) rfl rfl (Nat.le_of_ble_eq_true rfl) dX7_taken_12 ?_
  refine V_if_ne_b C (tgt := 21) dX7_taken_15 (by decide) (fun h15 => ?_) (fun h15 => ?_)
  · skip
    refine V_blk C (pc' := 29) (σ' := σ) (L' := [some (.ref 0), some (.int d), some (.int 0)]) (st' := [.int d, .ref 3]) (g_c dX7_taken_21 (g_c dX7_taken_22 (g_c dX7_taken_25 (g_c dX7_taken_28 g_n)))) rfl rfl ?_
    refine V_iald C (k := 3) (n := 6) (by rfl) (by rfl) (g_vp h15 hd hd6 (by decide)) dX7_taken_29 ?_
    rw [show σ 3 (Int32.toNatClampNeg d) = 1 from hx]
    refine V_blk C (pc' := 31) (σ' := σ) (L' := [some (.ref 0), some (.int d), some (.int 0)]) (st' := [.int 0, .int 1]) (g_c dX7_taken_30 g_n) rfl rfl ?_
    refine V_callSI C cs_X7_287 (c_X7_isUnder_1_0 σ) (by decide) (by decide) (fun _ h => h) (As := [.int 1, .int 0]) (rest := []) rfl rfl (Nat.le_of_ble_eq_true rfl) dX7_taken_31 ?_
    refine V_if_eq C (tgt := 49) dX7_taken_34 (by decide) (fun z => absurd z (by decide)) (fun _ => ?_)
    refine V_blk C (pc' := 45) (σ' := σ) (L' := [some (.ref 0), some (.int d), some (.int 0)]) (st' := [.int d, .ref 4]) (g_c dX7_taken_37 (g_c dX7_taken_38 (g_c dX7_taken_41 (g_c dX7_taken_44 g_n)))) rfl rfl ?_
    refine V_iald C (k := 4) (n := 6) (by rfl) (by rfl) (g_vp h15 hd hd6 (by decide)) dX7_taken_45 ?_
    refine V_goto C (tgt := 51) dX7_taken_46 (by decide) ?_
    refine V_iret C dX7_taken_51 ?_
    exact ⟨by rw [if_pos h15], rfl⟩
  · skip
    refine V_blk C (pc' := 20) (σ' := σ) (L' := [some (.ref 0), some (.int d), some (.int 0)]) (st' := [.int (-11)]) (g_c dX7_taken_18 g_n) rfl rfl ?_
    refine V_iret C dX7_taken_20 ?_
    exact ⟨by rw [if_neg (fun z => h15 z)], rfl⟩
set_option maxHeartbeats 4000000 in
set_option maxRecDepth 100000 in
theorem c_X8_taken_1_0 (σ : gS) (d : Int32) {nd : Nat} (hd : σ 63 15 = nI nd) (hd6 : nd ≤ 6) (hx : σ 68 (ix d) = 1) : g_Met yX8_taken cX8_taken 4 (some .int) 4 kM [.ref 63, .int d, .int 0] σ (fun rv s => rv = some (.int (if g_in d 0 ((σ 63 15) - 1) then (σ 69 (ix d)) else (-11))) ∧ s = σ) := by
  refine g_Met.of (own := 8) (L := [some (.ref 63), some (.int d), some (.int 0), none]) (by decide) rfl rfl (fun ad => Nat.le_of_ble_eq_true rfl) (fun ad => rfl) (fun X G K C => ?_)
  refine V_blk C (pc' := 6) (σ' := σ) (L' := [some (.ref 63), some (.int d), some (.int 0), none]) (st' := [.long 5, .long 0, .long (Int32.toInt64 0)]) (g_c dX8_taken_0 (g_c dX8_taken_1 (g_c dX8_taken_2 (g_c dX8_taken_3 g_n)))) rfl rfl ?_
  refine V_callSI C cs_X8_110 (c_X8_in32 σ 0 0 5 (by decide) (by decide)) (by decide) (by decide) (fun _ h => h) (As := [.long (Int32.toInt64 0), .long 0, .long 5]) (rest := []) rfl rfl (Nat.le_of_ble_eq_true rfl) dX8_taken_6 ?_
  refine V_if_ne_b C (tgt := 15) dX8_taken_9 (by decide) (fun _ => ?_) (fun z => absurd (by decide) z)
  refine V_blk C (pc' := 17) (σ' := σ) (L' := [some (.ref 63), some (.int d), some (.int 0), none]) (st' := [.int d, .ref 63]) (g_c dX8_taken_15 (g_c dX8_taken_16 g_n)) rfl rfl ?_
  refine V_callVI C cv_X8_127 (c_X8_isDrip σ d) ⟨_, _, _, _, rfl, rfl⟩ (by rfl) (by decide) (by decide) (fun _ h => h) (As := [.int d]) (rest := []) rfl rfl (Nat.le_of_ble_eq_true rfl) dX8_taken_17 ?_
  refine V_if_ne_b C (tgt := 26) dX8_taken_20 (by decide) (fun h20 => ?_) (fun h20 => ?_)
  · skip
    refine V_blk C (pc' := 31) (σ' := σ) (L' := [some (.ref 63), some (.int d), some (.int 0), none]) (st' := [.int d, .ref 68]) (g_c dX8_taken_26 (g_c dX8_taken_27 (g_c dX8_taken_30 g_n))) rfl rfl ?_
    refine V_iald C (k := 68) (n := 6) (by rfl) (by rfl) (g_vp h20 hd hd6 (by decide)) dX8_taken_31 ?_
    rw [show σ 68 (Int32.toNatClampNeg d) = 1 from hx]
    refine V_blk C (pc' := 35) (σ' := σ) (L' := [some (.ref 63), some (.int d), some (.int 0), some (.int 1)]) (st' := [.int (-1), .int 1]) (g_c dX8_taken_32 (g_c dX8_taken_33 (g_c dX8_taken_34 g_n))) rfl rfl ?_
    refine V_icmp_eq C (tgt := 51) dX8_taken_35 (by decide) (fun z => absurd z (by decide)) (fun _ => ?_)
    refine V_blk C (pc' := 40) (σ' := σ) (L' := [some (.ref 63), some (.int d), some (.int 0), some (.int 1)]) (st' := [.int 0, .int 1]) (g_c dX8_taken_38 (g_c dX8_taken_39 g_n)) rfl rfl ?_
    refine V_icmp_eq C (tgt := 51) dX8_taken_40 (by decide) (fun z => absurd z (by decide)) (fun _ => ?_)
    refine V_blk C (pc' := 44) (σ' := σ) (L' := [some (.ref 63), some (.int d), some (.int 0), some (.int 1)]) (st' := [.int 1]) (g_c dX8_taken_43 g_n) rfl rfl ?_
    refine V_callSI C cs_X8_396 (c_X8_over_1 σ) (by decide) (by decide) (fun _ h => h) (As := [.int 1]) (rest := []) rfl rfl (Nat.le_of_ble_eq_true rfl) dX8_taken_44 ?_
    refine V_blk C (pc' := 48) (σ' := σ) (L' := [some (.ref 63), some (.int d), some (.int 0), some (.int 0)]) (st' := []) (g_c dX8_taken_47 g_n) rfl rfl ?_
    refine V_goto C (tgt := 33) dX8_taken_48 (by decide) ?_
    refine V_blk C (pc' := 35) (σ' := σ) (L' := [some (.ref 63), some (.int d), some (.int 0), some (.int 0)]) (st' := [.int (-1), .int 0]) (g_c dX8_taken_33 (g_c dX8_taken_34 g_n)) rfl rfl ?_
    refine V_icmp_eq C (tgt := 51) dX8_taken_35 (by decide) (fun z => absurd z (by decide)) (fun _ => ?_)
    refine V_blk C (pc' := 40) (σ' := σ) (L' := [some (.ref 63), some (.int d), some (.int 0), some (.int 0)]) (st' := [.int 0, .int 0]) (g_c dX8_taken_38 (g_c dX8_taken_39 g_n)) rfl rfl ?_
    refine V_icmp_eq C (tgt := 51) dX8_taken_40 (by decide) (fun _ => ?_) (fun z => absurd z (by decide))
    refine V_blk C (pc' := 53) (σ' := σ) (L' := [some (.ref 63), some (.int d), some (.int 0), some (.int 0)]) (st' := [.int 0, .int 0]) (g_c dX8_taken_51 (g_c dX8_taken_52 g_n)) rfl rfl ?_
    refine V_icmp_ne C (tgt := 65) dX8_taken_53 (by decide) (fun z => absurd z (by decide)) (fun _ => ?_)
    refine V_blk C (pc' := 61) (σ' := σ) (L' := [some (.ref 63), some (.int d), some (.int 0), some (.int 0)]) (st' := [.int d, .ref 69]) (g_c dX8_taken_56 (g_c dX8_taken_57 (g_c dX8_taken_60 g_n))) rfl rfl ?_
    refine V_iald C (k := 69) (n := 6) (by rfl) (by rfl) (g_vp h20 hd hd6 (by decide)) dX8_taken_61 ?_
    refine V_goto C (tgt := 67) dX8_taken_62 (by decide) ?_
    refine V_iret C dX8_taken_67 ?_
    exact ⟨by rw [if_pos h20], rfl⟩
  · skip
    refine V_blk C (pc' := 25) (σ' := σ) (L' := [some (.ref 63), some (.int d), some (.int 0), none]) (st' := [.int (-11)]) (g_c dX8_taken_23 g_n) rfl rfl ?_
    refine V_iret C dX8_taken_25 ?_
    exact ⟨by rw [if_neg (fun z => h20 z)], rfl⟩
set_option maxHeartbeats 4000000 in
set_option maxRecDepth 100000 in
theorem c_X7_taken_1_1 (σ : gS) (d : Int32) {nd : Nat} (hd : σ 1 8 = nI nd) (hd6 : nd ≤ 6) (hx : σ 3 (ix d) = 1) : g_Met yX7_taken cX7_taken 3 (some .int) 4 kX [.ref 0, .int d, .int 1] σ (fun rv s => rv = some (.int (if g_in d 0 ((σ 1 8) - 1) then (σ 4 (ix d)) else (-11))) ∧ s = σ) := by
  refine g_Met.of (own := 7) (L := [some (.ref 0), some (.int d), some (.int 1)]) (by decide) rfl rfl (fun ad => Nat.le_of_ble_eq_true rfl) (fun ad => rfl) (fun X G K C => ?_)
  refine V_blk C (pc' := 1) (σ' := σ) (L' := [some (.ref 0), some (.int d), some (.int 1)]) (st' := [.int 1]) (g_c dX7_taken_0 g_n) rfl rfl ?_
  refine V_callSI C cs_X7_116 (c_X7_isKind σ 1) (by decide) (by decide) (fun _ h => h) (As := [.int 1]) (rest := []) rfl rfl (Nat.le_of_ble_eq_true rfl) dX7_taken_1 ?_
  refine V_if_ne_b C (tgt := 10) dX7_taken_4 (by decide) (fun _ => ?_) (fun z => absurd (by decide) z)
  refine V_blk C (pc' := 12) (σ' := σ) (L' := [some (.ref 0), some (.int d), some (.int 1)]) (st' := [.int d, .ref 0]) (g_c dX7_taken_10 (g_c dX7_taken_11 g_n)) rfl rfl ?_
  refine V_callVI C cv_X7_101 (c_X7_isDrip σ d) ⟨_, _, _, _, rfl, rfl⟩ (by rfl) (by decide) (by decide) (fun _ h => h) (As := [.int d]) (rest := []) rfl rfl (Nat.le_of_ble_eq_true rfl) dX7_taken_12 ?_
  refine V_if_ne_b C (tgt := 21) dX7_taken_15 (by decide) (fun h15 => ?_) (fun h15 => ?_)
  · skip
    refine V_blk C (pc' := 29) (σ' := σ) (L' := [some (.ref 0), some (.int d), some (.int 1)]) (st' := [.int d, .ref 3]) (g_c dX7_taken_21 (g_c dX7_taken_22 (g_c dX7_taken_25 (g_c dX7_taken_28 g_n)))) rfl rfl ?_
    refine V_iald C (k := 3) (n := 6) (by rfl) (by rfl) (g_vp h15 hd hd6 (by decide)) dX7_taken_29 ?_
    rw [show σ 3 (Int32.toNatClampNeg d) = 1 from hx]
    refine V_blk C (pc' := 31) (σ' := σ) (L' := [some (.ref 0), some (.int d), some (.int 1)]) (st' := [.int 1, .int 1]) (g_c dX7_taken_30 g_n) rfl rfl ?_
    refine V_callSI C cs_X7_287 (c_X7_isUnder_1_1 σ) (by decide) (by decide) (fun _ h => h) (As := [.int 1, .int 1]) (rest := []) rfl rfl (Nat.le_of_ble_eq_true rfl) dX7_taken_31 ?_
    refine V_if_eq C (tgt := 49) dX7_taken_34 (by decide) (fun z => absurd z (by decide)) (fun _ => ?_)
    refine V_blk C (pc' := 45) (σ' := σ) (L' := [some (.ref 0), some (.int d), some (.int 1)]) (st' := [.int d, .ref 4]) (g_c dX7_taken_37 (g_c dX7_taken_38 (g_c dX7_taken_41 (g_c dX7_taken_44 g_n)))) rfl rfl ?_
    refine V_iald C (k := 4) (n := 6) (by rfl) (by rfl) (g_vp h15 hd hd6 (by decide)) dX7_taken_45 ?_
    refine V_goto C (tgt := 51) dX7_taken_46 (by decide) ?_
    refine V_iret C dX7_taken_51 ?_
    exact ⟨by rw [if_pos h15], rfl⟩
  · skip
    refine V_blk C (pc' := 20) (σ' := σ) (L' := [some (.ref 0), some (.int d), some (.int 1)]) (st' := [.int (-11)]) (g_c dX7_taken_18 g_n) rfl rfl ?_
    refine V_iret C dX7_taken_20 ?_
    exact ⟨by rw [if_neg (fun z => h15 z)], rfl⟩
set_option maxHeartbeats 4000000 in
set_option maxRecDepth 100000 in
theorem c_X8_taken_1_1 (σ : gS) (d : Int32) {nd : Nat} (hd : σ 63 15 = nI nd) (hd6 : nd ≤ 6) (hx : σ 68 (ix d) = 1) : g_Met yX8_taken cX8_taken 4 (some .int) 4 kM [.ref 63, .int d, .int 1] σ (fun rv s => rv = some (.int (if g_in d 0 ((σ 63 15) - 1) then (σ 69 (ix d)) else (-11))) ∧ s = σ) := by
  refine g_Met.of (own := 8) (L := [some (.ref 63), some (.int d), some (.int 1), none]) (by decide) rfl rfl (fun ad => Nat.le_of_ble_eq_true rfl) (fun ad => rfl) (fun X G K C => ?_)
  refine V_blk C (pc' := 6) (σ' := σ) (L' := [some (.ref 63), some (.int d), some (.int 1), none]) (st' := [.long 5, .long 0, .long (Int32.toInt64 1)]) (g_c dX8_taken_0 (g_c dX8_taken_1 (g_c dX8_taken_2 (g_c dX8_taken_3 g_n)))) rfl rfl ?_
  refine V_callSI C cs_X8_110 (c_X8_in32 σ 1 0 5 (by decide) (by decide)) (by decide) (by decide) (fun _ h => h) (As := [.long (Int32.toInt64 1), .long 0, .long 5]) (rest := []) rfl rfl (Nat.le_of_ble_eq_true rfl) dX8_taken_6 ?_
  refine V_if_ne_b C (tgt := 15) dX8_taken_9 (by decide) (fun _ => ?_) (fun z => absurd (by decide) z)
  refine V_blk C (pc' := 17) (σ' := σ) (L' := [some (.ref 63), some (.int d), some (.int 1), none]) (st' := [.int d, .ref 63]) (g_c dX8_taken_15 (g_c dX8_taken_16 g_n)) rfl rfl ?_
  refine V_callVI C cv_X8_127 (c_X8_isDrip σ d) ⟨_, _, _, _, rfl, rfl⟩ (by rfl) (by decide) (by decide) (fun _ h => h) (As := [.int d]) (rest := []) rfl rfl (Nat.le_of_ble_eq_true rfl) dX8_taken_17 ?_
  refine V_if_ne_b C (tgt := 26) dX8_taken_20 (by decide) (fun h20 => ?_) (fun h20 => ?_)
  · skip
    refine V_blk C (pc' := 31) (σ' := σ) (L' := [some (.ref 63), some (.int d), some (.int 1), none]) (st' := [.int d, .ref 68]) (g_c dX8_taken_26 (g_c dX8_taken_27 (g_c dX8_taken_30 g_n))) rfl rfl ?_
    refine V_iald C (k := 68) (n := 6) (by rfl) (by rfl) (g_vp h20 hd hd6 (by decide)) dX8_taken_31 ?_
    rw [show σ 68 (Int32.toNatClampNeg d) = 1 from hx]
    refine V_blk C (pc' := 35) (σ' := σ) (L' := [some (.ref 63), some (.int d), some (.int 1), some (.int 1)]) (st' := [.int (-1), .int 1]) (g_c dX8_taken_32 (g_c dX8_taken_33 (g_c dX8_taken_34 g_n))) rfl rfl ?_
    refine V_icmp_eq C (tgt := 51) dX8_taken_35 (by decide) (fun z => absurd z (by decide)) (fun _ => ?_)
    refine V_blk C (pc' := 40) (σ' := σ) (L' := [some (.ref 63), some (.int d), some (.int 1), some (.int 1)]) (st' := [.int 1, .int 1]) (g_c dX8_taken_38 (g_c dX8_taken_39 g_n)) rfl rfl ?_
    refine V_icmp_eq C (tgt := 51) dX8_taken_40 (by decide) (fun _ => ?_) (fun z => absurd z (by decide))
    refine V_blk C (pc' := 53) (σ' := σ) (L' := [some (.ref 63), some (.int d), some (.int 1), some (.int 1)]) (st' := [.int 1, .int 1]) (g_c dX8_taken_51 (g_c dX8_taken_52 g_n)) rfl rfl ?_
    refine V_icmp_ne C (tgt := 65) dX8_taken_53 (by decide) (fun z => absurd z (by decide)) (fun _ => ?_)
    refine V_blk C (pc' := 61) (σ' := σ) (L' := [some (.ref 63), some (.int d), some (.int 1), some (.int 1)]) (st' := [.int d, .ref 69]) (g_c dX8_taken_56 (g_c dX8_taken_57 (g_c dX8_taken_60 g_n))) rfl rfl ?_
    refine V_iald C (k := 69) (n := 6) (by rfl) (by rfl) (g_vp h20 hd hd6 (by decide)) dX8_taken_61 ?_
    refine V_goto C (tgt := 67) dX8_taken_62 (by decide) ?_
    refine V_iret C dX8_taken_67 ?_
    exact ⟨by rw [if_pos h20], rfl⟩
  · skip
    refine V_blk C (pc' := 25) (σ' := σ) (L' := [some (.ref 63), some (.int d), some (.int 1), none]) (st' := [.int (-11)]) (g_c dX8_taken_23 g_n) rfl rfl ?_
    refine V_iret C dX8_taken_25 ?_
    exact ⟨by rw [if_neg (fun z => h20 z)], rfl⟩
set_option maxHeartbeats 4000000 in
set_option maxRecDepth 100000 in
theorem c_X7_taken_1_2 (σ : gS) (d : Int32) {nd : Nat} (hd : σ 1 8 = nI nd) (hd6 : nd ≤ 6) (hx : σ 3 (ix d) = 1) : g_Met yX7_taken cX7_taken 3 (some .int) 4 kX [.ref 0, .int d, .int 2] σ (fun rv s => rv = some (.int (if g_in d 0 ((σ 1 8) - 1) then (-13) else (-11))) ∧ s = σ) := by
  refine g_Met.of (own := 7) (L := [some (.ref 0), some (.int d), some (.int 2)]) (by decide) rfl rfl (fun ad => Nat.le_of_ble_eq_true rfl) (fun ad => rfl) (fun X G K C => ?_)
  refine V_blk C (pc' := 1) (σ' := σ) (L' := [some (.ref 0), some (.int d), some (.int 2)]) (st' := [.int 2]) (g_c dX7_taken_0 g_n) rfl rfl ?_
  refine V_callSI C cs_X7_116 (c_X7_isKind σ 2) (by decide) (by decide) (fun _ h => h) (As := [.int 2]) (rest := []) rfl rfl (Nat.le_of_ble_eq_true rfl) dX7_taken_1 ?_
  refine V_if_ne_b C (tgt := 10) dX7_taken_4 (by decide) (fun _ => ?_) (fun z => absurd (by decide) z)
  refine V_blk C (pc' := 12) (σ' := σ) (L' := [some (.ref 0), some (.int d), some (.int 2)]) (st' := [.int d, .ref 0]) (g_c dX7_taken_10 (g_c dX7_taken_11 g_n)) rfl rfl ?_
  refine V_callVI C cv_X7_101 (c_X7_isDrip σ d) ⟨_, _, _, _, rfl, rfl⟩ (by rfl) (by decide) (by decide) (fun _ h => h) (As := [.int d]) (rest := []) rfl rfl (Nat.le_of_ble_eq_true rfl) dX7_taken_12 ?_
  refine V_if_ne_b C (tgt := 21) dX7_taken_15 (by decide) (fun h15 => ?_) (fun h15 => ?_)
  · skip
    refine V_blk C (pc' := 29) (σ' := σ) (L' := [some (.ref 0), some (.int d), some (.int 2)]) (st' := [.int d, .ref 3]) (g_c dX7_taken_21 (g_c dX7_taken_22 (g_c dX7_taken_25 (g_c dX7_taken_28 g_n)))) rfl rfl ?_
    refine V_iald C (k := 3) (n := 6) (by rfl) (by rfl) (g_vp h15 hd hd6 (by decide)) dX7_taken_29 ?_
    rw [show σ 3 (Int32.toNatClampNeg d) = 1 from hx]
    refine V_blk C (pc' := 31) (σ' := σ) (L' := [some (.ref 0), some (.int d), some (.int 2)]) (st' := [.int 2, .int 1]) (g_c dX7_taken_30 g_n) rfl rfl ?_
    refine V_callSI C cs_X7_287 (c_X7_isUnder_1_2 σ) (by decide) (by decide) (fun _ h => h) (As := [.int 1, .int 2]) (rest := []) rfl rfl (Nat.le_of_ble_eq_true rfl) dX7_taken_31 ?_
    refine V_if_eq C (tgt := 49) dX7_taken_34 (by decide) (fun _ => ?_) (fun z => absurd z (by decide))
    refine V_blk C (pc' := 51) (σ' := σ) (L' := [some (.ref 0), some (.int d), some (.int 2)]) (st' := [.int (-13)]) (g_c dX7_taken_49 g_n) rfl rfl ?_
    refine V_iret C dX7_taken_51 ?_
    exact ⟨by rw [if_pos h15], rfl⟩
  · skip
    refine V_blk C (pc' := 20) (σ' := σ) (L' := [some (.ref 0), some (.int d), some (.int 2)]) (st' := [.int (-11)]) (g_c dX7_taken_18 g_n) rfl rfl ?_
    refine V_iret C dX7_taken_20 ?_
    exact ⟨by rw [if_neg (fun z => h15 z)], rfl⟩
set_option maxHeartbeats 4000000 in
set_option maxRecDepth 100000 in
theorem c_X8_taken_1_2 (σ : gS) (d : Int32) {nd : Nat} (hd : σ 63 15 = nI nd) (hd6 : nd ≤ 6) (hx : σ 68 (ix d) = 1) : g_Met yX8_taken cX8_taken 4 (some .int) 4 kM [.ref 63, .int d, .int 2] σ (fun rv s => rv = some (.int (if g_in d 0 ((σ 63 15) - 1) then (-13) else (-11))) ∧ s = σ) := by
  refine g_Met.of (own := 8) (L := [some (.ref 63), some (.int d), some (.int 2), none]) (by decide) rfl rfl (fun ad => Nat.le_of_ble_eq_true rfl) (fun ad => rfl) (fun X G K C => ?_)
  refine V_blk C (pc' := 6) (σ' := σ) (L' := [some (.ref 63), some (.int d), some (.int 2), none]) (st' := [.long 5, .long 0, .long (Int32.toInt64 2)]) (g_c dX8_taken_0 (g_c dX8_taken_1 (g_c dX8_taken_2 (g_c dX8_taken_3 g_n)))) rfl rfl ?_
  refine V_callSI C cs_X8_110 (c_X8_in32 σ 2 0 5 (by decide) (by decide)) (by decide) (by decide) (fun _ h => h) (As := [.long (Int32.toInt64 2), .long 0, .long 5]) (rest := []) rfl rfl (Nat.le_of_ble_eq_true rfl) dX8_taken_6 ?_
  refine V_if_ne_b C (tgt := 15) dX8_taken_9 (by decide) (fun _ => ?_) (fun z => absurd (by decide) z)
  refine V_blk C (pc' := 17) (σ' := σ) (L' := [some (.ref 63), some (.int d), some (.int 2), none]) (st' := [.int d, .ref 63]) (g_c dX8_taken_15 (g_c dX8_taken_16 g_n)) rfl rfl ?_
  refine V_callVI C cv_X8_127 (c_X8_isDrip σ d) ⟨_, _, _, _, rfl, rfl⟩ (by rfl) (by decide) (by decide) (fun _ h => h) (As := [.int d]) (rest := []) rfl rfl (Nat.le_of_ble_eq_true rfl) dX8_taken_17 ?_
  refine V_if_ne_b C (tgt := 26) dX8_taken_20 (by decide) (fun h20 => ?_) (fun h20 => ?_)
  · skip
    refine V_blk C (pc' := 31) (σ' := σ) (L' := [some (.ref 63), some (.int d), some (.int 2), none]) (st' := [.int d, .ref 68]) (g_c dX8_taken_26 (g_c dX8_taken_27 (g_c dX8_taken_30 g_n))) rfl rfl ?_
    refine V_iald C (k := 68) (n := 6) (by rfl) (by rfl) (g_vp h20 hd hd6 (by decide)) dX8_taken_31 ?_
    rw [show σ 68 (Int32.toNatClampNeg d) = 1 from hx]
    refine V_blk C (pc' := 35) (σ' := σ) (L' := [some (.ref 63), some (.int d), some (.int 2), some (.int 1)]) (st' := [.int (-1), .int 1]) (g_c dX8_taken_32 (g_c dX8_taken_33 (g_c dX8_taken_34 g_n))) rfl rfl ?_
    refine V_icmp_eq C (tgt := 51) dX8_taken_35 (by decide) (fun z => absurd z (by decide)) (fun _ => ?_)
    refine V_blk C (pc' := 40) (σ' := σ) (L' := [some (.ref 63), some (.int d), some (.int 2), some (.int 1)]) (st' := [.int 2, .int 1]) (g_c dX8_taken_38 (g_c dX8_taken_39 g_n)) rfl rfl ?_
    refine V_icmp_eq C (tgt := 51) dX8_taken_40 (by decide) (fun z => absurd z (by decide)) (fun _ => ?_)
    refine V_blk C (pc' := 44) (σ' := σ) (L' := [some (.ref 63), some (.int d), some (.int 2), some (.int 1)]) (st' := [.int 1]) (g_c dX8_taken_43 g_n) rfl rfl ?_
    refine V_callSI C cs_X8_396 (c_X8_over_1 σ) (by decide) (by decide) (fun _ h => h) (As := [.int 1]) (rest := []) rfl rfl (Nat.le_of_ble_eq_true rfl) dX8_taken_44 ?_
    refine V_blk C (pc' := 48) (σ' := σ) (L' := [some (.ref 63), some (.int d), some (.int 2), some (.int 0)]) (st' := []) (g_c dX8_taken_47 g_n) rfl rfl ?_
    refine V_goto C (tgt := 33) dX8_taken_48 (by decide) ?_
    refine V_blk C (pc' := 35) (σ' := σ) (L' := [some (.ref 63), some (.int d), some (.int 2), some (.int 0)]) (st' := [.int (-1), .int 0]) (g_c dX8_taken_33 (g_c dX8_taken_34 g_n)) rfl rfl ?_
    refine V_icmp_eq C (tgt := 51) dX8_taken_35 (by decide) (fun z => absurd z (by decide)) (fun _ => ?_)
    refine V_blk C (pc' := 40) (σ' := σ) (L' := [some (.ref 63), some (.int d), some (.int 2), some (.int 0)]) (st' := [.int 2, .int 0]) (g_c dX8_taken_38 (g_c dX8_taken_39 g_n)) rfl rfl ?_
    refine V_icmp_eq C (tgt := 51) dX8_taken_40 (by decide) (fun z => absurd z (by decide)) (fun _ => ?_)
    refine V_blk C (pc' := 44) (σ' := σ) (L' := [some (.ref 63), some (.int d), some (.int 2), some (.int 0)]) (st' := [.int 0]) (g_c dX8_taken_43 g_n) rfl rfl ?_
    refine V_callSI C cs_X8_396 (c_X8_over_0 σ) (by decide) (by decide) (fun _ h => h) (As := [.int 0]) (rest := []) rfl rfl (Nat.le_of_ble_eq_true rfl) dX8_taken_44 ?_
    refine V_blk C (pc' := 48) (σ' := σ) (L' := [some (.ref 63), some (.int d), some (.int 2), some (.int (-1))]) (st' := []) (g_c dX8_taken_47 g_n) rfl rfl ?_
    refine V_goto C (tgt := 33) dX8_taken_48 (by decide) ?_
    refine V_blk C (pc' := 35) (σ' := σ) (L' := [some (.ref 63), some (.int d), some (.int 2), some (.int (-1))]) (st' := [.int (-1), .int (-1)]) (g_c dX8_taken_33 (g_c dX8_taken_34 g_n)) rfl rfl ?_
    refine V_icmp_eq C (tgt := 51) dX8_taken_35 (by decide) (fun _ => ?_) (fun z => absurd z (by decide))
    refine V_blk C (pc' := 53) (σ' := σ) (L' := [some (.ref 63), some (.int d), some (.int 2), some (.int (-1))]) (st' := [.int 2, .int (-1)]) (g_c dX8_taken_51 (g_c dX8_taken_52 g_n)) rfl rfl ?_
    refine V_icmp_ne C (tgt := 65) dX8_taken_53 (by decide) (fun _ => ?_) (fun z => absurd z (by decide))
    refine V_blk C (pc' := 67) (σ' := σ) (L' := [some (.ref 63), some (.int d), some (.int 2), some (.int (-1))]) (st' := [.int (-13)]) (g_c dX8_taken_65 g_n) rfl rfl ?_
    refine V_iret C dX8_taken_67 ?_
    exact ⟨by rw [if_pos h20], rfl⟩
  · skip
    refine V_blk C (pc' := 25) (σ' := σ) (L' := [some (.ref 63), some (.int d), some (.int 2), none]) (st' := [.int (-11)]) (g_c dX8_taken_23 g_n) rfl rfl ?_
    refine V_iret C dX8_taken_25 ?_
    exact ⟨by rw [if_neg (fun z => h20 z)], rfl⟩
set_option maxHeartbeats 4000000 in
set_option maxRecDepth 100000 in
theorem c_X7_taken_1_3 (σ : gS) (d : Int32) {nd : Nat} (hd : σ 1 8 = nI nd) (hd6 : nd ≤ 6) (hx : σ 3 (ix d) = 1) : g_Met yX7_taken cX7_taken 3 (some .int) 4 kX [.ref 0, .int d, .int 3] σ (fun rv s => rv = some (.int (if g_in d 0 ((σ 1 8) - 1) then (-13) else (-11))) ∧ s = σ) := by
  refine g_Met.of (own := 7) (L := [some (.ref 0), some (.int d), some (.int 3)]) (by decide) rfl rfl (fun ad => Nat.le_of_ble_eq_true rfl) (fun ad => rfl) (fun X G K C => ?_)
  refine V_blk C (pc' := 1) (σ' := σ) (L' := [some (.ref 0), some (.int d), some (.int 3)]) (st' := [.int 3]) (g_c dX7_taken_0 g_n) rfl rfl ?_
  refine V_callSI C cs_X7_116 (c_X7_isKind σ 3) (by decide) (by decide) (fun _ h => h) (As := [.int 3]) (rest := []) rfl rfl (Nat.le_of_ble_eq_true rfl) dX7_taken_1 ?_
  refine V_if_ne_b C (tgt := 10) dX7_taken_4 (by decide) (fun _ => ?_) (fun z => absurd (by decide) z)
  refine V_blk C (pc' := 12) (σ' := σ) (L' := [some (.ref 0), some (.int d), some (.int 3)]) (st' := [.int d, .ref 0]) (g_c dX7_taken_10 (g_c dX7_taken_11 g_n)) rfl rfl ?_
  refine V_callVI C cv_X7_101 (c_X7_isDrip σ d) ⟨_, _, _, _, rfl, rfl⟩ (by rfl) (by decide) (by decide) (fun _ h => h) (As := [.int d]) (rest := []) rfl rfl (Nat.le_of_ble_eq_true rfl) dX7_taken_12 ?_
  refine V_if_ne_b C (tgt := 21) dX7_taken_15 (by decide) (fun h15 => ?_) (fun h15 => ?_)
  · skip
    refine V_blk C (pc' := 29) (σ' := σ) (L' := [some (.ref 0), some (.int d), some (.int 3)]) (st' := [.int d, .ref 3]) (g_c dX7_taken_21 (g_c dX7_taken_22 (g_c dX7_taken_25 (g_c dX7_taken_28 g_n)))) rfl rfl ?_
    refine V_iald C (k := 3) (n := 6) (by rfl) (by rfl) (g_vp h15 hd hd6 (by decide)) dX7_taken_29 ?_
    rw [show σ 3 (Int32.toNatClampNeg d) = 1 from hx]
    refine V_blk C (pc' := 31) (σ' := σ) (L' := [some (.ref 0), some (.int d), some (.int 3)]) (st' := [.int 3, .int 1]) (g_c dX7_taken_30 g_n) rfl rfl ?_
    refine V_callSI C cs_X7_287 (c_X7_isUnder_1_3 σ) (by decide) (by decide) (fun _ h => h) (As := [.int 1, .int 3]) (rest := []) rfl rfl (Nat.le_of_ble_eq_true rfl) dX7_taken_31 ?_
    refine V_if_eq C (tgt := 49) dX7_taken_34 (by decide) (fun _ => ?_) (fun z => absurd z (by decide))
    refine V_blk C (pc' := 51) (σ' := σ) (L' := [some (.ref 0), some (.int d), some (.int 3)]) (st' := [.int (-13)]) (g_c dX7_taken_49 g_n) rfl rfl ?_
    refine V_iret C dX7_taken_51 ?_
    exact ⟨by rw [if_pos h15], rfl⟩
  · skip
    refine V_blk C (pc' := 20) (σ' := σ) (L' := [some (.ref 0), some (.int d), some (.int 3)]) (st' := [.int (-11)]) (g_c dX7_taken_18 g_n) rfl rfl ?_
    refine V_iret C dX7_taken_20 ?_
    exact ⟨by rw [if_neg (fun z => h15 z)], rfl⟩
set_option maxHeartbeats 4000000 in
set_option maxRecDepth 100000 in
theorem c_X8_taken_1_3 (σ : gS) (d : Int32) {nd : Nat} (hd : σ 63 15 = nI nd) (hd6 : nd ≤ 6) (hx : σ 68 (ix d) = 1) : g_Met yX8_taken cX8_taken 4 (some .int) 4 kM [.ref 63, .int d, .int 3] σ (fun rv s => rv = some (.int (if g_in d 0 ((σ 63 15) - 1) then (-13) else (-11))) ∧ s = σ) := by
  refine g_Met.of (own := 8) (L := [some (.ref 63), some (.int d), some (.int 3), none]) (by decide) rfl rfl (fun ad => Nat.le_of_ble_eq_true rfl) (fun ad => rfl) (fun X G K C => ?_)
  refine V_blk C (pc' := 6) (σ' := σ) (L' := [some (.ref 63), some (.int d), some (.int 3), none]) (st' := [.long 5, .long 0, .long (Int32.toInt64 3)]) (g_c dX8_taken_0 (g_c dX8_taken_1 (g_c dX8_taken_2 (g_c dX8_taken_3 g_n)))) rfl rfl ?_
  refine V_callSI C cs_X8_110 (c_X8_in32 σ 3 0 5 (by decide) (by decide)) (by decide) (by decide) (fun _ h => h) (As := [.long (Int32.toInt64 3), .long 0, .long 5]) (rest := []) rfl rfl (Nat.le_of_ble_eq_true rfl) dX8_taken_6 ?_
  refine V_if_ne_b C (tgt := 15) dX8_taken_9 (by decide) (fun _ => ?_) (fun z => absurd (by decide) z)
  refine V_blk C (pc' := 17) (σ' := σ) (L' := [some (.ref 63), some (.int d), some (.int 3), none]) (st' := [.int d, .ref 63]) (g_c dX8_taken_15 (g_c dX8_taken_16 g_n)) rfl rfl ?_
  refine V_callVI C cv_X8_127 (c_X8_isDrip σ d) ⟨_, _, _, _, rfl, rfl⟩ (by rfl) (by decide) (by decide) (fun _ h => h) (As := [.int d]) (rest := []) rfl rfl (Nat.le_of_ble_eq_true rfl) dX8_taken_17 ?_
  refine V_if_ne_b C (tgt := 26) dX8_taken_20 (by decide) (fun h20 => ?_) (fun h20 => ?_)
  · skip
    refine V_blk C (pc' := 31) (σ' := σ) (L' := [some (.ref 63), some (.int d), some (.int 3), none]) (st' := [.int d, .ref 68]) (g_c dX8_taken_26 (g_c dX8_taken_27 (g_c dX8_taken_30 g_n))) rfl rfl ?_
    refine V_iald C (k := 68) (n := 6) (by rfl) (by rfl) (g_vp h20 hd hd6 (by decide)) dX8_taken_31 ?_
    rw [show σ 68 (Int32.toNatClampNeg d) = 1 from hx]
    refine V_blk C (pc' := 35) (σ' := σ) (L' := [some (.ref 63), some (.int d), some (.int 3), some (.int 1)]) (st' := [.int (-1), .int 1]) (g_c dX8_taken_32 (g_c dX8_taken_33 (g_c dX8_taken_34 g_n))) rfl rfl ?_
    refine V_icmp_eq C (tgt := 51) dX8_taken_35 (by decide) (fun z => absurd z (by decide)) (fun _ => ?_)
    refine V_blk C (pc' := 40) (σ' := σ) (L' := [some (.ref 63), some (.int d), some (.int 3), some (.int 1)]) (st' := [.int 3, .int 1]) (g_c dX8_taken_38 (g_c dX8_taken_39 g_n)) rfl rfl ?_
    refine V_icmp_eq C (tgt := 51) dX8_taken_40 (by decide) (fun z => absurd z (by decide)) (fun _ => ?_)
    refine V_blk C (pc' := 44) (σ' := σ) (L' := [some (.ref 63), some (.int d), some (.int 3), some (.int 1)]) (st' := [.int 1]) (g_c dX8_taken_43 g_n) rfl rfl ?_
    refine V_callSI C cs_X8_396 (c_X8_over_1 σ) (by decide) (by decide) (fun _ h => h) (As := [.int 1]) (rest := []) rfl rfl (Nat.le_of_ble_eq_true rfl) dX8_taken_44 ?_
    refine V_blk C (pc' := 48) (σ' := σ) (L' := [some (.ref 63), some (.int d), some (.int 3), some (.int 0)]) (st' := []) (g_c dX8_taken_47 g_n) rfl rfl ?_
    refine V_goto C (tgt := 33) dX8_taken_48 (by decide) ?_
    refine V_blk C (pc' := 35) (σ' := σ) (L' := [some (.ref 63), some (.int d), some (.int 3), some (.int 0)]) (st' := [.int (-1), .int 0]) (g_c dX8_taken_33 (g_c dX8_taken_34 g_n)) rfl rfl ?_
    refine V_icmp_eq C (tgt := 51) dX8_taken_35 (by decide) (fun z => absurd z (by decide)) (fun _ => ?_)
    refine V_blk C (pc' := 40) (σ' := σ) (L' := [some (.ref 63), some (.int d), some (.int 3), some (.int 0)]) (st' := [.int 3, .int 0]) (g_c dX8_taken_38 (g_c dX8_taken_39 g_n)) rfl rfl ?_
    refine V_icmp_eq C (tgt := 51) dX8_taken_40 (by decide) (fun z => absurd z (by decide)) (fun _ => ?_)
    refine V_blk C (pc' := 44) (σ' := σ) (L' := [some (.ref 63), some (.int d), some (.int 3), some (.int 0)]) (st' := [.int 0]) (g_c dX8_taken_43 g_n) rfl rfl ?_
    refine V_callSI C cs_X8_396 (c_X8_over_0 σ) (by decide) (by decide) (fun _ h => h) (As := [.int 0]) (rest := []) rfl rfl (Nat.le_of_ble_eq_true rfl) dX8_taken_44 ?_
    refine V_blk C (pc' := 48) (σ' := σ) (L' := [some (.ref 63), some (.int d), some (.int 3), some (.int (-1))]) (st' := []) (g_c dX8_taken_47 g_n) rfl rfl ?_
    refine V_goto C (tgt := 33) dX8_taken_48 (by decide) ?_
    refine V_blk C (pc' := 35) (σ' := σ) (L' := [some (.ref 63), some (.int d), some (.int 3), some (.int (-1))]) (st' := [.int (-1), .int (-1)]) (g_c dX8_taken_33 (g_c dX8_taken_34 g_n)) rfl rfl ?_
    refine V_icmp_eq C (tgt := 51) dX8_taken_35 (by decide) (fun _ => ?_) (fun z => absurd z (by decide))
    refine V_blk C (pc' := 53) (σ' := σ) (L' := [some (.ref 63), some (.int d), some (.int 3), some (.int (-1))]) (st' := [.int 3, .int (-1)]) (g_c dX8_taken_51 (g_c dX8_taken_52 g_n)) rfl rfl ?_
    refine V_icmp_ne C (tgt := 65) dX8_taken_53 (by decide) (fun _ => ?_) (fun z => absurd z (by decide))
    refine V_blk C (pc' := 67) (σ' := σ) (L' := [some (.ref 63), some (.int d), some (.int 3), some (.int (-1))]) (st' := [.int (-13)]) (g_c dX8_taken_65 g_n) rfl rfl ?_
    refine V_iret C dX8_taken_67 ?_
    exact ⟨by rw [if_pos h20], rfl⟩
  · skip
    refine V_blk C (pc' := 25) (σ' := σ) (L' := [some (.ref 63), some (.int d), some (.int 3), none]) (st' := [.int (-11)]) (g_c dX8_taken_23 g_n) rfl rfl ?_
    refine V_iret C dX8_taken_25 ?_
    exact ⟨by rw [if_neg (fun z => h20 z)], rfl⟩
set_option maxHeartbeats 4000000 in
set_option maxRecDepth 100000 in
theorem c_X7_taken_1_4 (σ : gS) (d : Int32) {nd : Nat} (hd : σ 1 8 = nI nd) (hd6 : nd ≤ 6) (hx : σ 3 (ix d) = 1) : g_Met yX7_taken cX7_taken 3 (some .int) 4 kX [.ref 0, .int d, .int 4] σ (fun rv s => rv = some (.int (if g_in d 0 ((σ 1 8) - 1) then (-13) else (-11))) ∧ s = σ) := by
  refine g_Met.of (own := 7) (L := [some (.ref 0), some (.int d), some (.int 4)]) (by decide) rfl rfl (fun ad => Nat.le_of_ble_eq_true rfl) (fun ad => rfl) (fun X G K C => ?_)
  refine V_blk C (pc' := 1) (σ' := σ) (L' := [some (.ref 0), some (.int d), some (.int 4)]) (st' := [.int 4]) (g_c dX7_taken_0 g_n) rfl rfl ?_
  refine V_callSI C cs_X7_116 (c_X7_isKind σ 4) (by decide) (by decide) (fun _ h => h) (As := [.int 4]) (rest := []) rfl rfl (Nat.le_of_ble_eq_true rfl) dX7_taken_1 ?_
  refine V_if_ne_b C (tgt := 10) dX7_taken_4 (by decide) (fun _ => ?_) (fun z => absurd (by decide) z)
  refine V_blk C (pc' := 12) (σ' := σ) (L' := [some (.ref 0), some (.int d), some (.int 4)]) (st' := [.int d, .ref 0]) (g_c dX7_taken_10 (g_c dX7_taken_11 g_n)) rfl rfl ?_
  refine V_callVI C cv_X7_101 (c_X7_isDrip σ d) ⟨_, _, _, _, rfl, rfl⟩ (by rfl) (by decide) (by decide) (fun _ h => h) (As := [.int d]) (rest := []) rfl rfl (Nat.le_of_ble_eq_true rfl) dX7_taken_12 ?_
  refine V_if_ne_b C (tgt := 21) dX7_taken_15 (by decide) (fun h15 => ?_) (fun h15 => ?_)
  · skip
    refine V_blk C (pc' := 29) (σ' := σ) (L' := [some (.ref 0), some (.int d), some (.int 4)]) (st' := [.int d, .ref 3]) (g_c dX7_taken_21 (g_c dX7_taken_22 (g_c dX7_taken_25 (g_c dX7_taken_28 g_n)))) rfl rfl ?_
    refine V_iald C (k := 3) (n := 6) (by rfl) (by rfl) (g_vp h15 hd hd6 (by decide)) dX7_taken_29 ?_
    rw [show σ 3 (Int32.toNatClampNeg d) = 1 from hx]
    refine V_blk C (pc' := 31) (σ' := σ) (L' := [some (.ref 0), some (.int d), some (.int 4)]) (st' := [.int 4, .int 1]) (g_c dX7_taken_30 g_n) rfl rfl ?_
    refine V_callSI C cs_X7_287 (c_X7_isUnder_1_4 σ) (by decide) (by decide) (fun _ h => h) (As := [.int 1, .int 4]) (rest := []) rfl rfl (Nat.le_of_ble_eq_true rfl) dX7_taken_31 ?_
    refine V_if_eq C (tgt := 49) dX7_taken_34 (by decide) (fun _ => ?_) (fun z => absurd z (by decide))
    refine V_blk C (pc' := 51) (σ' := σ) (L' := [some (.ref 0), some (.int d), some (.int 4)]) (st' := [.int (-13)]) (g_c dX7_taken_49 g_n) rfl rfl ?_
    refine V_iret C dX7_taken_51 ?_
    exact ⟨by rw [if_pos h15], rfl⟩
  · skip
    refine V_blk C (pc' := 20) (σ' := σ) (L' := [some (.ref 0), some (.int d), some (.int 4)]) (st' := [.int (-11)]) (g_c dX7_taken_18 g_n) rfl rfl ?_
    refine V_iret C dX7_taken_20 ?_
    exact ⟨by rw [if_neg (fun z => h15 z)], rfl⟩
set_option maxHeartbeats 4000000 in
set_option maxRecDepth 100000 in
theorem c_X8_taken_1_4 (σ : gS) (d : Int32) {nd : Nat} (hd : σ 63 15 = nI nd) (hd6 : nd ≤ 6) (hx : σ 68 (ix d) = 1) : g_Met yX8_taken cX8_taken 4 (some .int) 4 kM [.ref 63, .int d, .int 4] σ (fun rv s => rv = some (.int (if g_in d 0 ((σ 63 15) - 1) then (-13) else (-11))) ∧ s = σ) := by
  refine g_Met.of (own := 8) (L := [some (.ref 63), some (.int d), some (.int 4), none]) (by decide) rfl rfl (fun ad => Nat.le_of_ble_eq_true rfl) (fun ad => rfl) (fun X G K C => ?_)
  refine V_blk C (pc' := 6) (σ' := σ) (L' := [some (.ref 63), some (.int d), some (.int 4), none]) (st' := [.long 5, .long 0, .long (Int32.toInt64 4)]) (g_c dX8_taken_0 (g_c dX8_taken_1 (g_c dX8_taken_2 (g_c dX8_taken_3 g_n)))) rfl rfl ?_
  refine V_callSI C cs_X8_110 (c_X8_in32 σ 4 0 5 (by decide) (by decide)) (by decide) (by decide) (fun _ h => h) (As := [.long (Int32.toInt64 4), .long 0, .long 5]) (rest := []) rfl rfl (Nat.le_of_ble_eq_true rfl) dX8_taken_6 ?_
  refine V_if_ne_b C (tgt := 15) dX8_taken_9 (by decide) (fun _ => ?_) (fun z => absurd (by decide) z)
  refine V_blk C (pc' := 17) (σ' := σ) (L' := [some (.ref 63), some (.int d), some (.int 4), none]) (st' := [.int d, .ref 63]) (g_c dX8_taken_15 (g_c dX8_taken_16 g_n)) rfl rfl ?_
  refine V_callVI C cv_X8_127 (c_X8_isDrip σ d) ⟨_, _, _, _, rfl, rfl⟩ (by rfl) (by decide) (by decide) (fun _ h => h) (As := [.int d]) (rest := []) rfl rfl (Nat.le_of_ble_eq_true rfl) dX8_taken_17 ?_
  refine V_if_ne_b C (tgt := 26) dX8_taken_20 (by decide) (fun h20 => ?_) (fun h20 => ?_)
  · skip
    refine V_blk C (pc' := 31) (σ' := σ) (L' := [some (.ref 63), some (.int d), some (.int 4), none]) (st' := [.int d, .ref 68]) (g_c dX8_taken_26 (g_c dX8_taken_27 (g_c dX8_taken_30 g_n))) rfl rfl ?_
    refine V_iald C (k := 68) (n := 6) (by rfl) (by rfl) (g_vp h20 hd hd6 (by decide)) dX8_taken_31 ?_
    rw [show σ 68 (Int32.toNatClampNeg d) = 1 from hx]
    refine V_blk C (pc' := 35) (σ' := σ) (L' := [some (.ref 63), some (.int d), some (.int 4), some (.int 1)]) (st' := [.int (-1), .int 1]) (g_c dX8_taken_32 (g_c dX8_taken_33 (g_c dX8_taken_34 g_n))) rfl rfl ?_
    refine V_icmp_eq C (tgt := 51) dX8_taken_35 (by decide) (fun z => absurd z (by decide)) (fun _ => ?_)
    refine V_blk C (pc' := 40) (σ' := σ) (L' := [some (.ref 63), some (.int d), some (.int 4), some (.int 1)]) (st' := [.int 4, .int 1]) (g_c dX8_taken_38 (g_c dX8_taken_39 g_n)) rfl rfl ?_
    refine V_icmp_eq C (tgt := 51) dX8_taken_40 (by decide) (fun z => absurd z (by decide)) (fun _ => ?_)
    refine V_blk C (pc' := 44) (σ' := σ) (L' := [some (.ref 63), some (.int d), some (.int 4), some (.int 1)]) (st' := [.int 1]) (g_c dX8_taken_43 g_n) rfl rfl ?_
    refine V_callSI C cs_X8_396 (c_X8_over_1 σ) (by decide) (by decide) (fun _ h => h) (As := [.int 1]) (rest := []) rfl rfl (Nat.le_of_ble_eq_true rfl) dX8_taken_44 ?_
    refine V_blk C (pc' := 48) (σ' := σ) (L' := [some (.ref 63), some (.int d), some (.int 4), some (.int 0)]) (st' := []) (g_c dX8_taken_47 g_n) rfl rfl ?_
    refine V_goto C (tgt := 33) dX8_taken_48 (by decide) ?_
    refine V_blk C (pc' := 35) (σ' := σ) (L' := [some (.ref 63), some (.int d), some (.int 4), some (.int 0)]) (st' := [.int (-1), .int 0]) (g_c dX8_taken_33 (g_c dX8_taken_34 g_n)) rfl rfl ?_
    refine V_icmp_eq C (tgt := 51) dX8_taken_35 (by decide) (fun z => absurd z (by decide)) (fun _ => ?_)
    refine V_blk C (pc' := 40) (σ' := σ) (L' := [some (.ref 63), some (.int d), some (.int 4), some (.int 0)]) (st' := [.int 4, .int 0]) (g_c dX8_taken_38 (g_c dX8_taken_39 g_n)) rfl rfl ?_
    refine V_icmp_eq C (tgt := 51) dX8_taken_40 (by decide) (fun z => absurd z (by decide)) (fun _ => ?_)
    refine V_blk C (pc' := 44) (σ' := σ) (L' := [some (.ref 63), some (.int d), some (.int 4), some (.int 0)]) (st' := [.int 0]) (g_c dX8_taken_43 g_n) rfl rfl ?_
    refine V_callSI C cs_X8_396 (c_X8_over_0 σ) (by decide) (by decide) (fun _ h => h) (As := [.int 0]) (rest := []) rfl rfl (Nat.le_of_ble_eq_true rfl) dX8_taken_44 ?_
    refine V_blk C (pc' := 48) (σ' := σ) (L' := [some (.ref 63), some (.int d), some (.int 4), some (.int (-1))]) (st' := []) (g_c dX8_taken_47 g_n) rfl rfl ?_
    refine V_goto C (tgt := 33) dX8_taken_48 (by decide) ?_
    refine V_blk C (pc' := 35) (σ' := σ) (L' := [some (.ref 63), some (.int d), some (.int 4), some (.int (-1))]) (st' := [.int (-1), .int (-1)]) (g_c dX8_taken_33 (g_c dX8_taken_34 g_n)) rfl rfl ?_
    refine V_icmp_eq C (tgt := 51) dX8_taken_35 (by decide) (fun _ => ?_) (fun z => absurd z (by decide))
    refine V_blk C (pc' := 53) (σ' := σ) (L' := [some (.ref 63), some (.int d), some (.int 4), some (.int (-1))]) (st' := [.int 4, .int (-1)]) (g_c dX8_taken_51 (g_c dX8_taken_52 g_n)) rfl rfl ?_
    refine V_icmp_ne C (tgt := 65) dX8_taken_53 (by decide) (fun _ => ?_) (fun z => absurd z (by decide))
    refine V_blk C (pc' := 67) (σ' := σ) (L' := [some (.ref 63), some (.int d), some (.int 4), some (.int (-1))]) (st' := [.int (-13)]) (g_c dX8_taken_65 g_n) rfl rfl ?_
    refine V_iret C dX8_taken_67 ?_
    exact ⟨by rw [if_pos h20], rfl⟩
  · skip
    refine V_blk C (pc' := 25) (σ' := σ) (L' := [some (.ref 63), some (.int d), some (.int 4), none]) (st' := [.int (-11)]) (g_c dX8_taken_23 g_n) rfl rfl ?_
    refine V_iret C dX8_taken_25 ?_
    exact ⟨by rw [if_neg (fun z => h20 z)], rfl⟩
set_option maxHeartbeats 4000000 in
set_option maxRecDepth 100000 in
theorem c_X7_taken_1_5 (σ : gS) (d : Int32) {nd : Nat} (hd : σ 1 8 = nI nd) (hd6 : nd ≤ 6) (hx : σ 3 (ix d) = 1) : g_Met yX7_taken cX7_taken 3 (some .int) 4 kX [.ref 0, .int d, .int 5] σ (fun rv s => rv = some (.int (if g_in d 0 ((σ 1 8) - 1) then (-13) else (-11))) ∧ s = σ) := by
  refine g_Met.of (own := 7) (L := [some (.ref 0), some (.int d), some (.int 5)]) (by decide) rfl rfl (fun ad => Nat.le_of_ble_eq_true rfl) (fun ad => rfl) (fun X G K C => ?_)
  refine V_blk C (pc' := 1) (σ' := σ) (L' := [some (.ref 0), some (.int d), some (.int 5)]) (st' := [.int 5]) (g_c dX7_taken_0 g_n) rfl rfl ?_
  refine V_callSI C cs_X7_116 (c_X7_isKind σ 5) (by decide) (by decide) (fun _ h => h) (As := [.int 5]) (rest := []) rfl rfl (Nat.le_of_ble_eq_true rfl) dX7_taken_1 ?_
  refine V_if_ne_b C (tgt := 10) dX7_taken_4 (by decide) (fun _ => ?_) (fun z => absurd (by decide) z)
  refine V_blk C (pc' := 12) (σ' := σ) (L' := [some (.ref 0), some (.int d), some (.int 5)]) (st' := [.int d, .ref 0]) (g_c dX7_taken_10 (g_c dX7_taken_11 g_n)) rfl rfl ?_
  refine V_callVI C cv_X7_101 (c_X7_isDrip σ d) ⟨_, _, _, _, rfl, rfl⟩ (by rfl) (by decide) (by decide) (fun _ h => h) (As := [.int d]) (rest := []) rfl rfl (Nat.le_of_ble_eq_true rfl) dX7_taken_12 ?_
  refine V_if_ne_b C (tgt := 21) dX7_taken_15 (by decide) (fun h15 => ?_) (fun h15 => ?_)
  · skip
    refine V_blk C (pc' := 29) (σ' := σ) (L' := [some (.ref 0), some (.int d), some (.int 5)]) (st' := [.int d, .ref 3]) (g_c dX7_taken_21 (g_c dX7_taken_22 (g_c dX7_taken_25 (g_c dX7_taken_28 g_n)))) rfl rfl ?_
    refine V_iald C (k := 3) (n := 6) (by rfl) (by rfl) (g_vp h15 hd hd6 (by decide)) dX7_taken_29 ?_
    rw [show σ 3 (Int32.toNatClampNeg d) = 1 from hx]
    refine V_blk C (pc' := 31) (σ' := σ) (L' := [some (.ref 0), some (.int d), some (.int 5)]) (st' := [.int 5, .int 1]) (g_c dX7_taken_30 g_n) rfl rfl ?_
    refine V_callSI C cs_X7_287 (c_X7_isUnder_1_5 σ) (by decide) (by decide) (fun _ h => h) (As := [.int 1, .int 5]) (rest := []) rfl rfl (Nat.le_of_ble_eq_true rfl) dX7_taken_31 ?_
    refine V_if_eq C (tgt := 49) dX7_taken_34 (by decide) (fun _ => ?_) (fun z => absurd z (by decide))
    refine V_blk C (pc' := 51) (σ' := σ) (L' := [some (.ref 0), some (.int d), some (.int 5)]) (st' := [.int (-13)]) (g_c dX7_taken_49 g_n) rfl rfl ?_
    refine V_iret C dX7_taken_51 ?_
    exact ⟨by rw [if_pos h15], rfl⟩
  · skip
    refine V_blk C (pc' := 20) (σ' := σ) (L' := [some (.ref 0), some (.int d), some (.int 5)]) (st' := [.int (-11)]) (g_c dX7_taken_18 g_n) rfl rfl ?_
    refine V_iret C dX7_taken_20 ?_
    exact ⟨by rw [if_neg (fun z => h15 z)], rfl⟩
set_option maxHeartbeats 4000000 in
set_option maxRecDepth 100000 in
theorem c_X8_taken_1_5 (σ : gS) (d : Int32) {nd : Nat} (hd : σ 63 15 = nI nd) (hd6 : nd ≤ 6) (hx : σ 68 (ix d) = 1) : g_Met yX8_taken cX8_taken 4 (some .int) 4 kM [.ref 63, .int d, .int 5] σ (fun rv s => rv = some (.int (if g_in d 0 ((σ 63 15) - 1) then (-13) else (-11))) ∧ s = σ) := by
  refine g_Met.of (own := 8) (L := [some (.ref 63), some (.int d), some (.int 5), none]) (by decide) rfl rfl (fun ad => Nat.le_of_ble_eq_true rfl) (fun ad => rfl) (fun X G K C => ?_)
  refine V_blk C (pc' := 6) (σ' := σ) (L' := [some (.ref 63), some (.int d), some (.int 5), none]) (st' := [.long 5, .long 0, .long (Int32.toInt64 5)]) (g_c dX8_taken_0 (g_c dX8_taken_1 (g_c dX8_taken_2 (g_c dX8_taken_3 g_n)))) rfl rfl ?_
  refine V_callSI C cs_X8_110 (c_X8_in32 σ 5 0 5 (by decide) (by decide)) (by decide) (by decide) (fun _ h => h) (As := [.long (Int32.toInt64 5), .long 0, .long 5]) (rest := []) rfl rfl (Nat.le_of_ble_eq_true rfl) dX8_taken_6 ?_
  refine V_if_ne_b C (tgt := 15) dX8_taken_9 (by decide) (fun _ => ?_) (fun z => absurd (by decide) z)
  refine V_blk C (pc' := 17) (σ' := σ) (L' := [some (.ref 63), some (.int d), some (.int 5), none]) (st' := [.int d, .ref 63]) (g_c dX8_taken_15 (g_c dX8_taken_16 g_n)) rfl rfl ?_
  refine V_callVI C cv_X8_127 (c_X8_isDrip σ d) ⟨_, _, _, _, rfl, rfl⟩ (by rfl) (by decide) (by decide) (fun _ h => h) (As := [.int d]) (rest := []) rfl rfl (Nat.le_of_ble_eq_true rfl) dX8_taken_17 ?_
  refine V_if_ne_b C (tgt := 26) dX8_taken_20 (by decide) (fun h20 => ?_) (fun h20 => ?_)
  · skip
    refine V_blk C (pc' := 31) (σ' := σ) (L' := [some (.ref 63), some (.int d), some (.int 5), none]) (st' := [.int d, .ref 68]) (g_c dX8_taken_26 (g_c dX8_taken_27 (g_c dX8_taken_30 g_n))) rfl rfl ?_
    refine V_iald C (k := 68) (n := 6) (by rfl) (by rfl) (g_vp h20 hd hd6 (by decide)) dX8_taken_31 ?_
    rw [show σ 68 (Int32.toNatClampNeg d) = 1 from hx]
    refine V_blk C (pc' := 35) (σ' := σ) (L' := [some (.ref 63), some (.int d), some (.int 5), some (.int 1)]) (st' := [.int (-1), .int 1]) (g_c dX8_taken_32 (g_c dX8_taken_33 (g_c dX8_taken_34 g_n))) rfl rfl ?_
    refine V_icmp_eq C (tgt := 51) dX8_taken_35 (by decide) (fun z => absurd z (by decide)) (fun _ => ?_)
    refine V_blk C (pc' := 40) (σ' := σ) (L' := [some (.ref 63), some (.int d), some (.int 5), some (.int 1)]) (st' := [.int 5, .int 1]) (g_c dX8_taken_38 (g_c dX8_taken_39 g_n)) rfl rfl ?_
    refine V_icmp_eq C (tgt := 51) dX8_taken_40 (by decide) (fun z => absurd z (by decide)) (fun _ => ?_)
    refine V_blk C (pc' := 44) (σ' := σ) (L' := [some (.ref 63), some (.int d), some (.int 5), some (.int 1)]) (st' := [.int 1]) (g_c dX8_taken_43 g_n) rfl rfl ?_
    refine V_callSI C cs_X8_396 (c_X8_over_1 σ) (by decide) (by decide) (fun _ h => h) (As := [.int 1]) (rest := []) rfl rfl (Nat.le_of_ble_eq_true rfl) dX8_taken_44 ?_
    refine V_blk C (pc' := 48) (σ' := σ) (L' := [some (.ref 63), some (.int d), some (.int 5), some (.int 0)]) (st' := []) (g_c dX8_taken_47 g_n) rfl rfl ?_
    refine V_goto C (tgt := 33) dX8_taken_48 (by decide) ?_
    refine V_blk C (pc' := 35) (σ' := σ) (L' := [some (.ref 63), some (.int d), some (.int 5), some (.int 0)]) (st' := [.int (-1), .int 0]) (g_c dX8_taken_33 (g_c dX8_taken_34 g_n)) rfl rfl ?_
    refine V_icmp_eq C (tgt := 51) dX8_taken_35 (by decide) (fun z => absurd z (by decide)) (fun _ => ?_)
    refine V_blk C (pc' := 40) (σ' := σ) (L' := [some (.ref 63), some (.int d), some (.int 5), some (.int 0)]) (st' := [.int 5, .int 0]) (g_c dX8_taken_38 (g_c dX8_taken_39 g_n)) rfl rfl ?_
    refine V_icmp_eq C (tgt := 51) dX8_taken_40 (by decide) (fun z => absurd z (by decide)) (fun _ => ?_)
    refine V_blk C (pc' := 44) (σ' := σ) (L' := [some (.ref 63), some (.int d), some (.int 5), some (.int 0)]) (st' := [.int 0]) (g_c dX8_taken_43 g_n) rfl rfl ?_
    refine V_callSI C cs_X8_396 (c_X8_over_0 σ) (by decide) (by decide) (fun _ h => h) (As := [.int 0]) (rest := []) rfl rfl (Nat.le_of_ble_eq_true rfl) dX8_taken_44 ?_
    refine V_blk C (pc' := 48) (σ' := σ) (L' := [some (.ref 63), some (.int d), some (.int 5), some (.int (-1))]) (st' := []) (g_c dX8_taken_47 g_n) rfl rfl ?_
    refine V_goto C (tgt := 33) dX8_taken_48 (by decide) ?_
    refine V_blk C (pc' := 35) (σ' := σ) (L' := [some (.ref 63), some (.int d), some (.int 5), some (.int (-1))]) (st' := [.int (-1), .int (-1)]) (g_c dX8_taken_33 (g_c dX8_taken_34 g_n)) rfl rfl ?_
    refine V_icmp_eq C (tgt := 51) dX8_taken_35 (by decide) (fun _ => ?_) (fun z => absurd z (by decide))
    refine V_blk C (pc' := 53) (σ' := σ) (L' := [some (.ref 63), some (.int d), some (.int 5), some (.int (-1))]) (st' := [.int 5, .int (-1)]) (g_c dX8_taken_51 (g_c dX8_taken_52 g_n)) rfl rfl ?_
    refine V_icmp_ne C (tgt := 65) dX8_taken_53 (by decide) (fun _ => ?_) (fun z => absurd z (by decide))
    refine V_blk C (pc' := 67) (σ' := σ) (L' := [some (.ref 63), some (.int d), some (.int 5), some (.int (-1))]) (st' := [.int (-13)]) (g_c dX8_taken_65 g_n) rfl rfl ?_
    refine V_iret C dX8_taken_67 ?_
    exact ⟨by rw [if_pos h20], rfl⟩
  · skip
    refine V_blk C (pc' := 25) (σ' := σ) (L' := [some (.ref 63), some (.int d), some (.int 5), none]) (st' := [.int (-11)]) (g_c dX8_taken_23 g_n) rfl rfl ?_
    refine V_iret C dX8_taken_25 ?_
    exact ⟨by rw [if_neg (fun z => h20 z)], rfl⟩
set_option maxHeartbeats 4000000 in
set_option maxRecDepth 100000 in
theorem c_X7_taken_2_0 (σ : gS) (d : Int32) {nd : Nat} (hd : σ 1 8 = nI nd) (hd6 : nd ≤ 6) (hx : σ 3 (ix d) = 2) : g_Met yX7_taken cX7_taken 3 (some .int) 4 kX [.ref 0, .int d, .int 0] σ (fun rv s => rv = some (.int (if g_in d 0 ((σ 1 8) - 1) then (σ 4 (ix d)) else (-11))) ∧ s = σ) := by
  refine g_Met.of (own := 7) (L := [some (.ref 0), some (.int d), some (.int 0)]) (by decide) rfl rfl (fun ad => Nat.le_of_ble_eq_true rfl) (fun ad => rfl) (fun X G K C => ?_)
  refine V_blk C (pc' := 1) (σ' := σ) (L' := [some (.ref 0), some (.int d), some (.int 0)]) (st' := [.int 0]) (g_c dX7_taken_0 g_n) rfl rfl ?_
  refine V_callSI C cs_X7_116 (c_X7_isKind σ 0) (by decide) (by decide) (fun _ h => h) (As := [.int 0]) (rest := []) rfl rfl (Nat.le_of_ble_eq_true rfl) dX7_taken_1 ?_
  refine V_if_ne_b C (tgt := 10) dX7_taken_4 (by decide) (fun _ => ?_) (fun z => absurd (by decide) z)
  refine V_blk C (pc' := 12) (σ' := σ) (L' := [some (.ref 0), some (.int d), some (.int 0)]) (st' := [.int d, .ref 0]) (g_c dX7_taken_10 (g_c dX7_taken_11 g_n)) rfl rfl ?_
  refine V_callVI C cv_X7_101 (c_X7_isDrip σ d) ⟨_, _, _, _, rfl, rfl⟩ (by rfl) (by decide) (by decide) (fun _ h => h) (As := [.int d]) (rest := []) rfl rfl (Nat.le_of_ble_eq_true rfl) dX7_taken_12 ?_
  refine V_if_ne_b C (tgt := 21) dX7_taken_15 (by decide) (fun h15 => ?_) (fun h15 => ?_)
  · skip
    refine V_blk C (pc' := 29) (σ' := σ) (L' := [some (.ref 0), some (.int d), some (.int 0)]) (st' := [.int d, .ref 3]) (g_c dX7_taken_21 (g_c dX7_taken_22 (g_c dX7_taken_25 (g_c dX7_taken_28 g_n)))) rfl rfl ?_
    refine V_iald C (k := 3) (n := 6) (by rfl) (by rfl) (g_vp h15 hd hd6 (by decide)) dX7_taken_29 ?_
    rw [show σ 3 (Int32.toNatClampNeg d) = 2 from hx]
    refine V_blk C (pc' := 31) (σ' := σ) (L' := [some (.ref 0), some (.int d), some (.int 0)]) (st' := [.int 0, .int 2]) (g_c dX7_taken_30 g_n) rfl rfl ?_
    refine V_callSI C cs_X7_287 (c_X7_isUnder_2_0 σ) (by decide) (by decide) (fun _ h => h) (As := [.int 2, .int 0]) (rest := []) rfl rfl (Nat.le_of_ble_eq_true rfl) dX7_taken_31 ?_
    refine V_if_eq C (tgt := 49) dX7_taken_34 (by decide) (fun z => absurd z (by decide)) (fun _ => ?_)
    refine V_blk C (pc' := 45) (σ' := σ) (L' := [some (.ref 0), some (.int d), some (.int 0)]) (st' := [.int d, .ref 4]) (g_c dX7_taken_37 (g_c dX7_taken_38 (g_c dX7_taken_41 (g_c dX7_taken_44 g_n)))) rfl rfl ?_
    refine V_iald C (k := 4) (n := 6) (by rfl) (by rfl) (g_vp h15 hd hd6 (by decide)) dX7_taken_45 ?_
    refine V_goto C (tgt := 51) dX7_taken_46 (by decide) ?_
    refine V_iret C dX7_taken_51 ?_
    exact ⟨by rw [if_pos h15], rfl⟩
  · skip
    refine V_blk C (pc' := 20) (σ' := σ) (L' := [some (.ref 0), some (.int d), some (.int 0)]) (st' := [.int (-11)]) (g_c dX7_taken_18 g_n) rfl rfl ?_
    refine V_iret C dX7_taken_20 ?_
    exact ⟨by rw [if_neg (fun z => h15 z)], rfl⟩
set_option maxHeartbeats 4000000 in
set_option maxRecDepth 100000 in
theorem c_X8_taken_2_0 (σ : gS) (d : Int32) {nd : Nat} (hd : σ 63 15 = nI nd) (hd6 : nd ≤ 6) (hx : σ 68 (ix d) = 2) : g_Met yX8_taken cX8_taken 4 (some .int) 4 kM [.ref 63, .int d, .int 0] σ (fun rv s => rv = some (.int (if g_in d 0 ((σ 63 15) - 1) then (σ 69 (ix d)) else (-11))) ∧ s = σ) := by
  refine g_Met.of (own := 8) (L := [some (.ref 63), some (.int d), some (.int 0), none]) (by decide) rfl rfl (fun ad => Nat.le_of_ble_eq_true rfl) (fun ad => rfl) (fun X G K C => ?_)
  refine V_blk C (pc' := 6) (σ' := σ) (L' := [some (.ref 63), some (.int d), some (.int 0), none]) (st' := [.long 5, .long 0, .long (Int32.toInt64 0)]) (g_c dX8_taken_0 (g_c dX8_taken_1 (g_c dX8_taken_2 (g_c dX8_taken_3 g_n)))) rfl rfl ?_
  refine V_callSI C cs_X8_110 (c_X8_in32 σ 0 0 5 (by decide) (by decide)) (by decide) (by decide) (fun _ h => h) (As := [.long (Int32.toInt64 0), .long 0, .long 5]) (rest := []) rfl rfl (Nat.le_of_ble_eq_true rfl) dX8_taken_6 ?_
  refine V_if_ne_b C (tgt := 15) dX8_taken_9 (by decide) (fun _ => ?_) (fun z => absurd (by decide) z)
  refine V_blk C (pc' := 17) (σ' := σ) (L' := [some (.ref 63), some (.int d), some (.int 0), none]) (st' := [.int d, .ref 63]) (g_c dX8_taken_15 (g_c dX8_taken_16 g_n)) rfl rfl ?_
  refine V_callVI C cv_X8_127 (c_X8_isDrip σ d) ⟨_, _, _, _, rfl, rfl⟩ (by rfl) (by decide) (by decide) (fun _ h => h) (As := [.int d]) (rest := []) rfl rfl (Nat.le_of_ble_eq_true rfl) dX8_taken_17 ?_
  refine V_if_ne_b C (tgt := 26) dX8_taken_20 (by decide) (fun h20 => ?_) (fun h20 => ?_)
  · skip
    refine V_blk C (pc' := 31) (σ' := σ) (L' := [some (.ref 63), some (.int d), some (.int 0), none]) (st' := [.int d, .ref 68]) (g_c dX8_taken_26 (g_c dX8_taken_27 (g_c dX8_taken_30 g_n))) rfl rfl ?_
    refine V_iald C (k := 68) (n := 6) (by rfl) (by rfl) (g_vp h20 hd hd6 (by decide)) dX8_taken_31 ?_
    rw [show σ 68 (Int32.toNatClampNeg d) = 2 from hx]
    refine V_blk C (pc' := 35) (σ' := σ) (L' := [some (.ref 63), some (.int d), some (.int 0), some (.int 2)]) (st' := [.int (-1), .int 2]) (g_c dX8_taken_32 (g_c dX8_taken_33 (g_c dX8_taken_34 g_n))) rfl rfl ?_
    refine V_icmp_eq C (tgt := 51) dX8_taken_35 (by decide) (fun z => absurd z (by decide)) (fun _ => ?_)
    refine V_blk C (pc' := 40) (σ' := σ) (L' := [some (.ref 63), some (.int d), some (.int 0), some (.int 2)]) (st' := [.int 0, .int 2]) (g_c dX8_taken_38 (g_c dX8_taken_39 g_n)) rfl rfl ?_
    refine V_icmp_eq C (tgt := 51) dX8_taken_40 (by decide) (fun z => absurd z (by decide)) (fun _ => ?_)
    refine V_blk C (pc' := 44) (σ' := σ) (L' := [some (.ref 63), some (.int d), some (.int 0), some (.int 2)]) (st' := [.int 2]) (g_c dX8_taken_43 g_n) rfl rfl ?_
    refine V_callSI C cs_X8_396 (c_X8_over_2 σ) (by decide) (by decide) (fun _ h => h) (As := [.int 2]) (rest := []) rfl rfl (Nat.le_of_ble_eq_true rfl) dX8_taken_44 ?_
    refine V_blk C (pc' := 48) (σ' := σ) (L' := [some (.ref 63), some (.int d), some (.int 0), some (.int 0)]) (st' := []) (g_c dX8_taken_47 g_n) rfl rfl ?_
    refine V_goto C (tgt := 33) dX8_taken_48 (by decide) ?_
    refine V_blk C (pc' := 35) (σ' := σ) (L' := [some (.ref 63), some (.int d), some (.int 0), some (.int 0)]) (st' := [.int (-1), .int 0]) (g_c dX8_taken_33 (g_c dX8_taken_34 g_n)) rfl rfl ?_
    refine V_icmp_eq C (tgt := 51) dX8_taken_35 (by decide) (fun z => absurd z (by decide)) (fun _ => ?_)
    refine V_blk C (pc' := 40) (σ' := σ) (L' := [some (.ref 63), some (.int d), some (.int 0), some (.int 0)]) (st' := [.int 0, .int 0]) (g_c dX8_taken_38 (g_c dX8_taken_39 g_n)) rfl rfl ?_
    refine V_icmp_eq C (tgt := 51) dX8_taken_40 (by decide) (fun _ => ?_) (fun z => absurd z (by decide))
    refine V_blk C (pc' := 53) (σ' := σ) (L' := [some (.ref 63), some (.int d), some (.int 0), some (.int 0)]) (st' := [.int 0, .int 0]) (g_c dX8_taken_51 (g_c dX8_taken_52 g_n)) rfl rfl ?_
    refine V_icmp_ne C (tgt := 65) dX8_taken_53 (by decide) (fun z => absurd z (by decide)) (fun _ => ?_)
    refine V_blk C (pc' := 61) (σ' := σ) (L' := [some (.ref 63), some (.int d), some (.int 0), some (.int 0)]) (st' := [.int d, .ref 69]) (g_c dX8_taken_56 (g_c dX8_taken_57 (g_c dX8_taken_60 g_n))) rfl rfl ?_
    refine V_iald C (k := 69) (n := 6) (by rfl) (by rfl) (g_vp h20 hd hd6 (by decide)) dX8_taken_61 ?_
    refine V_goto C (tgt := 67) dX8_taken_62 (by decide) ?_
    refine V_iret C dX8_taken_67 ?_
    exact ⟨by rw [if_pos h20], rfl⟩
  · skip
    refine V_blk C (pc' := 25) (σ' := σ) (L' := [some (.ref 63), some (.int d), some (.int 0), none]) (st' := [.int (-11)]) (g_c dX8_taken_23 g_n) rfl rfl ?_
    refine V_iret C dX8_taken_25 ?_
    exact ⟨by rw [if_neg (fun z => h20 z)], rfl⟩
set_option maxHeartbeats 4000000 in
set_option maxRecDepth 100000 in
theorem c_X7_taken_2_1 (σ : gS) (d : Int32) {nd : Nat} (hd : σ 1 8 = nI nd) (hd6 : nd ≤ 6) (hx : σ 3 (ix d) = 2) : g_Met yX7_taken cX7_taken 3 (some .int) 4 kX [.ref 0, .int d, .int 1] σ (fun rv s => rv = some (.int (if g_in d 0 ((σ 1 8) - 1) then (-13) else (-11))) ∧ s = σ) := by
  refine g_Met.of (own := 7) (L := [some (.ref 0), some (.int d), some (.int 1)]) (by decide) rfl rfl (fun ad => Nat.le_of_ble_eq_true rfl) (fun ad => rfl) (fun X G K C => ?_)
  refine V_blk C (pc' := 1) (σ' := σ) (L' := [some (.ref 0), some (.int d), some (.int 1)]) (st' := [.int 1]) (g_c dX7_taken_0 g_n) rfl rfl ?_
  refine V_callSI C cs_X7_116 (c_X7_isKind σ 1) (by decide) (by decide) (fun _ h => h) (As := [.int 1]) (rest := []) rfl rfl (Nat.le_of_ble_eq_true rfl) dX7_taken_1 ?_
  refine V_if_ne_b C (tgt := 10) dX7_taken_4 (by decide) (fun _ => ?_) (fun z => absurd (by decide) z)
  refine V_blk C (pc' := 12) (σ' := σ) (L' := [some (.ref 0), some (.int d), some (.int 1)]) (st' := [.int d, .ref 0]) (g_c dX7_taken_10 (g_c dX7_taken_11 g_n)) rfl rfl ?_
  refine V_callVI C cv_X7_101 (c_X7_isDrip σ d) ⟨_, _, _, _, rfl, rfl⟩ (by rfl) (by decide) (by decide) (fun _ h => h) (As := [.int d]) (rest := []) rfl rfl (Nat.le_of_ble_eq_true rfl) dX7_taken_12 ?_
  refine V_if_ne_b C (tgt := 21) dX7_taken_15 (by decide) (fun h15 => ?_) (fun h15 => ?_)
  · skip
    refine V_blk C (pc' := 29) (σ' := σ) (L' := [some (.ref 0), some (.int d), some (.int 1)]) (st' := [.int d, .ref 3]) (g_c dX7_taken_21 (g_c dX7_taken_22 (g_c dX7_taken_25 (g_c dX7_taken_28 g_n)))) rfl rfl ?_
    refine V_iald C (k := 3) (n := 6) (by rfl) (by rfl) (g_vp h15 hd hd6 (by decide)) dX7_taken_29 ?_
    rw [show σ 3 (Int32.toNatClampNeg d) = 2 from hx]
    refine V_blk C (pc' := 31) (σ' := σ) (L' := [some (.ref 0), some (.int d), some (.int 1)]) (st' := [.int 1, .int 2]) (g_c dX7_taken_30 g_n) rfl rfl ?_
    refine V_callSI C cs_X7_287 (c_X7_isUnder_2_1 σ) (by decide) (by decide) (fun _ h => h) (As := [.int 2, .int 1]) (rest := []) rfl rfl (Nat.le_of_ble_eq_true rfl) dX7_taken_31 ?_
    refine V_if_eq C (tgt := 49) dX7_taken_34 (by decide) (fun _ => ?_) (fun z => absurd z (by decide))
    refine V_blk C (pc' := 51) (σ' := σ) (L' := [some (.ref 0), some (.int d), some (.int 1)]) (st' := [.int (-13)]) (g_c dX7_taken_49 g_n) rfl rfl ?_
    refine V_iret C dX7_taken_51 ?_
    exact ⟨by rw [if_pos h15], rfl⟩
  · skip
    refine V_blk C (pc' := 20) (σ' := σ) (L' := [some (.ref 0), some (.int d), some (.int 1)]) (st' := [.int (-11)]) (g_c dX7_taken_18 g_n) rfl rfl ?_
    refine V_iret C dX7_taken_20 ?_
    exact ⟨by rw [if_neg (fun z => h15 z)], rfl⟩
set_option maxHeartbeats 4000000 in
set_option maxRecDepth 100000 in
theorem c_X8_taken_2_1 (σ : gS) (d : Int32) {nd : Nat} (hd : σ 63 15 = nI nd) (hd6 : nd ≤ 6) (hx : σ 68 (ix d) = 2) : g_Met yX8_taken cX8_taken 4 (some .int) 4 kM [.ref 63, .int d, .int 1] σ (fun rv s => rv = some (.int (if g_in d 0 ((σ 63 15) - 1) then (-13) else (-11))) ∧ s = σ) := by
  refine g_Met.of (own := 8) (L := [some (.ref 63), some (.int d), some (.int 1), none]) (by decide) rfl rfl (fun ad => Nat.le_of_ble_eq_true rfl) (fun ad => rfl) (fun X G K C => ?_)
  refine V_blk C (pc' := 6) (σ' := σ) (L' := [some (.ref 63), some (.int d), some (.int 1), none]) (st' := [.long 5, .long 0, .long (Int32.toInt64 1)]) (g_c dX8_taken_0 (g_c dX8_taken_1 (g_c dX8_taken_2 (g_c dX8_taken_3 g_n)))) rfl rfl ?_
  refine V_callSI C cs_X8_110 (c_X8_in32 σ 1 0 5 (by decide) (by decide)) (by decide) (by decide) (fun _ h => h) (As := [.long (Int32.toInt64 1), .long 0, .long 5]) (rest := []) rfl rfl (Nat.le_of_ble_eq_true rfl) dX8_taken_6 ?_
  refine V_if_ne_b C (tgt := 15) dX8_taken_9 (by decide) (fun _ => ?_) (fun z => absurd (by decide) z)
  refine V_blk C (pc' := 17) (σ' := σ) (L' := [some (.ref 63), some (.int d), some (.int 1), none]) (st' := [.int d, .ref 63]) (g_c dX8_taken_15 (g_c dX8_taken_16 g_n)) rfl rfl ?_
  refine V_callVI C cv_X8_127 (c_X8_isDrip σ d) ⟨_, _, _, _, rfl, rfl⟩ (by rfl) (by decide) (by decide) (fun _ h => h) (As := [.int d]) (rest := []) rfl rfl (Nat.le_of_ble_eq_true rfl) dX8_taken_17 ?_
  refine V_if_ne_b C (tgt := 26) dX8_taken_20 (by decide) (fun h20 => ?_) (fun h20 => ?_)
  · skip
    refine V_blk C (pc' := 31) (σ' := σ) (L' := [some (.ref 63), some (.int d), some (.int 1), none]) (st' := [.int d, .ref 68]) (g_c dX8_taken_26 (g_c dX8_taken_27 (g_c dX8_taken_30 g_n))) rfl rfl ?_
    refine V_iald C (k := 68) (n := 6) (by rfl) (by rfl) (g_vp h20 hd hd6 (by decide)) dX8_taken_31 ?_
    rw [show σ 68 (Int32.toNatClampNeg d) = 2 from hx]
    refine V_blk C (pc' := 35) (σ' := σ) (L' := [some (.ref 63), some (.int d), some (.int 1), some (.int 2)]) (st' := [.int (-1), .int 2]) (g_c dX8_taken_32 (g_c dX8_taken_33 (g_c dX8_taken_34 g_n))) rfl rfl ?_
    refine V_icmp_eq C (tgt := 51) dX8_taken_35 (by decide) (fun z => absurd z (by decide)) (fun _ => ?_)
    refine V_blk C (pc' := 40) (σ' := σ) (L' := [some (.ref 63), some (.int d), some (.int 1), some (.int 2)]) (st' := [.int 1, .int 2]) (g_c dX8_taken_38 (g_c dX8_taken_39 g_n)) rfl rfl ?_
    refine V_icmp_eq C (tgt := 51) dX8_taken_40 (by decide) (fun z => absurd z (by decide)) (fun _ => ?_)
    refine V_blk C (pc' := 44) (σ' := σ) (L' := [some (.ref 63), some (.int d), some (.int 1), some (.int 2)]) (st' := [.int 2]) (g_c dX8_taken_43 g_n) rfl rfl ?_
    refine V_callSI C cs_X8_396 (c_X8_over_2 σ) (by decide) (by decide) (fun _ h => h) (As := [.int 2]) (rest := []) rfl rfl (Nat.le_of_ble_eq_true rfl) dX8_taken_44 ?_
    refine V_blk C (pc' := 48) (σ' := σ) (L' := [some (.ref 63), some (.int d), some (.int 1), some (.int 0)]) (st' := []) (g_c dX8_taken_47 g_n) rfl rfl ?_
    refine V_goto C (tgt := 33) dX8_taken_48 (by decide) ?_
    refine V_blk C (pc' := 35) (σ' := σ) (L' := [some (.ref 63), some (.int d), some (.int 1), some (.int 0)]) (st' := [.int (-1), .int 0]) (g_c dX8_taken_33 (g_c dX8_taken_34 g_n)) rfl rfl ?_
    refine V_icmp_eq C (tgt := 51) dX8_taken_35 (by decide) (fun z => absurd z (by decide)) (fun _ => ?_)
    refine V_blk C (pc' := 40) (σ' := σ) (L' := [some (.ref 63), some (.int d), some (.int 1), some (.int 0)]) (st' := [.int 1, .int 0]) (g_c dX8_taken_38 (g_c dX8_taken_39 g_n)) rfl rfl ?_
    refine V_icmp_eq C (tgt := 51) dX8_taken_40 (by decide) (fun z => absurd z (by decide)) (fun _ => ?_)
    refine V_blk C (pc' := 44) (σ' := σ) (L' := [some (.ref 63), some (.int d), some (.int 1), some (.int 0)]) (st' := [.int 0]) (g_c dX8_taken_43 g_n) rfl rfl ?_
    refine V_callSI C cs_X8_396 (c_X8_over_0 σ) (by decide) (by decide) (fun _ h => h) (As := [.int 0]) (rest := []) rfl rfl (Nat.le_of_ble_eq_true rfl) dX8_taken_44 ?_
    refine V_blk C (pc' := 48) (σ' := σ) (L' := [some (.ref 63), some (.int d), some (.int 1), some (.int (-1))]) (st' := []) (g_c dX8_taken_47 g_n) rfl rfl ?_
    refine V_goto C (tgt := 33) dX8_taken_48 (by decide) ?_
    refine V_blk C (pc' := 35) (σ' := σ) (L' := [some (.ref 63), some (.int d), some (.int 1), some (.int (-1))]) (st' := [.int (-1), .int (-1)]) (g_c dX8_taken_33 (g_c dX8_taken_34 g_n)) rfl rfl ?_
    refine V_icmp_eq C (tgt := 51) dX8_taken_35 (by decide) (fun _ => ?_) (fun z => absurd z (by decide))
    refine V_blk C (pc' := 53) (σ' := σ) (L' := [some (.ref 63), some (.int d), some (.int 1), some (.int (-1))]) (st' := [.int 1, .int (-1)]) (g_c dX8_taken_51 (g_c dX8_taken_52 g_n)) rfl rfl ?_
    refine V_icmp_ne C (tgt := 65) dX8_taken_53 (by decide) (fun _ => ?_) (fun z => absurd z (by decide))
    refine V_blk C (pc' := 67) (σ' := σ) (L' := [some (.ref 63), some (.int d), some (.int 1), some (.int (-1))]) (st' := [.int (-13)]) (g_c dX8_taken_65 g_n) rfl rfl ?_
    refine V_iret C dX8_taken_67 ?_
    exact ⟨by rw [if_pos h20], rfl⟩
  · skip
    refine V_blk C (pc' := 25) (σ' := σ) (L' := [some (.ref 63), some (.int d), some (.int 1), none]) (st' := [.int (-11)]) (g_c dX8_taken_23 g_n) rfl rfl ?_
    refine V_iret C dX8_taken_25 ?_
    exact ⟨by rw [if_neg (fun z => h20 z)], rfl⟩
set_option maxHeartbeats 4000000 in
set_option maxRecDepth 100000 in
theorem c_X7_taken_2_2 (σ : gS) (d : Int32) {nd : Nat} (hd : σ 1 8 = nI nd) (hd6 : nd ≤ 6) (hx : σ 3 (ix d) = 2) : g_Met yX7_taken cX7_taken 3 (some .int) 4 kX [.ref 0, .int d, .int 2] σ (fun rv s => rv = some (.int (if g_in d 0 ((σ 1 8) - 1) then (σ 4 (ix d)) else (-11))) ∧ s = σ) := by
  refine g_Met.of (own := 7) (L := [some (.ref 0), some (.int d), some (.int 2)]) (by decide) rfl rfl (fun ad => Nat.le_of_ble_eq_true rfl) (fun ad => rfl) (fun X G K C => ?_)
  refine V_blk C (pc' := 1) (σ' := σ) (L' := [some (.ref 0), some (.int d), some (.int 2)]) (st' := [.int 2]) (g_c dX7_taken_0 g_n) rfl rfl ?_
  refine V_callSI C cs_X7_116 (c_X7_isKind σ 2) (by decide) (by decide) (fun _ h => h) (As := [.int 2]) (rest := []) rfl rfl (Nat.le_of_ble_eq_true rfl) dX7_taken_1 ?_
  refine V_if_ne_b C (tgt := 10) dX7_taken_4 (by decide) (fun _ => ?_) (fun z => absurd (by decide) z)
  refine V_blk C (pc' := 12) (σ' := σ) (L' := [some (.ref 0), some (.int d), some (.int 2)]) (st' := [.int d, .ref 0]) (g_c dX7_taken_10 (g_c dX7_taken_11 g_n)) rfl rfl ?_
  refine V_callVI C cv_X7_101 (c_X7_isDrip σ d) ⟨_, _, _, _, rfl, rfl⟩ (by rfl) (by decide) (by decide) (fun _ h => h) (As := [.int d]) (rest := []) rfl rfl (Nat.le_of_ble_eq_true rfl) dX7_taken_12 ?_
  refine V_if_ne_b C (tgt := 21) dX7_taken_15 (by decide) (fun h15 => ?_) (fun h15 => ?_)
  · skip
    refine V_blk C (pc' := 29) (σ' := σ) (L' := [some (.ref 0), some (.int d), some (.int 2)]) (st' := [.int d, .ref 3]) (g_c dX7_taken_21 (g_c dX7_taken_22 (g_c dX7_taken_25 (g_c dX7_taken_28 g_n)))) rfl rfl ?_
    refine V_iald C (k := 3) (n := 6) (by rfl) (by rfl) (g_vp h15 hd hd6 (by decide)) dX7_taken_29 ?_
    rw [show σ 3 (Int32.toNatClampNeg d) = 2 from hx]
    refine V_blk C (pc' := 31) (σ' := σ) (L' := [some (.ref 0), some (.int d), some (.int 2)]) (st' := [.int 2, .int 2]) (g_c dX7_taken_30 g_n) rfl rfl ?_
    refine V_callSI C cs_X7_287 (c_X7_isUnder_2_2 σ) (by decide) (by decide) (fun _ h => h) (As := [.int 2, .int 2]) (rest := []) rfl rfl (Nat.le_of_ble_eq_true rfl) dX7_taken_31 ?_
    refine V_if_eq C (tgt := 49) dX7_taken_34 (by decide) (fun z => absurd z (by decide)) (fun _ => ?_)
    refine V_blk C (pc' := 45) (σ' := σ) (L' := [some (.ref 0), some (.int d), some (.int 2)]) (st' := [.int d, .ref 4]) (g_c dX7_taken_37 (g_c dX7_taken_38 (g_c dX7_taken_41 (g_c dX7_taken_44 g_n)))) rfl rfl ?_
    refine V_iald C (k := 4) (n := 6) (by rfl) (by rfl) (g_vp h15 hd hd6 (by decide)) dX7_taken_45 ?_
    refine V_goto C (tgt := 51) dX7_taken_46 (by decide) ?_
    refine V_iret C dX7_taken_51 ?_
    exact ⟨by rw [if_pos h15], rfl⟩
  · skip
    refine V_blk C (pc' := 20) (σ' := σ) (L' := [some (.ref 0), some (.int d), some (.int 2)]) (st' := [.int (-11)]) (g_c dX7_taken_18 g_n) rfl rfl ?_
    refine V_iret C dX7_taken_20 ?_
    exact ⟨by rw [if_neg (fun z => h15 z)], rfl⟩
set_option maxHeartbeats 4000000 in
set_option maxRecDepth 100000 in
theorem c_X8_taken_2_2 (σ : gS) (d : Int32) {nd : Nat} (hd : σ 63 15 = nI nd) (hd6 : nd ≤ 6) (hx : σ 68 (ix d) = 2) : g_Met yX8_taken cX8_taken 4 (some .int) 4 kM [.ref 63, .int d, .int 2] σ (fun rv s => rv = some (.int (if g_in d 0 ((σ 63 15) - 1) then (σ 69 (ix d)) else (-11))) ∧ s = σ) := by
  refine g_Met.of (own := 8) (L := [some (.ref 63), some (.int d), some (.int 2), none]) (by decide) rfl rfl (fun ad => Nat.le_of_ble_eq_true rfl) (fun ad => rfl) (fun X G K C => ?_)
  refine V_blk C (pc' := 6) (σ' := σ) (L' := [some (.ref 63), some (.int d), some (.int 2), none]) (st' := [.long 5, .long 0, .long (Int32.toInt64 2)]) (g_c dX8_taken_0 (g_c dX8_taken_1 (g_c dX8_taken_2 (g_c dX8_taken_3 g_n)))) rfl rfl ?_
  refine V_callSI C cs_X8_110 (c_X8_in32 σ 2 0 5 (by decide) (by decide)) (by decide) (by decide) (fun _ h => h) (As := [.long (Int32.toInt64 2), .long 0, .long 5]) (rest := []) rfl rfl (Nat.le_of_ble_eq_true rfl) dX8_taken_6 ?_
  refine V_if_ne_b C (tgt := 15) dX8_taken_9 (by decide) (fun _ => ?_) (fun z => absurd (by decide) z)
  refine V_blk C (pc' := 17) (σ' := σ) (L' := [some (.ref 63), some (.int d), some (.int 2), none]) (st' := [.int d, .ref 63]) (g_c dX8_taken_15 (g_c dX8_taken_16 g_n)) rfl rfl ?_
  refine V_callVI C cv_X8_127 (c_X8_isDrip σ d) ⟨_, _, _, _, rfl, rfl⟩ (by rfl) (by decide) (by decide) (fun _ h => h) (As := [.int d]) (rest := []) rfl rfl (Nat.le_of_ble_eq_true rfl) dX8_taken_17 ?_
  refine V_if_ne_b C (tgt := 26) dX8_taken_20 (by decide) (fun h20 => ?_) (fun h20 => ?_)
  · skip
    refine V_blk C (pc' := 31) (σ' := σ) (L' := [some (.ref 63), some (.int d), some (.int 2), none]) (st' := [.int d, .ref 68]) (g_c dX8_taken_26 (g_c dX8_taken_27 (g_c dX8_taken_30 g_n))) rfl rfl ?_
    refine V_iald C (k := 68) (n := 6) (by rfl) (by rfl) (g_vp h20 hd hd6 (by decide)) dX8_taken_31 ?_
    rw [show σ 68 (Int32.toNatClampNeg d) = 2 from hx]
    refine V_blk C (pc' := 35) (σ' := σ) (L' := [some (.ref 63), some (.int d), some (.int 2), some (.int 2)]) (st' := [.int (-1), .int 2]) (g_c dX8_taken_32 (g_c dX8_taken_33 (g_c dX8_taken_34 g_n))) rfl rfl ?_
    refine V_icmp_eq C (tgt := 51) dX8_taken_35 (by decide) (fun z => absurd z (by decide)) (fun _ => ?_)
    refine V_blk C (pc' := 40) (σ' := σ) (L' := [some (.ref 63), some (.int d), some (.int 2), some (.int 2)]) (st' := [.int 2, .int 2]) (g_c dX8_taken_38 (g_c dX8_taken_39 g_n)) rfl rfl ?_
    refine V_icmp_eq C (tgt := 51) dX8_taken_40 (by decide) (fun _ => ?_) (fun z => absurd z (by decide))
    refine V_blk C (pc' := 53) (σ' := σ) (L' := [some (.ref 63), some (.int d), some (.int 2), some (.int 2)]) (st' := [.int 2, .int 2]) (g_c dX8_taken_51 (g_c dX8_taken_52 g_n)) rfl rfl ?_
    refine V_icmp_ne C (tgt := 65) dX8_taken_53 (by decide) (fun z => absurd z (by decide)) (fun _ => ?_)
    refine V_blk C (pc' := 61) (σ' := σ) (L' := [some (.ref 63), some (.int d), some (.int 2), some (.int 2)]) (st' := [.int d, .ref 69]) (g_c dX8_taken_56 (g_c dX8_taken_57 (g_c dX8_taken_60 g_n))) rfl rfl ?_
    refine V_iald C (k := 69) (n := 6) (by rfl) (by rfl) (g_vp h20 hd hd6 (by decide)) dX8_taken_61 ?_
    refine V_goto C (tgt := 67) dX8_taken_62 (by decide) ?_
    refine V_iret C dX8_taken_67 ?_
    exact ⟨by rw [if_pos h20], rfl⟩
  · skip
    refine V_blk C (pc' := 25) (σ' := σ) (L' := [some (.ref 63), some (.int d), some (.int 2), none]) (st' := [.int (-11)]) (g_c dX8_taken_23 g_n) rfl rfl ?_
    refine V_iret C dX8_taken_25 ?_
    exact ⟨by rw [if_neg (fun z => h20 z)], rfl⟩
set_option maxHeartbeats 4000000 in
set_option maxRecDepth 100000 in
theorem c_X7_taken_2_3 (σ : gS) (d : Int32) {nd : Nat} (hd : σ 1 8 = nI nd) (hd6 : nd ≤ 6) (hx : σ 3 (ix d) = 2) : g_Met yX7_taken cX7_taken 3 (some .int) 4 kX [.ref 0, .int d, .int 3] σ (fun rv s => rv = some (.int (if g_in d 0 ((σ 1 8) - 1) then (-13) else (-11))) ∧ s = σ) := by
  refine g_Met.of (own := 7) (L := [some (.ref 0), some (.int d), some (.int 3)]) (by decide) rfl rfl (fun ad => Nat.le_of_ble_eq_true rfl) (fun ad => rfl) (fun X G K C => ?_)
  refine V_blk C (pc' := 1) (σ' := σ) (L' := [some (.ref 0), some (.int d), some (.int 3)]) (st' := [.int 3]) (g_c dX7_taken_0 g_n) rfl rfl ?_
  refine V_callSI C cs_X7_116 (c_X7_isKind σ 3) (by decide) (by decide) (fun _ h => h) (As := [.int 3]) (rest := []) rfl rfl (Nat.le_of_ble_eq_true rfl) dX7_taken_1 ?_
  refine V_if_ne_b C (tgt := 10) dX7_taken_4 (by decide) (fun _ => ?_) (fun z => absurd (by decide) z)
  refine V_blk C (pc' := 12) (σ' := σ) (L' := [some (.ref 0), some (.int d), some (.int 3)]) (st' := [.int d, .ref 0]) (g_c dX7_taken_10 (g_c dX7_taken_11 g_n)) rfl rfl ?_
  refine V_callVI C cv_X7_101 (c_X7_isDrip σ d) ⟨_, _, _, _, rfl, rfl⟩ (by rfl) (by decide) (by decide) (fun _ h => h) (As := [.int d]) (rest := []) rfl rfl (Nat.le_of_ble_eq_true rfl) dX7_taken_12 ?_
  refine V_if_ne_b C (tgt := 21) dX7_taken_15 (by decide) (fun h15 => ?_) (fun h15 => ?_)
  · skip
    refine V_blk C (pc' := 29) (σ' := σ) (L' := [some (.ref 0), some (.int d), some (.int 3)]) (st' := [.int d, .ref 3]) (g_c dX7_taken_21 (g_c dX7_taken_22 (g_c dX7_taken_25 (g_c dX7_taken_28 g_n)))) rfl rfl ?_
    refine V_iald C (k := 3) (n := 6) (by rfl) (by rfl) (g_vp h15 hd hd6 (by decide)) dX7_taken_29 ?_
    rw [show σ 3 (Int32.toNatClampNeg d) = 2 from hx]
    refine V_blk C (pc' := 31) (σ' := σ) (L' := [some (.ref 0), some (.int d), some (.int 3)]) (st' := [.int 3, .int 2]) (g_c dX7_taken_30 g_n) rfl rfl ?_
    refine V_callSI C cs_X7_287 (c_X7_isUnder_2_3 σ) (by decide) (by decide) (fun _ h => h) (As := [.int 2, .int 3]) (rest := []) rfl rfl (Nat.le_of_ble_eq_true rfl) dX7_taken_31 ?_
    refine V_if_eq C (tgt := 49) dX7_taken_34 (by decide) (fun _ => ?_) (fun z => absurd z (by decide))
    refine V_blk C (pc' := 51) (σ' := σ) (L' := [some (.ref 0), some (.int d), some (.int 3)]) (st' := [.int (-13)]) (g_c dX7_taken_49 g_n) rfl rfl ?_
    refine V_iret C dX7_taken_51 ?_
    exact ⟨by rw [if_pos h15], rfl⟩
  · skip
    refine V_blk C (pc' := 20) (σ' := σ) (L' := [some (.ref 0), some (.int d), some (.int 3)]) (st' := [.int (-11)]) (g_c dX7_taken_18 g_n) rfl rfl ?_
    refine V_iret C dX7_taken_20 ?_
    exact ⟨by rw [if_neg (fun z => h15 z)], rfl⟩
set_option maxHeartbeats 4000000 in
set_option maxRecDepth 100000 in
theorem c_X8_taken_2_3 (σ : gS) (d : Int32) {nd : Nat} (hd : σ 63 15 = nI nd) (hd6 : nd ≤ 6) (hx : σ 68 (ix d) = 2) : g_Met yX8_taken cX8_taken 4 (some .int) 4 kM [.ref 63, .int d, .int 3] σ (fun rv s => rv = some (.int (if g_in d 0 ((σ 63 15) - 1) then (-13) else (-11))) ∧ s = σ) := by
  refine g_Met.of (own := 8) (L := [some (.ref 63), some (.int d), some (.int 3), none]) (by decide) rfl rfl (fun ad => Nat.le_of_ble_eq_true rfl) (fun ad => rfl) (fun X G K C => ?_)
  refine V_blk C (pc' := 6) (σ' := σ) (L' := [some (.ref 63), some (.int d), some (.int 3), none]) (st' := [.long 5, .long 0, .long (Int32.toInt64 3)]) (g_c dX8_taken_0 (g_c dX8_taken_1 (g_c dX8_taken_2 (g_c dX8_taken_3 g_n)))) rfl rfl ?_
  refine V_callSI C cs_X8_110 (c_X8_in32 σ 3 0 5 (by decide) (by decide)) (by decide) (by decide) (fun _ h => h) (As := [.long (Int32.toInt64 3), .long 0, .long 5]) (rest := []) rfl rfl (Nat.le_of_ble_eq_true rfl) dX8_taken_6 ?_
  refine V_if_ne_b C (tgt := 15) dX8_taken_9 (by decide) (fun _ => ?_) (fun z => absurd (by decide) z)
  refine V_blk C (pc' := 17) (σ' := σ) (L' := [some (.ref 63), some (.int d), some (.int 3), none]) (st' := [.int d, .ref 63]) (g_c dX8_taken_15 (g_c dX8_taken_16 g_n)) rfl rfl ?_
  refine V_callVI C cv_X8_127 (c_X8_isDrip σ d) ⟨_, _, _, _, rfl, rfl⟩ (by rfl) (by decide) (by decide) (fun _ h => h) (As := [.int d]) (rest := []) rfl rfl (Nat.le_of_ble_eq_true rfl) dX8_taken_17 ?_
  refine V_if_ne_b C (tgt := 26) dX8_taken_20 (by decide) (fun h20 => ?_) (fun h20 => ?_)
  · skip
    refine V_blk C (pc' := 31) (σ' := σ) (L' := [some (.ref 63), some (.int d), some (.int 3), none]) (st' := [.int d, .ref 68]) (g_c dX8_taken_26 (g_c dX8_taken_27 (g_c dX8_taken_30 g_n))) rfl rfl ?_
    refine V_iald C (k := 68) (n := 6) (by rfl) (by rfl) (g_vp h20 hd hd6 (by decide)) dX8_taken_31 ?_
    rw [show σ 68 (Int32.toNatClampNeg d) = 2 from hx]
    refine V_blk C (pc' := 35) (σ' := σ) (L' := [some (.ref 63), some (.int d), some (.int 3), some (.int 2)]) (st' := [.int (-1), .int 2]) (g_c dX8_taken_32 (g_c dX8_taken_33 (g_c dX8_taken_34 g_n))) rfl rfl ?_
    refine V_icmp_eq C (tgt := 51) dX8_taken_35 (by decide) (fun z => absurd z (by decide)) (fun _ => ?_)
    refine V_blk C (pc' := 40) (σ' := σ) (L' := [some (.ref 63), some (.int d), some (.int 3), some (.int 2)]) (st' := [.int 3, .int 2]) (g_c dX8_taken_38 (g_c dX8_taken_39 g_n)) rfl rfl ?_
    refine V_icmp_eq C (tgt := 51) dX8_taken_40 (by decide) (fun z => absurd z (by decide)) (fun _ => ?_)
    refine V_blk C (pc' := 44) (σ' := σ) (L' := [some (.ref 63), some (.int d), some (.int 3), some (.int 2)]) (st' := [.int 2]) (g_c dX8_taken_43 g_n) rfl rfl ?_
    refine V_callSI C cs_X8_396 (c_X8_over_2 σ) (by decide) (by decide) (fun _ h => h) (As := [.int 2]) (rest := []) rfl rfl (Nat.le_of_ble_eq_true rfl) dX8_taken_44 ?_
    refine V_blk C (pc' := 48) (σ' := σ) (L' := [some (.ref 63), some (.int d), some (.int 3), some (.int 0)]) (st' := []) (g_c dX8_taken_47 g_n) rfl rfl ?_
    refine V_goto C (tgt := 33) dX8_taken_48 (by decide) ?_
    refine V_blk C (pc' := 35) (σ' := σ) (L' := [some (.ref 63), some (.int d), some (.int 3), some (.int 0)]) (st' := [.int (-1), .int 0]) (g_c dX8_taken_33 (g_c dX8_taken_34 g_n)) rfl rfl ?_
    refine V_icmp_eq C (tgt := 51) dX8_taken_35 (by decide) (fun z => absurd z (by decide)) (fun _ => ?_)
    refine V_blk C (pc' := 40) (σ' := σ) (L' := [some (.ref 63), some (.int d), some (.int 3), some (.int 0)]) (st' := [.int 3, .int 0]) (g_c dX8_taken_38 (g_c dX8_taken_39 g_n)) rfl rfl ?_
    refine V_icmp_eq C (tgt := 51) dX8_taken_40 (by decide) (fun z => absurd z (by decide)) (fun _ => ?_)
    refine V_blk C (pc' := 44) (σ' := σ) (L' := [some (.ref 63), some (.int d), some (.int 3), some (.int 0)]) (st' := [.int 0]) (g_c dX8_taken_43 g_n) rfl rfl ?_
    refine V_callSI C cs_X8_396 (c_X8_over_0 σ) (by decide) (by decide) (fun _ h => h) (As := [.int 0]) (rest := []) rfl rfl (Nat.le_of_ble_eq_true rfl) dX8_taken_44 ?_
    refine V_blk C (pc' := 48) (σ' := σ) (L' := [some (.ref 63), some (.int d), some (.int 3), some (.int (-1))]) (st' := []) (g_c dX8_taken_47 g_n) rfl rfl ?_
    refine V_goto C (tgt := 33) dX8_taken_48 (by decide) ?_
    refine V_blk C (pc' := 35) (σ' := σ) (L' := [some (.ref 63), some (.int d), some (.int 3), some (.int (-1))]) (st' := [.int (-1), .int (-1)]) (g_c dX8_taken_33 (g_c dX8_taken_34 g_n)) rfl rfl ?_
    refine V_icmp_eq C (tgt := 51) dX8_taken_35 (by decide) (fun _ => ?_) (fun z => absurd z (by decide))
    refine V_blk C (pc' := 53) (σ' := σ) (L' := [some (.ref 63), some (.int d), some (.int 3), some (.int (-1))]) (st' := [.int 3, .int (-1)]) (g_c dX8_taken_51 (g_c dX8_taken_52 g_n)) rfl rfl ?_
    refine V_icmp_ne C (tgt := 65) dX8_taken_53 (by decide) (fun _ => ?_) (fun z => absurd z (by decide))
    refine V_blk C (pc' := 67) (σ' := σ) (L' := [some (.ref 63), some (.int d), some (.int 3), some (.int (-1))]) (st' := [.int (-13)]) (g_c dX8_taken_65 g_n) rfl rfl ?_
    refine V_iret C dX8_taken_67 ?_
    exact ⟨by rw [if_pos h20], rfl⟩
  · skip
    refine V_blk C (pc' := 25) (σ' := σ) (L' := [some (.ref 63), some (.int d), some (.int 3), none]) (st' := [.int (-11)]) (g_c dX8_taken_23 g_n) rfl rfl ?_
    refine V_iret C dX8_taken_25 ?_
    exact ⟨by rw [if_neg (fun z => h20 z)], rfl⟩
set_option maxHeartbeats 4000000 in
set_option maxRecDepth 100000 in
theorem c_X7_taken_2_4 (σ : gS) (d : Int32) {nd : Nat} (hd : σ 1 8 = nI nd) (hd6 : nd ≤ 6) (hx : σ 3 (ix d) = 2) : g_Met yX7_taken cX7_taken 3 (some .int) 4 kX [.ref 0, .int d, .int 4] σ (fun rv s => rv = some (.int (if g_in d 0 ((σ 1 8) - 1) then (-13) else (-11))) ∧ s = σ) := by
  refine g_Met.of (own := 7) (L := [some (.ref 0), some (.int d), some (.int 4)]) (by decide) rfl rfl (fun ad => Nat.le_of_ble_eq_true rfl) (fun ad => rfl) (fun X G K C => ?_)
  refine V_blk C (pc' := 1) (σ' := σ) (L' := [some (.ref 0), some (.int d), some (.int 4)]) (st' := [.int 4]) (g_c dX7_taken_0 g_n) rfl rfl ?_
  refine V_callSI C cs_X7_116 (c_X7_isKind σ 4) (by decide) (by decide) (fun _ h => h) (As := [.int 4]) (rest := []) rfl rfl (Nat.le_of_ble_eq_true rfl) dX7_taken_1 ?_
  refine V_if_ne_b C (tgt := 10) dX7_taken_4 (by decide) (fun _ => ?_) (fun z => absurd (by decide) z)
  refine V_blk C (pc' := 12) (σ' := σ) (L' := [some (.ref 0), some (.int d), some (.int 4)]) (st' := [.int d, .ref 0]) (g_c dX7_taken_10 (g_c dX7_taken_11 g_n)) rfl rfl ?_
  refine V_callVI C cv_X7_101 (c_X7_isDrip σ d) ⟨_, _, _, _, rfl, rfl⟩ (by rfl) (by decide) (by decide) (fun _ h => h) (As := [.int d]) (rest := []) rfl rfl (Nat.le_of_ble_eq_true rfl) dX7_taken_12 ?_
  refine V_if_ne_b C (tgt := 21) dX7_taken_15 (by decide) (fun h15 => ?_) (fun h15 => ?_)
  · skip
    refine V_blk C (pc' := 29) (σ' := σ) (L' := [some (.ref 0), some (.int d), some (.int 4)]) (st' := [.int d, .ref 3]) (g_c dX7_taken_21 (g_c dX7_taken_22 (g_c dX7_taken_25 (g_c dX7_taken_28 g_n)))) rfl rfl ?_
    refine V_iald C (k := 3) (n := 6) (by rfl) (by rfl) (g_vp h15 hd hd6 (by decide)) dX7_taken_29 ?_
    rw [show σ 3 (Int32.toNatClampNeg d) = 2 from hx]
    refine V_blk C (pc' := 31) (σ' := σ) (L' := [some (.ref 0), some (.int d), some (.int 4)]) (st' := [.int 4, .int 2]) (g_c dX7_taken_30 g_n) rfl rfl ?_
    refine V_callSI C cs_X7_287 (c_X7_isUnder_2_4 σ) (by decide) (by decide) (fun _ h => h) (As := [.int 2, .int 4]) (rest := []) rfl rfl (Nat.le_of_ble_eq_true rfl) dX7_taken_31 ?_
    refine V_if_eq C (tgt := 49) dX7_taken_34 (by decide) (fun _ => ?_) (fun z => absurd z (by decide))
    refine V_blk C (pc' := 51) (σ' := σ) (L' := [some (.ref 0), some (.int d), some (.int 4)]) (st' := [.int (-13)]) (g_c dX7_taken_49 g_n) rfl rfl ?_
    refine V_iret C dX7_taken_51 ?_
    exact ⟨by rw [if_pos h15], rfl⟩
  · skip
    refine V_blk C (pc' := 20) (σ' := σ) (L' := [some (.ref 0), some (.int d), some (.int 4)]) (st' := [.int (-11)]) (g_c dX7_taken_18 g_n) rfl rfl ?_
    refine V_iret C dX7_taken_20 ?_
    exact ⟨by rw [if_neg (fun z => h15 z)], rfl⟩
set_option maxHeartbeats 4000000 in
set_option maxRecDepth 100000 in
theorem c_X8_taken_2_4 (σ : gS) (d : Int32) {nd : Nat} (hd : σ 63 15 = nI nd) (hd6 : nd ≤ 6) (hx : σ 68 (ix d) = 2) : g_Met yX8_taken cX8_taken 4 (some .int) 4 kM [.ref 63, .int d, .int 4] σ (fun rv s => rv = some (.int (if g_in d 0 ((σ 63 15) - 1) then (-13) else (-11))) ∧ s = σ) := by
  refine g_Met.of (own := 8) (L := [some (.ref 63), some (.int d), some (.int 4), none]) (by decide) rfl rfl (fun ad => Nat.le_of_ble_eq_true rfl) (fun ad => rfl) (fun X G K C => ?_)
  refine V_blk C (pc' := 6) (σ' := σ) (L' := [some (.ref 63), some (.int d), some (.int 4), none]) (st' := [.long 5, .long 0, .long (Int32.toInt64 4)]) (g_c dX8_taken_0 (g_c dX8_taken_1 (g_c dX8_taken_2 (g_c dX8_taken_3 g_n)))) rfl rfl ?_
  refine V_callSI C cs_X8_110 (c_X8_in32 σ 4 0 5 (by decide) (by decide)) (by decide) (by decide) (fun _ h => h) (As := [.long (Int32.toInt64 4), .long 0, .long 5]) (rest := []) rfl rfl (Nat.le_of_ble_eq_true rfl) dX8_taken_6 ?_
  refine V_if_ne_b C (tgt := 15) dX8_taken_9 (by decide) (fun _ => ?_) (fun z => absurd (by decide) z)
  refine V_blk C (pc' := 17) (σ' := σ) (L' := [some (.ref 63), some (.int d), some (.int 4), none]) (st' := [.int d, .ref 63]) (g_c dX8_taken_15 (g_c dX8_taken_16 g_n)) rfl rfl ?_
  refine V_callVI C cv_X8_127 (c_X8_isDrip σ d) ⟨_, _, _, _, rfl, rfl⟩ (by rfl) (by decide) (by decide) (fun _ h => h) (As := [.int d]) (rest := []) rfl rfl (Nat.le_of_ble_eq_true rfl) dX8_taken_17 ?_
  refine V_if_ne_b C (tgt := 26) dX8_taken_20 (by decide) (fun h20 => ?_) (fun h20 => ?_)
  · skip
    refine V_blk C (pc' := 31) (σ' := σ) (L' := [some (.ref 63), some (.int d), some (.int 4), none]) (st' := [.int d, .ref 68]) (g_c dX8_taken_26 (g_c dX8_taken_27 (g_c dX8_taken_30 g_n))) rfl rfl ?_
    refine V_iald C (k := 68) (n := 6) (by rfl) (by rfl) (g_vp h20 hd hd6 (by decide)) dX8_taken_31 ?_
    rw [show σ 68 (Int32.toNatClampNeg d) = 2 from hx]
    refine V_blk C (pc' := 35) (σ' := σ) (L' := [some (.ref 63), some (.int d), some (.int 4), some (.int 2)]) (st' := [.int (-1), .int 2]) (g_c dX8_taken_32 (g_c dX8_taken_33 (g_c dX8_taken_34 g_n))) rfl rfl ?_
    refine V_icmp_eq C (tgt := 51) dX8_taken_35 (by decide) (fun z => absurd z (by decide)) (fun _ => ?_)
    refine V_blk C (pc' := 40) (σ' := σ) (L' := [some (.ref 63), some (.int d), some (.int 4), some (.int 2)]) (st' := [.int 4, .int 2]) (g_c dX8_taken_38 (g_c dX8_taken_39 g_n)) rfl rfl ?_
    refine V_icmp_eq C (tgt := 51) dX8_taken_40 (by decide) (fun z => absurd z (by decide)) (fun _ => ?_)
    refine V_blk C (pc' := 44) (σ' := σ) (L' := [some (.ref 63), some (.int d), some (.int 4), some (.int 2)]) (st' := [.int 2]) (g_c dX8_taken_43 g_n) rfl rfl ?_
    refine V_callSI C cs_X8_396 (c_X8_over_2 σ) (by decide) (by decide) (fun _ h => h) (As := [.int 2]) (rest := []) rfl rfl (Nat.le_of_ble_eq_true rfl) dX8_taken_44 ?_
    refine V_blk C (pc' := 48) (σ' := σ) (L' := [some (.ref 63), some (.int d), some (.int 4), some (.int 0)]) (st' := []) (g_c dX8_taken_47 g_n) rfl rfl ?_
    refine V_goto C (tgt := 33) dX8_taken_48 (by decide) ?_
    refine V_blk C (pc' := 35) (σ' := σ) (L' := [some (.ref 63), some (.int d), some (.int 4), some (.int 0)]) (st' := [.int (-1), .int 0]) (g_c dX8_taken_33 (g_c dX8_taken_34 g_n)) rfl rfl ?_
    refine V_icmp_eq C (tgt := 51) dX8_taken_35 (by decide) (fun z => absurd z (by decide)) (fun _ => ?_)
    refine V_blk C (pc' := 40) (σ' := σ) (L' := [some (.ref 63), some (.int d), some (.int 4), some (.int 0)]) (st' := [.int 4, .int 0]) (g_c dX8_taken_38 (g_c dX8_taken_39 g_n)) rfl rfl ?_
    refine V_icmp_eq C (tgt := 51) dX8_taken_40 (by decide) (fun z => absurd z (by decide)) (fun _ => ?_)
    refine V_blk C (pc' := 44) (σ' := σ) (L' := [some (.ref 63), some (.int d), some (.int 4), some (.int 0)]) (st' := [.int 0]) (g_c dX8_taken_43 g_n) rfl rfl ?_
    refine V_callSI C cs_X8_396 (c_X8_over_0 σ) (by decide) (by decide) (fun _ h => h) (As := [.int 0]) (rest := []) rfl rfl (Nat.le_of_ble_eq_true rfl) dX8_taken_44 ?_
    refine V_blk C (pc' := 48) (σ' := σ) (L' := [some (.ref 63), some (.int d), some (.int 4), some (.int (-1))]) (st' := []) (g_c dX8_taken_47 g_n) rfl rfl ?_
    refine V_goto C (tgt := 33) dX8_taken_48 (by decide) ?_
    refine V_blk C (pc' := 35) (σ' := σ) (L' := [some (.ref 63), some (.int d), some (.int 4), some (.int (-1))]) (st' := [.int (-1), .int (-1)]) (g_c dX8_taken_33 (g_c dX8_taken_34 g_n)) rfl rfl ?_
    refine V_icmp_eq C (tgt := 51) dX8_taken_35 (by decide) (fun _ => ?_) (fun z => absurd z (by decide))
    refine V_blk C (pc' := 53) (σ' := σ) (L' := [some (.ref 63), some (.int d), some (.int 4), some (.int (-1))]) (st' := [.int 4, .int (-1)]) (g_c dX8_taken_51 (g_c dX8_taken_52 g_n)) rfl rfl ?_
    refine V_icmp_ne C (tgt := 65) dX8_taken_53 (by decide) (fun _ => ?_) (fun z => absurd z (by decide))
    refine V_blk C (pc' := 67) (σ' := σ) (L' := [some (.ref 63), some (.int d), some (.int 4), some (.int (-1))]) (st' := [.int (-13)]) (g_c dX8_taken_65 g_n) rfl rfl ?_
    refine V_iret C dX8_taken_67 ?_
    exact ⟨by rw [if_pos h20], rfl⟩
  · skip
    refine V_blk C (pc' := 25) (σ' := σ) (L' := [some (.ref 63), some (.int d), some (.int 4), none]) (st' := [.int (-11)]) (g_c dX8_taken_23 g_n) rfl rfl ?_
    refine V_iret C dX8_taken_25 ?_
    exact ⟨by rw [if_neg (fun z => h20 z)], rfl⟩
set_option maxHeartbeats 4000000 in
set_option maxRecDepth 100000 in
theorem c_X7_taken_2_5 (σ : gS) (d : Int32) {nd : Nat} (hd : σ 1 8 = nI nd) (hd6 : nd ≤ 6) (hx : σ 3 (ix d) = 2) : g_Met yX7_taken cX7_taken 3 (some .int) 4 kX [.ref 0, .int d, .int 5] σ (fun rv s => rv = some (.int (if g_in d 0 ((σ 1 8) - 1) then (-13) else (-11))) ∧ s = σ) := by
  refine g_Met.of (own := 7) (L := [some (.ref 0), some (.int d), some (.int 5)]) (by decide) rfl rfl (fun ad => Nat.le_of_ble_eq_true rfl) (fun ad => rfl) (fun X G K C => ?_)
  refine V_blk C (pc' := 1) (σ' := σ) (L' := [some (.ref 0), some (.int d), some (.int 5)]) (st' := [.int 5]) (g_c dX7_taken_0 g_n) rfl rfl ?_
  refine V_callSI C cs_X7_116 (c_X7_isKind σ 5) (by decide) (by decide) (fun _ h => h) (As := [.int 5]) (rest := []) rfl rfl (Nat.le_of_ble_eq_true rfl) dX7_taken_1 ?_
  refine V_if_ne_b C (tgt := 10) dX7_taken_4 (by decide) (fun _ => ?_) (fun z => absurd (by decide) z)
  refine V_blk C (pc' := 12) (σ' := σ) (L' := [some (.ref 0), some (.int d), some (.int 5)]) (st' := [.int d, .ref 0]) (g_c dX7_taken_10 (g_c dX7_taken_11 g_n)) rfl rfl ?_
  refine V_callVI C cv_X7_101 (c_X7_isDrip σ d) ⟨_, _, _, _, rfl, rfl⟩ (by rfl) (by decide) (by decide) (fun _ h => h) (As := [.int d]) (rest := []) rfl rfl (Nat.le_of_ble_eq_true rfl) dX7_taken_12 ?_
  refine V_if_ne_b C (tgt := 21) dX7_taken_15 (by decide) (fun h15 => ?_) (fun h15 => ?_)
  · skip
    refine V_blk C (pc' := 29) (σ' := σ) (L' := [some (.ref 0), some (.int d), some (.int 5)]) (st' := [.int d, .ref 3]) (g_c dX7_taken_21 (g_c dX7_taken_22 (g_c dX7_taken_25 (g_c dX7_taken_28 g_n)))) rfl rfl ?_
    refine V_iald C (k := 3) (n := 6) (by rfl) (by rfl) (g_vp h15 hd hd6 (by decide)) dX7_taken_29 ?_
    rw [show σ 3 (Int32.toNatClampNeg d) = 2 from hx]
    refine V_blk C (pc' := 31) (σ' := σ) (L' := [some (.ref 0), some (.int d), some (.int 5)]) (st' := [.int 5, .int 2]) (g_c dX7_taken_30 g_n) rfl rfl ?_
    refine V_callSI C cs_X7_287 (c_X7_isUnder_2_5 σ) (by decide) (by decide) (fun _ h => h) (As := [.int 2, .int 5]) (rest := []) rfl rfl (Nat.le_of_ble_eq_true rfl) dX7_taken_31 ?_
    refine V_if_eq C (tgt := 49) dX7_taken_34 (by decide) (fun _ => ?_) (fun z => absurd z (by decide))
    refine V_blk C (pc' := 51) (σ' := σ) (L' := [some (.ref 0), some (.int d), some (.int 5)]) (st' := [.int (-13)]) (g_c dX7_taken_49 g_n) rfl rfl ?_
    refine V_iret C dX7_taken_51 ?_
    exact ⟨by rw [if_pos h15], rfl⟩
  · skip
    refine V_blk C (pc' := 20) (σ' := σ) (L' := [some (.ref 0), some (.int d), some (.int 5)]) (st' := [.int (-11)]) (g_c dX7_taken_18 g_n) rfl rfl ?_
    refine V_iret C dX7_taken_20 ?_
    exact ⟨by rw [if_neg (fun z => h15 z)], rfl⟩
set_option maxHeartbeats 4000000 in
set_option maxRecDepth 100000 in
theorem c_X8_taken_2_5 (σ : gS) (d : Int32) {nd : Nat} (hd : σ 63 15 = nI nd) (hd6 : nd ≤ 6) (hx : σ 68 (ix d) = 2) : g_Met yX8_taken cX8_taken 4 (some .int) 4 kM [.ref 63, .int d, .int 5] σ (fun rv s => rv = some (.int (if g_in d 0 ((σ 63 15) - 1) then (-13) else (-11))) ∧ s = σ) := by
  refine g_Met.of (own := 8) (L := [some (.ref 63), some (.int d), some (.int 5), none]) (by decide) rfl rfl (fun ad => Nat.le_of_ble_eq_true rfl) (fun ad => rfl) (fun X G K C => ?_)
  refine V_blk C (pc' := 6) (σ' := σ) (L' := [some (.ref 63), some (.int d), some (.int 5), none]) (st' := [.long 5, .long 0, .long (Int32.toInt64 5)]) (g_c dX8_taken_0 (g_c dX8_taken_1 (g_c dX8_taken_2 (g_c dX8_taken_3 g_n)))) rfl rfl ?_
  refine V_callSI C cs_X8_110 (c_X8_in32 σ 5 0 5 (by decide) (by decide)) (by decide) (by decide) (fun _ h => h) (As := [.long (Int32.toInt64 5), .long 0, .long 5]) (rest := []) rfl rfl (Nat.le_of_ble_eq_true rfl) dX8_taken_6 ?_
  refine V_if_ne_b C (tgt := 15) dX8_taken_9 (by decide) (fun _ => ?_) (fun z => absurd (by decide) z)
  refine V_blk C (pc' := 17) (σ' := σ) (L' := [some (.ref 63), some (.int d), some (.int 5), none]) (st' := [.int d, .ref 63]) (g_c dX8_taken_15 (g_c dX8_taken_16 g_n)) rfl rfl ?_
  refine V_callVI C cv_X8_127 (c_X8_isDrip σ d) ⟨_, _, _, _, rfl, rfl⟩ (by rfl) (by decide) (by decide) (fun _ h => h) (As := [.int d]) (rest := []) rfl rfl (Nat.le_of_ble_eq_true rfl) dX8_taken_17 ?_
  refine V_if_ne_b C (tgt := 26) dX8_taken_20 (by decide) (fun h20 => ?_) (fun h20 => ?_)
  · skip
    refine V_blk C (pc' := 31) (σ' := σ) (L' := [some (.ref 63), some (.int d), some (.int 5), none]) (st' := [.int d, .ref 68]) (g_c dX8_taken_26 (g_c dX8_taken_27 (g_c dX8_taken_30 g_n))) rfl rfl ?_
    refine V_iald C (k := 68) (n := 6) (by rfl) (by rfl) (g_vp h20 hd hd6 (by decide)) dX8_taken_31 ?_
    rw [show σ 68 (Int32.toNatClampNeg d) = 2 from hx]
    refine V_blk C (pc' := 35) (σ' := σ) (L' := [some (.ref 63), some (.int d), some (.int 5), some (.int 2)]) (st' := [.int (-1), .int 2]) (g_c dX8_taken_32 (g_c dX8_taken_33 (g_c dX8_taken_34 g_n))) rfl rfl ?_
    refine V_icmp_eq C (tgt := 51) dX8_taken_35 (by decide) (fun z => absurd z (by decide)) (fun _ => ?_)
    refine V_blk C (pc' := 40) (σ' := σ) (L' := [some (.ref 63), some (.int d), some (.int 5), some (.int 2)]) (st' := [.int 5, .int 2]) (g_c dX8_taken_38 (g_c dX8_taken_39 g_n)) rfl rfl ?_
    refine V_icmp_eq C (tgt := 51) dX8_taken_40 (by decide) (fun z => absurd z (by decide)) (fun _ => ?_)
    refine V_blk C (pc' := 44) (σ' := σ) (L' := [some (.ref 63), some (.int d), some (.int 5), some (.int 2)]) (st' := [.int 2]) (g_c dX8_taken_43 g_n) rfl rfl ?_
    refine V_callSI C cs_X8_396 (c_X8_over_2 σ) (by decide) (by decide) (fun _ h => h) (As := [.int 2]) (rest := []) rfl rfl (Nat.le_of_ble_eq_true rfl) dX8_taken_44 ?_
    refine V_blk C (pc' := 48) (σ' := σ) (L' := [some (.ref 63), some (.int d), some (.int 5), some (.int 0)]) (st' := []) (g_c dX8_taken_47 g_n) rfl rfl ?_
    refine V_goto C (tgt := 33) dX8_taken_48 (by decide) ?_
    refine V_blk C (pc' := 35) (σ' := σ) (L' := [some (.ref 63), some (.int d), some (.int 5), some (.int 0)]) (st' := [.int (-1), .int 0]) (g_c dX8_taken_33 (g_c dX8_taken_34 g_n)) rfl rfl ?_
    refine V_icmp_eq C (tgt := 51) dX8_taken_35 (by decide) (fun z => absurd z (by decide)) (fun _ => ?_)
    refine V_blk C (pc' := 40) (σ' := σ) (L' := [some (.ref 63), some (.int d), some (.int 5), some (.int 0)]) (st' := [.int 5, .int 0]) (g_c dX8_taken_38 (g_c dX8_taken_39 g_n)) rfl rfl ?_
    refine V_icmp_eq C (tgt := 51) dX8_taken_40 (by decide) (fun z => absurd z (by decide)) (fun _ => ?_)
    refine V_blk C (pc' := 44) (σ' := σ) (L' := [some (.ref 63), some (.int d), some (.int 5), some (.int 0)]) (st' := [.int 0]) (g_c dX8_taken_43 g_n) rfl rfl ?_
    refine V_callSI C cs_X8_396 (c_X8_over_0 σ) (by decide) (by decide) (fun _ h => h) (As := [.int 0]) (rest := []) rfl rfl (Nat.le_of_ble_eq_true rfl) dX8_taken_44 ?_
    refine V_blk C (pc' := 48) (σ' := σ) (L' := [some (.ref 63), some (.int d), some (.int 5), some (.int (-1))]) (st' := []) (g_c dX8_taken_47 g_n) rfl rfl ?_
    refine V_goto C (tgt := 33) dX8_taken_48 (by decide) ?_
    refine V_blk C (pc' := 35) (σ' := σ) (L' := [some (.ref 63), some (.int d), some (.int 5), some (.int (-1))]) (st' := [.int (-1), .int (-1)]) (g_c dX8_taken_33 (g_c dX8_taken_34 g_n)) rfl rfl ?_
    refine V_icmp_eq C (tgt := 51) dX8_taken_35 (by decide) (fun _ => ?_) (fun z => absurd z (by decide))
    refine V_blk C (pc' := 53) (σ' := σ) (L' := [some (.ref 63), some (.int d), some (.int 5), some (.int (-1))]) (st' := [.int 5, .int (-1)]) (g_c dX8_taken_51 (g_c dX8_taken_52 g_n)) rfl rfl ?_
    refine V_icmp_ne C (tgt := 65) dX8_taken_53 (by decide) (fun _ => ?_) (fun z => absurd z (by decide))
    refine V_blk C (pc' := 67) (σ' := σ) (L' := [some (.ref 63), some (.int d), some (.int 5), some (.int (-1))]) (st' := [.int (-13)]) (g_c dX8_taken_65 g_n) rfl rfl ?_
    refine V_iret C dX8_taken_67 ?_
    exact ⟨by rw [if_pos h20], rfl⟩
  · skip
    refine V_blk C (pc' := 25) (σ' := σ) (L' := [some (.ref 63), some (.int d), some (.int 5), none]) (st' := [.int (-11)]) (g_c dX8_taken_23 g_n) rfl rfl ?_
    refine V_iret C dX8_taken_25 ?_
    exact ⟨by rw [if_neg (fun z => h20 z)], rfl⟩
set_option maxHeartbeats 4000000 in
set_option maxRecDepth 100000 in
theorem c_X7_taken_3_0 (σ : gS) (d : Int32) {nd : Nat} (hd : σ 1 8 = nI nd) (hd6 : nd ≤ 6) (hx : σ 3 (ix d) = 3) : g_Met yX7_taken cX7_taken 3 (some .int) 4 kX [.ref 0, .int d, .int 0] σ (fun rv s => rv = some (.int (if g_in d 0 ((σ 1 8) - 1) then (σ 4 (ix d)) else (-11))) ∧ s = σ) := by
  refine g_Met.of (own := 7) (L := [some (.ref 0), some (.int d), some (.int 0)]) (by decide) rfl rfl (fun ad => Nat.le_of_ble_eq_true rfl) (fun ad => rfl) (fun X G K C => ?_)
  refine V_blk C (pc' := 1) (σ' := σ) (L' := [some (.ref 0), some (.int d), some (.int 0)]) (st' := [.int 0]) (g_c dX7_taken_0 g_n) rfl rfl ?_
  refine V_callSI C cs_X7_116 (c_X7_isKind σ 0) (by decide) (by decide) (fun _ h => h) (As := [.int 0]) (rest := []) rfl rfl (Nat.le_of_ble_eq_true rfl) dX7_taken_1 ?_
  refine V_if_ne_b C (tgt := 10) dX7_taken_4 (by decide) (fun _ => ?_) (fun z => absurd (by decide) z)
  refine V_blk C (pc' := 12) (σ' := σ) (L' := [some (.ref 0), some (.int d), some (.int 0)]) (st' := [.int d, .ref 0]) (g_c dX7_taken_10 (g_c dX7_taken_11 g_n)) rfl rfl ?_
  refine V_callVI C cv_X7_101 (c_X7_isDrip σ d) ⟨_, _, _, _, rfl, rfl⟩ (by rfl) (by decide) (by decide) (fun _ h => h) (As := [.int d]) (rest := []) rfl rfl (Nat.le_of_ble_eq_true rfl) dX7_taken_12 ?_
  refine V_if_ne_b C (tgt := 21) dX7_taken_15 (by decide) (fun h15 => ?_) (fun h15 => ?_)
  · skip
    refine V_blk C (pc' := 29) (σ' := σ) (L' := [some (.ref 0), some (.int d), some (.int 0)]) (st' := [.int d, .ref 3]) (g_c dX7_taken_21 (g_c dX7_taken_22 (g_c dX7_taken_25 (g_c dX7_taken_28 g_n)))) rfl rfl ?_
    refine V_iald C (k := 3) (n := 6) (by rfl) (by rfl) (g_vp h15 hd hd6 (by decide)) dX7_taken_29 ?_
    rw [show σ 3 (Int32.toNatClampNeg d) = 3 from hx]
    refine V_blk C (pc' := 31) (σ' := σ) (L' := [some (.ref 0), some (.int d), some (.int 0)]) (st' := [.int 0, .int 3]) (g_c dX7_taken_30 g_n) rfl rfl ?_
    refine V_callSI C cs_X7_287 (c_X7_isUnder_3_0 σ) (by decide) (by decide) (fun _ h => h) (As := [.int 3, .int 0]) (rest := []) rfl rfl (Nat.le_of_ble_eq_true rfl) dX7_taken_31 ?_
    refine V_if_eq C (tgt := 49) dX7_taken_34 (by decide) (fun z => absurd z (by decide)) (fun _ => ?_)
    refine V_blk C (pc' := 45) (σ' := σ) (L' := [some (.ref 0), some (.int d), some (.int 0)]) (st' := [.int d, .ref 4]) (g_c dX7_taken_37 (g_c dX7_taken_38 (g_c dX7_taken_41 (g_c dX7_taken_44 g_n)))) rfl rfl ?_
    refine V_iald C (k := 4) (n := 6) (by rfl) (by rfl) (g_vp h15 hd hd6 (by decide)) dX7_taken_45 ?_
    refine V_goto C (tgt := 51) dX7_taken_46 (by decide) ?_
    refine V_iret C dX7_taken_51 ?_
    exact ⟨by rw [if_pos h15], rfl⟩
  · skip
    refine V_blk C (pc' := 20) (σ' := σ) (L' := [some (.ref 0), some (.int d), some (.int 0)]) (st' := [.int (-11)]) (g_c dX7_taken_18 g_n) rfl rfl ?_
    refine V_iret C dX7_taken_20 ?_
    exact ⟨by rw [if_neg (fun z => h15 z)], rfl⟩
set_option maxHeartbeats 4000000 in
set_option maxRecDepth 100000 in
theorem c_X8_taken_3_0 (σ : gS) (d : Int32) {nd : Nat} (hd : σ 63 15 = nI nd) (hd6 : nd ≤ 6) (hx : σ 68 (ix d) = 3) : g_Met yX8_taken cX8_taken 4 (some .int) 4 kM [.ref 63, .int d, .int 0] σ (fun rv s => rv = some (.int (if g_in d 0 ((σ 63 15) - 1) then (σ 69 (ix d)) else (-11))) ∧ s = σ) := by
  refine g_Met.of (own := 8) (L := [some (.ref 63), some (.int d), some (.int 0), none]) (by decide) rfl rfl (fun ad => Nat.le_of_ble_eq_true rfl) (fun ad => rfl) (fun X G K C => ?_)
  refine V_blk C (pc' := 6) (σ' := σ) (L' := [some (.ref 63), some (.int d), some (.int 0), none]) (st' := [.long 5, .long 0, .long (Int32.toInt64 0)]) (g_c dX8_taken_0 (g_c dX8_taken_1 (g_c dX8_taken_2 (g_c dX8_taken_3 g_n)))) rfl rfl ?_
  refine V_callSI C cs_X8_110 (c_X8_in32 σ 0 0 5 (by decide) (by decide)) (by decide) (by decide) (fun _ h => h) (As := [.long (Int32.toInt64 0), .long 0, .long 5]) (rest := []) rfl rfl (Nat.le_of_ble_eq_true rfl) dX8_taken_6 ?_
  refine V_if_ne_b C (tgt := 15) dX8_taken_9 (by decide) (fun _ => ?_) (fun z => absurd (by decide) z)
  refine V_blk C (pc' := 17) (σ' := σ) (L' := [some (.ref 63), some (.int d), some (.int 0), none]) (st' := [.int d, .ref 63]) (g_c dX8_taken_15 (g_c dX8_taken_16 g_n)) rfl rfl ?_
  refine V_callVI C cv_X8_127 (c_X8_isDrip σ d) ⟨_, _, _, _, rfl, rfl⟩ (by rfl) (by decide) (by decide) (fun _ h => h) (As := [.int d]) (rest := []) rfl rfl (Nat.le_of_ble_eq_true rfl) dX8_taken_17 ?_
  refine V_if_ne_b C (tgt := 26) dX8_taken_20 (by decide) (fun h20 => ?_) (fun h20 => ?_)
  · skip
    refine V_blk C (pc' := 31) (σ' := σ) (L' := [some (.ref 63), some (.int d), some (.int 0), none]) (st' := [.int d, .ref 68]) (g_c dX8_taken_26 (g_c dX8_taken_27 (g_c dX8_taken_30 g_n))) rfl rfl ?_
    refine V_iald C (k := 68) (n := 6) (by rfl) (by rfl) (g_vp h20 hd hd6 (by decide)) dX8_taken_31 ?_
    rw [show σ 68 (Int32.toNatClampNeg d) = 3 from hx]
    refine V_blk C (pc' := 35) (σ' := σ) (L' := [some (.ref 63), some (.int d), some (.int 0), some (.int 3)]) (st' := [.int (-1), .int 3]) (g_c dX8_taken_32 (g_c dX8_taken_33 (g_c dX8_taken_34 g_n))) rfl rfl ?_
    refine V_icmp_eq C (tgt := 51) dX8_taken_35 (by decide) (fun z => absurd z (by decide)) (fun _ => ?_)
    refine V_blk C (pc' := 40) (σ' := σ) (L' := [some (.ref 63), some (.int d), some (.int 0), some (.int 3)]) (st' := [.int 0, .int 3]) (g_c dX8_taken_38 (g_c dX8_taken_39 g_n)) rfl rfl ?_
    refine V_icmp_eq C (tgt := 51) dX8_taken_40 (by decide) (fun z => absurd z (by decide)) (fun _ => ?_)
    refine V_blk C (pc' := 44) (σ' := σ) (L' := [some (.ref 63), some (.int d), some (.int 0), some (.int 3)]) (st' := [.int 3]) (g_c dX8_taken_43 g_n) rfl rfl ?_
    refine V_callSI C cs_X8_396 (c_X8_over_3 σ) (by decide) (by decide) (fun _ h => h) (As := [.int 3]) (rest := []) rfl rfl (Nat.le_of_ble_eq_true rfl) dX8_taken_44 ?_
    refine V_blk C (pc' := 48) (σ' := σ) (L' := [some (.ref 63), some (.int d), some (.int 0), some (.int 1)]) (st' := []) (g_c dX8_taken_47 g_n) rfl rfl ?_
    refine V_goto C (tgt := 33) dX8_taken_48 (by decide) ?_
    refine V_blk C (pc' := 35) (σ' := σ) (L' := [some (.ref 63), some (.int d), some (.int 0), some (.int 1)]) (st' := [.int (-1), .int 1]) (g_c dX8_taken_33 (g_c dX8_taken_34 g_n)) rfl rfl ?_
    refine V_icmp_eq C (tgt := 51) dX8_taken_35 (by decide) (fun z => absurd z (by decide)) (fun _ => ?_)
    refine V_blk C (pc' := 40) (σ' := σ) (L' := [some (.ref 63), some (.int d), some (.int 0), some (.int 1)]) (st' := [.int 0, .int 1]) (g_c dX8_taken_38 (g_c dX8_taken_39 g_n)) rfl rfl ?_
    refine V_icmp_eq C (tgt := 51) dX8_taken_40 (by decide) (fun z => absurd z (by decide)) (fun _ => ?_)
    refine V_blk C (pc' := 44) (σ' := σ) (L' := [some (.ref 63), some (.int d), some (.int 0), some (.int 1)]) (st' := [.int 1]) (g_c dX8_taken_43 g_n) rfl rfl ?_
    refine V_callSI C cs_X8_396 (c_X8_over_1 σ) (by decide) (by decide) (fun _ h => h) (As := [.int 1]) (rest := []) rfl rfl (Nat.le_of_ble_eq_true rfl) dX8_taken_44 ?_
    refine V_blk C (pc' := 48) (σ' := σ) (L' := [some (.ref 63), some (.int d), some (.int 0), some (.int 0)]) (st' := []) (g_c dX8_taken_47 g_n) rfl rfl ?_
    refine V_goto C (tgt := 33) dX8_taken_48 (by decide) ?_
    refine V_blk C (pc' := 35) (σ' := σ) (L' := [some (.ref 63), some (.int d), some (.int 0), some (.int 0)]) (st' := [.int (-1), .int 0]) (g_c dX8_taken_33 (g_c dX8_taken_34 g_n)) rfl rfl ?_
    refine V_icmp_eq C (tgt := 51) dX8_taken_35 (by decide) (fun z => absurd z (by decide)) (fun _ => ?_)
    refine V_blk C (pc' := 40) (σ' := σ) (L' := [some (.ref 63), some (.int d), some (.int 0), some (.int 0)]) (st' := [.int 0, .int 0]) (g_c dX8_taken_38 (g_c dX8_taken_39 g_n)) rfl rfl ?_
    refine V_icmp_eq C (tgt := 51) dX8_taken_40 (by decide) (fun _ => ?_) (fun z => absurd z (by decide))
    refine V_blk C (pc' := 53) (σ' := σ) (L' := [some (.ref 63), some (.int d), some (.int 0), some (.int 0)]) (st' := [.int 0, .int 0]) (g_c dX8_taken_51 (g_c dX8_taken_52 g_n)) rfl rfl ?_
    refine V_icmp_ne C (tgt := 65) dX8_taken_53 (by decide) (fun z => absurd z (by decide)) (fun _ => ?_)
    refine V_blk C (pc' := 61) (σ' := σ) (L' := [some (.ref 63), some (.int d), some (.int 0), some (.int 0)]) (st' := [.int d, .ref 69]) (g_c dX8_taken_56 (g_c dX8_taken_57 (g_c dX8_taken_60 g_n))) rfl rfl ?_
    refine V_iald C (k := 69) (n := 6) (by rfl) (by rfl) (g_vp h20 hd hd6 (by decide)) dX8_taken_61 ?_
    refine V_goto C (tgt := 67) dX8_taken_62 (by decide) ?_
    refine V_iret C dX8_taken_67 ?_
    exact ⟨by rw [if_pos h20], rfl⟩
  · skip
    refine V_blk C (pc' := 25) (σ' := σ) (L' := [some (.ref 63), some (.int d), some (.int 0), none]) (st' := [.int (-11)]) (g_c dX8_taken_23 g_n) rfl rfl ?_
    refine V_iret C dX8_taken_25 ?_
    exact ⟨by rw [if_neg (fun z => h20 z)], rfl⟩
set_option maxHeartbeats 4000000 in
set_option maxRecDepth 100000 in
theorem c_X7_taken_3_1 (σ : gS) (d : Int32) {nd : Nat} (hd : σ 1 8 = nI nd) (hd6 : nd ≤ 6) (hx : σ 3 (ix d) = 3) : g_Met yX7_taken cX7_taken 3 (some .int) 4 kX [.ref 0, .int d, .int 1] σ (fun rv s => rv = some (.int (if g_in d 0 ((σ 1 8) - 1) then (σ 4 (ix d)) else (-11))) ∧ s = σ) := by
  refine g_Met.of (own := 7) (L := [some (.ref 0), some (.int d), some (.int 1)]) (by decide) rfl rfl (fun ad => Nat.le_of_ble_eq_true rfl) (fun ad => rfl) (fun X G K C => ?_)
  refine V_blk C (pc' := 1) (σ' := σ) (L' := [some (.ref 0), some (.int d), some (.int 1)]) (st' := [.int 1]) (g_c dX7_taken_0 g_n) rfl rfl ?_
  refine V_callSI C cs_X7_116 (c_X7_isKind σ 1) (by decide) (by decide) (fun _ h => h) (As := [.int 1]) (rest := []) rfl rfl (Nat.le_of_ble_eq_true rfl) dX7_taken_1 ?_
  refine V_if_ne_b C (tgt := 10) dX7_taken_4 (by decide) (fun _ => ?_) (fun z => absurd (by decide) z)
  refine V_blk C (pc' := 12) (σ' := σ) (L' := [some (.ref 0), some (.int d), some (.int 1)]) (st' := [.int d, .ref 0]) (g_c dX7_taken_10 (g_c dX7_taken_11 g_n)) rfl rfl ?_
  refine V_callVI C cv_X7_101 (c_X7_isDrip σ d) ⟨_, _, _, _, rfl, rfl⟩ (by rfl) (by decide) (by decide) (fun _ h => h) (As := [.int d]) (rest := []) rfl rfl (Nat.le_of_ble_eq_true rfl) dX7_taken_12 ?_
  refine V_if_ne_b C (tgt := 21) dX7_taken_15 (by decide) (fun h15 => ?_) (fun h15 => ?_)
  · skip
    refine V_blk C (pc' := 29) (σ' := σ) (L' := [some (.ref 0), some (.int d), some (.int 1)]) (st' := [.int d, .ref 3]) (g_c dX7_taken_21 (g_c dX7_taken_22 (g_c dX7_taken_25 (g_c dX7_taken_28 g_n)))) rfl rfl ?_
    refine V_iald C (k := 3) (n := 6) (by rfl) (by rfl) (g_vp h15 hd hd6 (by decide)) dX7_taken_29 ?_
    rw [show σ 3 (Int32.toNatClampNeg d) = 3 from hx]
    refine V_blk C (pc' := 31) (σ' := σ) (L' := [some (.ref 0), some (.int d), some (.int 1)]) (st' := [.int 1, .int 3]) (g_c dX7_taken_30 g_n) rfl rfl ?_
    refine V_callSI C cs_X7_287 (c_X7_isUnder_3_1 σ) (by decide) (by decide) (fun _ h => h) (As := [.int 3, .int 1]) (rest := []) rfl rfl (Nat.le_of_ble_eq_true rfl) dX7_taken_31 ?_
    refine V_if_eq C (tgt := 49) dX7_taken_34 (by decide) (fun z => absurd z (by decide)) (fun _ => ?_)
    refine V_blk C (pc' := 45) (σ' := σ) (L' := [some (.ref 0), some (.int d), some (.int 1)]) (st' := [.int d, .ref 4]) (g_c dX7_taken_37 (g_c dX7_taken_38 (g_c dX7_taken_41 (g_c dX7_taken_44 g_n)))) rfl rfl ?_
    refine V_iald C (k := 4) (n := 6) (by rfl) (by rfl) (g_vp h15 hd hd6 (by decide)) dX7_taken_45 ?_
    refine V_goto C (tgt := 51) dX7_taken_46 (by decide) ?_
    refine V_iret C dX7_taken_51 ?_
    exact ⟨by rw [if_pos h15], rfl⟩
  · skip
    refine V_blk C (pc' := 20) (σ' := σ) (L' := [some (.ref 0), some (.int d), some (.int 1)]) (st' := [.int (-11)]) (g_c dX7_taken_18 g_n) rfl rfl ?_
    refine V_iret C dX7_taken_20 ?_
    exact ⟨by rw [if_neg (fun z => h15 z)], rfl⟩
set_option maxHeartbeats 4000000 in
set_option maxRecDepth 100000 in
theorem c_X8_taken_3_1 (σ : gS) (d : Int32) {nd : Nat} (hd : σ 63 15 = nI nd) (hd6 : nd ≤ 6) (hx : σ 68 (ix d) = 3) : g_Met yX8_taken cX8_taken 4 (some .int) 4 kM [.ref 63, .int d, .int 1] σ (fun rv s => rv = some (.int (if g_in d 0 ((σ 63 15) - 1) then (σ 69 (ix d)) else (-11))) ∧ s = σ) := by
  refine g_Met.of (own := 8) (L := [some (.ref 63), some (.int d), some (.int 1), none]) (by decide) rfl rfl (fun ad => Nat.le_of_ble_eq_true rfl) (fun ad => rfl) (fun X G K C => ?_)
  refine V_blk C (pc' := 6) (σ' := σ) (L' := [some (.ref 63), some (.int d), some (.int 1), none]) (st' := [.long 5, .long 0, .long (Int32.toInt64 1)]) (g_c dX8_taken_0 (g_c dX8_taken_1 (g_c dX8_taken_2 (g_c dX8_taken_3 g_n)))) rfl rfl ?_
  refine V_callSI C cs_X8_110 (c_X8_in32 σ 1 0 5 (by decide) (by decide)) (by decide) (by decide) (fun _ h => h) (As := [.long (Int32.toInt64 1), .long 0, .long 5]) (rest := []) rfl rfl (Nat.le_of_ble_eq_true rfl) dX8_taken_6 ?_
  refine V_if_ne_b C (tgt := 15) dX8_taken_9 (by decide) (fun _ => ?_) (fun z => absurd (by decide) z)
  refine V_blk C (pc' := 17) (σ' := σ) (L' := [some (.ref 63), some (.int d), some (.int 1), none]) (st' := [.int d, .ref 63]) (g_c dX8_taken_15 (g_c dX8_taken_16 g_n)) rfl rfl ?_
  refine V_callVI C cv_X8_127 (c_X8_isDrip σ d) ⟨_, _, _, _, rfl, rfl⟩ (by rfl) (by decide) (by decide) (fun _ h => h) (As := [.int d]) (rest := []) rfl rfl (Nat.le_of_ble_eq_true rfl) dX8_taken_17 ?_
  refine V_if_ne_b C (tgt := 26) dX8_taken_20 (by decide) (fun h20 => ?_) (fun h20 => ?_)
  · skip
    refine V_blk C (pc' := 31) (σ' := σ) (L' := [some (.ref 63), some (.int d), some (.int 1), none]) (st' := [.int d, .ref 68]) (g_c dX8_taken_26 (g_c dX8_taken_27 (g_c dX8_taken_30 g_n))) rfl rfl ?_
    refine V_iald C (k := 68) (n := 6) (by rfl) (by rfl) (g_vp h20 hd hd6 (by decide)) dX8_taken_31 ?_
    rw [show σ 68 (Int32.toNatClampNeg d) = 3 from hx]
    refine V_blk C (pc' := 35) (σ' := σ) (L' := [some (.ref 63), some (.int d), some (.int 1), some (.int 3)]) (st' := [.int (-1), .int 3]) (g_c dX8_taken_32 (g_c dX8_taken_33 (g_c dX8_taken_34 g_n))) rfl rfl ?_
    refine V_icmp_eq C (tgt := 51) dX8_taken_35 (by decide) (fun z => absurd z (by decide)) (fun _ => ?_)
    refine V_blk C (pc' := 40) (σ' := σ) (L' := [some (.ref 63), some (.int d), some (.int 1), some (.int 3)]) (st' := [.int 1, .int 3]) (g_c dX8_taken_38 (g_c dX8_taken_39 g_n)) rfl rfl ?_
    refine V_icmp_eq C (tgt := 51) dX8_taken_40 (by decide) (fun z => absurd z (by decide)) (fun _ => ?_)
    refine V_blk C (pc' := 44) (σ' := σ) (L' := [some (.ref 63), some (.int d), some (.int 1), some (.int 3)]) (st' := [.int 3]) (g_c dX8_taken_43 g_n) rfl rfl ?_
    refine V_callSI C cs_X8_396 (c_X8_over_3 σ) (by decide) (by decide) (fun _ h => h) (As := [.int 3]) (rest := []) rfl rfl (Nat.le_of_ble_eq_true rfl) dX8_taken_44 ?_
    refine V_blk C (pc' := 48) (σ' := σ) (L' := [some (.ref 63), some (.int d), some (.int 1), some (.int 1)]) (st' := []) (g_c dX8_taken_47 g_n) rfl rfl ?_
    refine V_goto C (tgt := 33) dX8_taken_48 (by decide) ?_
    refine V_blk C (pc' := 35) (σ' := σ) (L' := [some (.ref 63), some (.int d), some (.int 1), some (.int 1)]) (st' := [.int (-1), .int 1]) (g_c dX8_taken_33 (g_c dX8_taken_34 g_n)) rfl rfl ?_
    refine V_icmp_eq C (tgt := 51) dX8_taken_35 (by decide) (fun z => absurd z (by decide)) (fun _ => ?_)
    refine V_blk C (pc' := 40) (σ' := σ) (L' := [some (.ref 63), some (.int d), some (.int 1), some (.int 1)]) (st' := [.int 1, .int 1]) (g_c dX8_taken_38 (g_c dX8_taken_39 g_n)) rfl rfl ?_
    refine V_icmp_eq C (tgt := 51) dX8_taken_40 (by decide) (fun _ => ?_) (fun z => absurd z (by decide))
    refine V_blk C (pc' := 53) (σ' := σ) (L' := [some (.ref 63), some (.int d), some (.int 1), some (.int 1)]) (st' := [.int 1, .int 1]) (g_c dX8_taken_51 (g_c dX8_taken_52 g_n)) rfl rfl ?_
    refine V_icmp_ne C (tgt := 65) dX8_taken_53 (by decide) (fun z => absurd z (by decide)) (fun _ => ?_)
    refine V_blk C (pc' := 61) (σ' := σ) (L' := [some (.ref 63), some (.int d), some (.int 1), some (.int 1)]) (st' := [.int d, .ref 69]) (g_c dX8_taken_56 (g_c dX8_taken_57 (g_c dX8_taken_60 g_n))) rfl rfl ?_
    refine V_iald C (k := 69) (n := 6) (by rfl) (by rfl) (g_vp h20 hd hd6 (by decide)) dX8_taken_61 ?_
    refine V_goto C (tgt := 67) dX8_taken_62 (by decide) ?_
    refine V_iret C dX8_taken_67 ?_
    exact ⟨by rw [if_pos h20], rfl⟩
  · skip
    refine V_blk C (pc' := 25) (σ' := σ) (L' := [some (.ref 63), some (.int d), some (.int 1), none]) (st' := [.int (-11)]) (g_c dX8_taken_23 g_n) rfl rfl ?_
    refine V_iret C dX8_taken_25 ?_
    exact ⟨by rw [if_neg (fun z => h20 z)], rfl⟩
set_option maxHeartbeats 4000000 in
set_option maxRecDepth 100000 in
theorem c_X7_taken_3_2 (σ : gS) (d : Int32) {nd : Nat} (hd : σ 1 8 = nI nd) (hd6 : nd ≤ 6) (hx : σ 3 (ix d) = 3) : g_Met yX7_taken cX7_taken 3 (some .int) 4 kX [.ref 0, .int d, .int 2] σ (fun rv s => rv = some (.int (if g_in d 0 ((σ 1 8) - 1) then (-13) else (-11))) ∧ s = σ) := by
  refine g_Met.of (own := 7) (L := [some (.ref 0), some (.int d), some (.int 2)]) (by decide) rfl rfl (fun ad => Nat.le_of_ble_eq_true rfl) (fun ad => rfl) (fun X G K C => ?_)
  refine V_blk C (pc' := 1) (σ' := σ) (L' := [some (.ref 0), some (.int d), some (.int 2)]) (st' := [.int 2]) (g_c dX7_taken_0 g_n) rfl rfl ?_
  refine V_callSI C cs_X7_116 (c_X7_isKind σ 2) (by decide) (by decide) (fun _ h => h) (As := [.int 2]) (rest := []) rfl rfl (Nat.le_of_ble_eq_true rfl) dX7_taken_1 ?_
  refine V_if_ne_b C (tgt := 10) dX7_taken_4 (by decide) (fun _ => ?_) (fun z => absurd (by decide) z)
  refine V_blk C (pc' := 12) (σ' := σ) (L' := [some (.ref 0), some (.int d), some (.int 2)]) (st' := [.int d, .ref 0]) (g_c dX7_taken_10 (g_c dX7_taken_11 g_n)) rfl rfl ?_
  refine V_callVI C cv_X7_101 (c_X7_isDrip σ d) ⟨_, _, _, _, rfl, rfl⟩ (by rfl) (by decide) (by decide) (fun _ h => h) (As := [.int d]) (rest := []) rfl rfl (Nat.le_of_ble_eq_true rfl) dX7_taken_12 ?_
  refine V_if_ne_b C (tgt := 21) dX7_taken_15 (by decide) (fun h15 => ?_) (fun h15 => ?_)
  · skip
    refine V_blk C (pc' := 29) (σ' := σ) (L' := [some (.ref 0), some (.int d), some (.int 2)]) (st' := [.int d, .ref 3]) (g_c dX7_taken_21 (g_c dX7_taken_22 (g_c dX7_taken_25 (g_c dX7_taken_28 g_n)))) rfl rfl ?_
    refine V_iald C (k := 3) (n := 6) (by rfl) (by rfl) (g_vp h15 hd hd6 (by decide)) dX7_taken_29 ?_
    rw [show σ 3 (Int32.toNatClampNeg d) = 3 from hx]
    refine V_blk C (pc' := 31) (σ' := σ) (L' := [some (.ref 0), some (.int d), some (.int 2)]) (st' := [.int 2, .int 3]) (g_c dX7_taken_30 g_n) rfl rfl ?_
    refine V_callSI C cs_X7_287 (c_X7_isUnder_3_2 σ) (by decide) (by decide) (fun _ h => h) (As := [.int 3, .int 2]) (rest := []) rfl rfl (Nat.le_of_ble_eq_true rfl) dX7_taken_31 ?_
    refine V_if_eq C (tgt := 49) dX7_taken_34 (by decide) (fun _ => ?_) (fun z => absurd z (by decide))
    refine V_blk C (pc' := 51) (σ' := σ) (L' := [some (.ref 0), some (.int d), some (.int 2)]) (st' := [.int (-13)]) (g_c dX7_taken_49 g_n) rfl rfl ?_
    refine V_iret C dX7_taken_51 ?_
    exact ⟨by rw [if_pos h15], rfl⟩
  · skip
    refine V_blk C (pc' := 20) (σ' := σ) (L' := [some (.ref 0), some (.int d), some (.int 2)]) (st' := [.int (-11)]) (g_c dX7_taken_18 g_n) rfl rfl ?_
    refine V_iret C dX7_taken_20 ?_
    exact ⟨by rw [if_neg (fun z => h15 z)], rfl⟩
set_option maxHeartbeats 4000000 in
set_option maxRecDepth 100000 in
theorem c_X8_taken_3_2 (σ : gS) (d : Int32) {nd : Nat} (hd : σ 63 15 = nI nd) (hd6 : nd ≤ 6) (hx : σ 68 (ix d) = 3) : g_Met yX8_taken cX8_taken 4 (some .int) 4 kM [.ref 63, .int d, .int 2] σ (fun rv s => rv = some (.int (if g_in d 0 ((σ 63 15) - 1) then (-13) else (-11))) ∧ s = σ) := by
  refine g_Met.of (own := 8) (L := [some (.ref 63), some (.int d), some (.int 2), none]) (by decide) rfl rfl (fun ad => Nat.le_of_ble_eq_true rfl) (fun ad => rfl) (fun X G K C => ?_)
  refine V_blk C (pc' := 6) (σ' := σ) (L' := [some (.ref 63), some (.int d), some (.int 2), none]) (st' := [.long 5, .long 0, .long (Int32.toInt64 2)]) (g_c dX8_taken_0 (g_c dX8_taken_1 (g_c dX8_taken_2 (g_c dX8_taken_3 g_n)))) rfl rfl ?_
  refine V_callSI C cs_X8_110 (c_X8_in32 σ 2 0 5 (by decide) (by decide)) (by decide) (by decide) (fun _ h => h) (As := [.long (Int32.toInt64 2), .long 0, .long 5]) (rest := []) rfl rfl (Nat.le_of_ble_eq_true rfl) dX8_taken_6 ?_
  refine V_if_ne_b C (tgt := 15) dX8_taken_9 (by decide) (fun _ => ?_) (fun z => absurd (by decide) z)
  refine V_blk C (pc' := 17) (σ' := σ) (L' := [some (.ref 63), some (.int d), some (.int 2), none]) (st' := [.int d, .ref 63]) (g_c dX8_taken_15 (g_c dX8_taken_16 g_n)) rfl rfl ?_
  refine V_callVI C cv_X8_127 (c_X8_isDrip σ d) ⟨_, _, _, _, rfl, rfl⟩ (by rfl) (by decide) (by decide) (fun _ h => h) (As := [.int d]) (rest := []) rfl rfl (Nat.le_of_ble_eq_true rfl) dX8_taken_17 ?_
  refine V_if_ne_b C (tgt := 26) dX8_taken_20 (by decide) (fun h20 => ?_) (fun h20 => ?_)
  · skip
    refine V_blk C (pc' := 31) (σ' := σ) (L' := [some (.ref 63), some (.int d), some (.int 2), none]) (st' := [.int d, .ref 68]) (g_c dX8_taken_26 (g_c dX8_taken_27 (g_c dX8_taken_30 g_n))) rfl rfl ?_
    refine V_iald C (k := 68) (n := 6) (by rfl) (by rfl) (g_vp h20 hd hd6 (by decide)) dX8_taken_31 ?_
    rw [show σ 68 (Int32.toNatClampNeg d) = 3 from hx]
    refine V_blk C (pc' := 35) (σ' := σ) (L' := [some (.ref 63), some (.int d), some (.int 2), some (.int 3)]) (st' := [.int (-1), .int 3]) (g_c dX8_taken_32 (g_c dX8_taken_33 (g_c dX8_taken_34 g_n))) rfl rfl ?_
    refine V_icmp_eq C (tgt := 51) dX8_taken_35 (by decide) (fun z => absurd z (by decide)) (fun _ => ?_)
    refine V_blk C (pc' := 40) (σ' := σ) (L' := [some (.ref 63), some (.int d), some (.int 2), some (.int 3)]) (st' := [.int 2, .int 3]) (g_c dX8_taken_38 (g_c dX8_taken_39 g_n)) rfl rfl ?_
    refine V_icmp_eq C (tgt := 51) dX8_taken_40 (by decide) (fun z => absurd z (by decide)) (fun _ => ?_)
    refine V_blk C (pc' := 44) (σ' := σ) (L' := [some (.ref 63), some (.int d), some (.int 2), some (.int 3)]) (st' := [.int 3]) (g_c dX8_taken_43 g_n) rfl rfl ?_
    refine V_callSI C cs_X8_396 (c_X8_over_3 σ) (by decide) (by decide) (fun _ h => h) (As := [.int 3]) (rest := []) rfl rfl (Nat.le_of_ble_eq_true rfl) dX8_taken_44 ?_
    refine V_blk C (pc' := 48) (σ' := σ) (L' := [some (.ref 63), some (.int d), some (.int 2), some (.int 1)]) (st' := []) (g_c dX8_taken_47 g_n) rfl rfl ?_
    refine V_goto C (tgt := 33) dX8_taken_48 (by decide) ?_
    refine V_blk C (pc' := 35) (σ' := σ) (L' := [some (.ref 63), some (.int d), some (.int 2), some (.int 1)]) (st' := [.int (-1), .int 1]) (g_c dX8_taken_33 (g_c dX8_taken_34 g_n)) rfl rfl ?_
    refine V_icmp_eq C (tgt := 51) dX8_taken_35 (by decide) (fun z => absurd z (by decide)) (fun _ => ?_)
    refine V_blk C (pc' := 40) (σ' := σ) (L' := [some (.ref 63), some (.int d), some (.int 2), some (.int 1)]) (st' := [.int 2, .int 1]) (g_c dX8_taken_38 (g_c dX8_taken_39 g_n)) rfl rfl ?_
    refine V_icmp_eq C (tgt := 51) dX8_taken_40 (by decide) (fun z => absurd z (by decide)) (fun _ => ?_)
    refine V_blk C (pc' := 44) (σ' := σ) (L' := [some (.ref 63), some (.int d), some (.int 2), some (.int 1)]) (st' := [.int 1]) (g_c dX8_taken_43 g_n) rfl rfl ?_
    refine V_callSI C cs_X8_396 (c_X8_over_1 σ) (by decide) (by decide) (fun _ h => h) (As := [.int 1]) (rest := []) rfl rfl (Nat.le_of_ble_eq_true rfl) dX8_taken_44 ?_
    refine V_blk C (pc' := 48) (σ' := σ) (L' := [some (.ref 63), some (.int d), some (.int 2), some (.int 0)]) (st' := []) (g_c dX8_taken_47 g_n) rfl rfl ?_
    refine V_goto C (tgt := 33) dX8_taken_48 (by decide) ?_
    refine V_blk C (pc' := 35) (σ' := σ) (L' := [some (.ref 63), some (.int d), some (.int 2), some (.int 0)]) (st' := [.int (-1), .int 0]) (g_c dX8_taken_33 (g_c dX8_taken_34 g_n)) rfl rfl ?_
    refine V_icmp_eq C (tgt := 51) dX8_taken_35 (by decide) (fun z => absurd z (by decide)) (fun _ => ?_)
    refine V_blk C (pc' := 40) (σ' := σ) (L' := [some (.ref 63), some (.int d), some (.int 2), some (.int 0)]) (st' := [.int 2, .int 0]) (g_c dX8_taken_38 (g_c dX8_taken_39 g_n)) rfl rfl ?_
    refine V_icmp_eq C (tgt := 51) dX8_taken_40 (by decide) (fun z => absurd z (by decide)) (fun _ => ?_)
    refine V_blk C (pc' := 44) (σ' := σ) (L' := [some (.ref 63), some (.int d), some (.int 2), some (.int 0)]) (st' := [.int 0]) (g_c dX8_taken_43 g_n) rfl rfl ?_
    refine V_callSI C cs_X8_396 (c_X8_over_0 σ) (by decide) (by decide) (fun _ h => h) (As := [.int 0]) (rest := []) rfl rfl (Nat.le_of_ble_eq_true rfl) dX8_taken_44 ?_
    refine V_blk C (pc' := 48) (σ' := σ) (L' := [some (.ref 63), some (.int d), some (.int 2), some (.int (-1))]) (st' := []) (g_c dX8_taken_47 g_n) rfl rfl ?_
    refine V_goto C (tgt := 33) dX8_taken_48 (by decide) ?_
    refine V_blk C (pc' := 35) (σ' := σ) (L' := [some (.ref 63), some (.int d), some (.int 2), some (.int (-1))]) (st' := [.int (-1), .int (-1)]) (g_c dX8_taken_33 (g_c dX8_taken_34 g_n)) rfl rfl ?_
    refine V_icmp_eq C (tgt := 51) dX8_taken_35 (by decide) (fun _ => ?_) (fun z => absurd z (by decide))
    refine V_blk C (pc' := 53) (σ' := σ) (L' := [some (.ref 63), some (.int d), some (.int 2), some (.int (-1))]) (st' := [.int 2, .int (-1)]) (g_c dX8_taken_51 (g_c dX8_taken_52 g_n)) rfl rfl ?_
    refine V_icmp_ne C (tgt := 65) dX8_taken_53 (by decide) (fun _ => ?_) (fun z => absurd z (by decide))
    refine V_blk C (pc' := 67) (σ' := σ) (L' := [some (.ref 63), some (.int d), some (.int 2), some (.int (-1))]) (st' := [.int (-13)]) (g_c dX8_taken_65 g_n) rfl rfl ?_
    refine V_iret C dX8_taken_67 ?_
    exact ⟨by rw [if_pos h20], rfl⟩
  · skip
    refine V_blk C (pc' := 25) (σ' := σ) (L' := [some (.ref 63), some (.int d), some (.int 2), none]) (st' := [.int (-11)]) (g_c dX8_taken_23 g_n) rfl rfl ?_
    refine V_iret C dX8_taken_25 ?_
    exact ⟨by rw [if_neg (fun z => h20 z)], rfl⟩
set_option maxHeartbeats 4000000 in
set_option maxRecDepth 100000 in
theorem c_X7_taken_3_3 (σ : gS) (d : Int32) {nd : Nat} (hd : σ 1 8 = nI nd) (hd6 : nd ≤ 6) (hx : σ 3 (ix d) = 3) : g_Met yX7_taken cX7_taken 3 (some .int) 4 kX [.ref 0, .int d, .int 3] σ (fun rv s => rv = some (.int (if g_in d 0 ((σ 1 8) - 1) then (σ 4 (ix d)) else (-11))) ∧ s = σ) := by
  refine g_Met.of (own := 7) (L := [some (.ref 0), some (.int d), some (.int 3)]) (by decide) rfl rfl (fun ad => Nat.le_of_ble_eq_true rfl) (fun ad => rfl) (fun X G K C => ?_)
  refine V_blk C (pc' := 1) (σ' := σ) (L' := [some (.ref 0), some (.int d), some (.int 3)]) (st' := [.int 3]) (g_c dX7_taken_0 g_n) rfl rfl ?_
  refine V_callSI C cs_X7_116 (c_X7_isKind σ 3) (by decide) (by decide) (fun _ h => h) (As := [.int 3]) (rest := []) rfl rfl (Nat.le_of_ble_eq_true rfl) dX7_taken_1 ?_
  refine V_if_ne_b C (tgt := 10) dX7_taken_4 (by decide) (fun _ => ?_) (fun z => absurd (by decide) z)
  refine V_blk C (pc' := 12) (σ' := σ) (L' := [some (.ref 0), some (.int d), some (.int 3)]) (st' := [.int d, .ref 0]) (g_c dX7_taken_10 (g_c dX7_taken_11 g_n)) rfl rfl ?_
  refine V_callVI C cv_X7_101 (c_X7_isDrip σ d) ⟨_, _, _, _, rfl, rfl⟩ (by rfl) (by decide) (by decide) (fun _ h => h) (As := [.int d]) (rest := []) rfl rfl (Nat.le_of_ble_eq_true rfl) dX7_taken_12 ?_
  refine V_if_ne_b C (tgt := 21) dX7_taken_15 (by decide) (fun h15 => ?_) (fun h15 => ?_)
  · skip
    refine V_blk C (pc' := 29) (σ' := σ) (L' := [some (.ref 0), some (.int d), some (.int 3)]) (st' := [.int d, .ref 3]) (g_c dX7_taken_21 (g_c dX7_taken_22 (g_c dX7_taken_25 (g_c dX7_taken_28 g_n)))) rfl rfl ?_
    refine V_iald C (k := 3) (n := 6) (by rfl) (by rfl) (g_vp h15 hd hd6 (by decide)) dX7_taken_29 ?_
    rw [show σ 3 (Int32.toNatClampNeg d) = 3 from hx]
    refine V_blk C (pc' := 31) (σ' := σ) (L' := [some (.ref 0), some (.int d), some (.int 3)]) (st' := [.int 3, .int 3]) (g_c dX7_taken_30 g_n) rfl rfl ?_
    refine V_callSI C cs_X7_287 (c_X7_isUnder_3_3 σ) (by decide) (by decide) (fun _ h => h) (As := [.int 3, .int 3]) (rest := []) rfl rfl (Nat.le_of_ble_eq_true rfl) dX7_taken_31 ?_
    refine V_if_eq C (tgt := 49) dX7_taken_34 (by decide) (fun z => absurd z (by decide)) (fun _ => ?_)
    refine V_blk C (pc' := 45) (σ' := σ) (L' := [some (.ref 0), some (.int d), some (.int 3)]) (st' := [.int d, .ref 4]) (g_c dX7_taken_37 (g_c dX7_taken_38 (g_c dX7_taken_41 (g_c dX7_taken_44 g_n)))) rfl rfl ?_
    refine V_iald C (k := 4) (n := 6) (by rfl) (by rfl) (g_vp h15 hd hd6 (by decide)) dX7_taken_45 ?_
    refine V_goto C (tgt := 51) dX7_taken_46 (by decide) ?_
    refine V_iret C dX7_taken_51 ?_
    exact ⟨by rw [if_pos h15], rfl⟩
  · skip
    refine V_blk C (pc' := 20) (σ' := σ) (L' := [some (.ref 0), some (.int d), some (.int 3)]) (st' := [.int (-11)]) (g_c dX7_taken_18 g_n) rfl rfl ?_
    refine V_iret C dX7_taken_20 ?_
    exact ⟨by rw [if_neg (fun z => h15 z)], rfl⟩
set_option maxHeartbeats 4000000 in
set_option maxRecDepth 100000 in
theorem c_X8_taken_3_3 (σ : gS) (d : Int32) {nd : Nat} (hd : σ 63 15 = nI nd) (hd6 : nd ≤ 6) (hx : σ 68 (ix d) = 3) : g_Met yX8_taken cX8_taken 4 (some .int) 4 kM [.ref 63, .int d, .int 3] σ (fun rv s => rv = some (.int (if g_in d 0 ((σ 63 15) - 1) then (σ 69 (ix d)) else (-11))) ∧ s = σ) := by
  refine g_Met.of (own := 8) (L := [some (.ref 63), some (.int d), some (.int 3), none]) (by decide) rfl rfl (fun ad => Nat.le_of_ble_eq_true rfl) (fun ad => rfl) (fun X G K C => ?_)
  refine V_blk C (pc' := 6) (σ' := σ) (L' := [some (.ref 63), some (.int d), some (.int 3), none]) (st' := [.long 5, .long 0, .long (Int32.toInt64 3)]) (g_c dX8_taken_0 (g_c dX8_taken_1 (g_c dX8_taken_2 (g_c dX8_taken_3 g_n)))) rfl rfl ?_
  refine V_callSI C cs_X8_110 (c_X8_in32 σ 3 0 5 (by decide) (by decide)) (by decide) (by decide) (fun _ h => h) (As := [.long (Int32.toInt64 3), .long 0, .long 5]) (rest := []) rfl rfl (Nat.le_of_ble_eq_true rfl) dX8_taken_6 ?_
  refine V_if_ne_b C (tgt := 15) dX8_taken_9 (by decide) (fun _ => ?_) (fun z => absurd (by decide) z)
  refine V_blk C (pc' := 17) (σ' := σ) (L' := [some (.ref 63), some (.int d), some (.int 3), none]) (st' := [.int d, .ref 63]) (g_c dX8_taken_15 (g_c dX8_taken_16 g_n)) rfl rfl ?_
  refine V_callVI C cv_X8_127 (c_X8_isDrip σ d) ⟨_, _, _, _, rfl, rfl⟩ (by rfl) (by decide) (by decide) (fun _ h => h) (As := [.int d]) (rest := []) rfl rfl (Nat.le_of_ble_eq_true rfl) dX8_taken_17 ?_
  refine V_if_ne_b C (tgt := 26) dX8_taken_20 (by decide) (fun h20 => ?_) (fun h20 => ?_)
  · skip
    refine V_blk C (pc' := 31) (σ' := σ) (L' := [some (.ref 63), some (.int d), some (.int 3), none]) (st' := [.int d, .ref 68]) (g_c dX8_taken_26 (g_c dX8_taken_27 (g_c dX8_taken_30 g_n))) rfl rfl ?_
    refine V_iald C (k := 68) (n := 6) (by rfl) (by rfl) (g_vp h20 hd hd6 (by decide)) dX8_taken_31 ?_
    rw [show σ 68 (Int32.toNatClampNeg d) = 3 from hx]
    refine V_blk C (pc' := 35) (σ' := σ) (L' := [some (.ref 63), some (.int d), some (.int 3), some (.int 3)]) (st' := [.int (-1), .int 3]) (g_c dX8_taken_32 (g_c dX8_taken_33 (g_c dX8_taken_34 g_n))) rfl rfl ?_
    refine V_icmp_eq C (tgt := 51) dX8_taken_35 (by decide) (fun z => absurd z (by decide)) (fun _ => ?_)
    refine V_blk C (pc' := 40) (σ' := σ) (L' := [some (.ref 63), some (.int d), some (.int 3), some (.int 3)]) (st' := [.int 3, .int 3]) (g_c dX8_taken_38 (g_c dX8_taken_39 g_n)) rfl rfl ?_
    refine V_icmp_eq C (tgt := 51) dX8_taken_40 (by decide) (fun _ => ?_) (fun z => absurd z (by decide))
    refine V_blk C (pc' := 53) (σ' := σ) (L' := [some (.ref 63), some (.int d), some (.int 3), some (.int 3)]) (st' := [.int 3, .int 3]) (g_c dX8_taken_51 (g_c dX8_taken_52 g_n)) rfl rfl ?_
    refine V_icmp_ne C (tgt := 65) dX8_taken_53 (by decide) (fun z => absurd z (by decide)) (fun _ => ?_)
    refine V_blk C (pc' := 61) (σ' := σ) (L' := [some (.ref 63), some (.int d), some (.int 3), some (.int 3)]) (st' := [.int d, .ref 69]) (g_c dX8_taken_56 (g_c dX8_taken_57 (g_c dX8_taken_60 g_n))) rfl rfl ?_
    refine V_iald C (k := 69) (n := 6) (by rfl) (by rfl) (g_vp h20 hd hd6 (by decide)) dX8_taken_61 ?_
    refine V_goto C (tgt := 67) dX8_taken_62 (by decide) ?_
    refine V_iret C dX8_taken_67 ?_
    exact ⟨by rw [if_pos h20], rfl⟩
  · skip
    refine V_blk C (pc' := 25) (σ' := σ) (L' := [some (.ref 63), some (.int d), some (.int 3), none]) (st' := [.int (-11)]) (g_c dX8_taken_23 g_n) rfl rfl ?_
    refine V_iret C dX8_taken_25 ?_
    exact ⟨by rw [if_neg (fun z => h20 z)], rfl⟩
set_option maxHeartbeats 4000000 in
set_option maxRecDepth 100000 in
theorem c_X7_taken_3_4 (σ : gS) (d : Int32) {nd : Nat} (hd : σ 1 8 = nI nd) (hd6 : nd ≤ 6) (hx : σ 3 (ix d) = 3) : g_Met yX7_taken cX7_taken 3 (some .int) 4 kX [.ref 0, .int d, .int 4] σ (fun rv s => rv = some (.int (if g_in d 0 ((σ 1 8) - 1) then (-13) else (-11))) ∧ s = σ) := by
  refine g_Met.of (own := 7) (L := [some (.ref 0), some (.int d), some (.int 4)]) (by decide) rfl rfl (fun ad => Nat.le_of_ble_eq_true rfl) (fun ad => rfl) (fun X G K C => ?_)
  refine V_blk C (pc' := 1) (σ' := σ) (L' := [some (.ref 0), some (.int d), some (.int 4)]) (st' := [.int 4]) (g_c dX7_taken_0 g_n) rfl rfl ?_
  refine V_callSI C cs_X7_116 (c_X7_isKind σ 4) (by decide) (by decide) (fun _ h => h) (As := [.int 4]) (rest := []) rfl rfl (Nat.le_of_ble_eq_true rfl) dX7_taken_1 ?_
  refine V_if_ne_b C (tgt := 10) dX7_taken_4 (by decide) (fun _ => ?_) (fun z => absurd (by decide) z)
  refine V_blk C (pc' := 12) (σ' := σ) (L' := [some (.ref 0), some (.int d), some (.int 4)]) (st' := [.int d, .ref 0]) (g_c dX7_taken_10 (g_c dX7_taken_11 g_n)) rfl rfl ?_
  refine V_callVI C cv_X7_101 (c_X7_isDrip σ d) ⟨_, _, _, _, rfl, rfl⟩ (by rfl) (by decide) (by decide) (fun _ h => h) (As := [.int d]) (rest := []) rfl rfl (Nat.le_of_ble_eq_true rfl) dX7_taken_12 ?_
  refine V_if_ne_b C (tgt := 21) dX7_taken_15 (by decide) (fun h15 => ?_) (fun h15 => ?_)
  · skip
    refine V_blk C (pc' := 29) (σ' := σ) (L' := [some (.ref 0), some (.int d), some (.int 4)]) (st' := [.int d, .ref 3]) (g_c dX7_taken_21 (g_c dX7_taken_22 (g_c dX7_taken_25 (g_c dX7_taken_28 g_n)))) rfl rfl ?_
    refine V_iald C (k := 3) (n := 6) (by rfl) (by rfl) (g_vp h15 hd hd6 (by decide)) dX7_taken_29 ?_
    rw [show σ 3 (Int32.toNatClampNeg d) = 3 from hx]
    refine V_blk C (pc' := 31) (σ' := σ) (L' := [some (.ref 0), some (.int d), some (.int 4)]) (st' := [.int 4, .int 3]) (g_c dX7_taken_30 g_n) rfl rfl ?_
    refine V_callSI C cs_X7_287 (c_X7_isUnder_3_4 σ) (by decide) (by decide) (fun _ h => h) (As := [.int 3, .int 4]) (rest := []) rfl rfl (Nat.le_of_ble_eq_true rfl) dX7_taken_31 ?_
    refine V_if_eq C (tgt := 49) dX7_taken_34 (by decide) (fun _ => ?_) (fun z => absurd z (by decide))
    refine V_blk C (pc' := 51) (σ' := σ) (L' := [some (.ref 0), some (.int d), some (.int 4)]) (st' := [.int (-13)]) (g_c dX7_taken_49 g_n) rfl rfl ?_
    refine V_iret C dX7_taken_51 ?_
    exact ⟨by rw [if_pos h15], rfl⟩
  · skip
    refine V_blk C (pc' := 20) (σ' := σ) (L' := [some (.ref 0), some (.int d), some (.int 4)]) (st' := [.int (-11)]) (g_c dX7_taken_18 g_n) rfl rfl ?_
    refine V_iret C dX7_taken_20 ?_
    exact ⟨by rw [if_neg (fun z => h15 z)], rfl⟩
set_option maxHeartbeats 4000000 in
set_option maxRecDepth 100000 in
theorem c_X8_taken_3_4 (σ : gS) (d : Int32) {nd : Nat} (hd : σ 63 15 = nI nd) (hd6 : nd ≤ 6) (hx : σ 68 (ix d) = 3) : g_Met yX8_taken cX8_taken 4 (some .int) 4 kM [.ref 63, .int d, .int 4] σ (fun rv s => rv = some (.int (if g_in d 0 ((σ 63 15) - 1) then (-13) else (-11))) ∧ s = σ) := by
  refine g_Met.of (own := 8) (L := [some (.ref 63), some (.int d), some (.int 4), none]) (by decide) rfl rfl (fun ad => Nat.le_of_ble_eq_true rfl) (fun ad => rfl) (fun X G K C => ?_)
  refine V_blk C (pc' := 6) (σ' := σ) (L' := [some (.ref 63), some (.int d), some (.int 4), none]) (st' := [.long 5, .long 0, .long (Int32.toInt64 4)]) (g_c dX8_taken_0 (g_c dX8_taken_1 (g_c dX8_taken_2 (g_c dX8_taken_3 g_n)))) rfl rfl ?_
  refine V_callSI C cs_X8_110 (c_X8_in32 σ 4 0 5 (by decide) (by decide)) (by decide) (by decide) (fun _ h => h) (As := [.long (Int32.toInt64 4), .long 0, .long 5]) (rest := []) rfl rfl (Nat.le_of_ble_eq_true rfl) dX8_taken_6 ?_
  refine V_if_ne_b C (tgt := 15) dX8_taken_9 (by decide) (fun _ => ?_) (fun z => absurd (by decide) z)
  refine V_blk C (pc' := 17) (σ' := σ) (L' := [some (.ref 63), some (.int d), some (.int 4), none]) (st' := [.int d, .ref 63]) (g_c dX8_taken_15 (g_c dX8_taken_16 g_n)) rfl rfl ?_
  refine V_callVI C cv_X8_127 (c_X8_isDrip σ d) ⟨_, _, _, _, rfl, rfl⟩ (by rfl) (by decide) (by decide) (fun _ h => h) (As := [.int d]) (rest := []) rfl rfl (Nat.le_of_ble_eq_true rfl) dX8_taken_17 ?_
  refine V_if_ne_b C (tgt := 26) dX8_taken_20 (by decide) (fun h20 => ?_) (fun h20 => ?_)
  · skip
    refine V_blk C (pc' := 31) (σ' := σ) (L' := [some (.ref 63), some (.int d), some (.int 4), none]) (st' := [.int d, .ref 68]) (g_c dX8_taken_26 (g_c dX8_taken_27 (g_c dX8_taken_30 g_n))) rfl rfl ?_
    refine V_iald C (k := 68) (n := 6) (by rfl) (by rfl) (g_vp h20 hd hd6 (by decide)) dX8_taken_31 ?_
    rw [show σ 68 (Int32.toNatClampNeg d) = 3 from hx]
    refine V_blk C (pc' := 35) (σ' := σ) (L' := [some (.ref 63), some (.int d), some (.int 4), some (.int 3)]) (st' := [.int (-1), .int 3]) (g_c dX8_taken_32 (g_c dX8_taken_33 (g_c dX8_taken_34 g_n))) rfl rfl ?_
    refine V_icmp_eq C (tgt := 51) dX8_taken_35 (by decide) (fun z => absurd z (by decide)) (fun _ => ?_)
    refine V_blk C (pc' := 40) (σ' := σ) (L' := [some (.ref 63), some (.int d), some (.int 4), some (.int 3)]) (st' := [.int 4, .int 3]) (g_c dX8_taken_38 (g_c dX8_taken_39 g_n)) rfl rfl ?_
    refine V_icmp_eq C (tgt := 51) dX8_taken_40 (by decide) (fun z => absurd z (by decide)) (fun _ => ?_)
    refine V_blk C (pc' := 44) (σ' := σ) (L' := [some (.ref 63), some (.int d), some (.int 4), some (.int 3)]) (st' := [.int 3]) (g_c dX8_taken_43 g_n) rfl rfl ?_
    refine V_callSI C cs_X8_396 (c_X8_over_3 σ) (by decide) (by decide) (fun _ h => h) (As := [.int 3]) (rest := []) rfl rfl (Nat.le_of_ble_eq_true rfl) dX8_taken_44 ?_
    refine V_blk C (pc' := 48) (σ' := σ) (L' := [some (.ref 63), some (.int d), some (.int 4), some (.int 1)]) (st' := []) (g_c dX8_taken_47 g_n) rfl rfl ?_
    refine V_goto C (tgt := 33) dX8_taken_48 (by decide) ?_
    refine V_blk C (pc' := 35) (σ' := σ) (L' := [some (.ref 63), some (.int d), some (.int 4), some (.int 1)]) (st' := [.int (-1), .int 1]) (g_c dX8_taken_33 (g_c dX8_taken_34 g_n)) rfl rfl ?_
    refine V_icmp_eq C (tgt := 51) dX8_taken_35 (by decide) (fun z => absurd z (by decide)) (fun _ => ?_)
    refine V_blk C (pc' := 40) (σ' := σ) (L' := [some (.ref 63), some (.int d), some (.int 4), some (.int 1)]) (st' := [.int 4, .int 1]) (g_c dX8_taken_38 (g_c dX8_taken_39 g_n)) rfl rfl ?_
    refine V_icmp_eq C (tgt := 51) dX8_taken_40 (by decide) (fun z => absurd z (by decide)) (fun _ => ?_)
    refine V_blk C (pc' := 44) (σ' := σ) (L' := [some (.ref 63), some (.int d), some (.int 4), some (.int 1)]) (st' := [.int 1]) (g_c dX8_taken_43 g_n) rfl rfl ?_
    refine V_callSI C cs_X8_396 (c_X8_over_1 σ) (by decide) (by decide) (fun _ h => h) (As := [.int 1]) (rest := []) rfl rfl (Nat.le_of_ble_eq_true rfl) dX8_taken_44 ?_
    refine V_blk C (pc' := 48) (σ' := σ) (L' := [some (.ref 63), some (.int d), some (.int 4), some (.int 0)]) (st' := []) (g_c dX8_taken_47 g_n) rfl rfl ?_
    refine V_goto C (tgt := 33) dX8_taken_48 (by decide) ?_
    refine V_blk C (pc' := 35) (σ' := σ) (L' := [some (.ref 63), some (.int d), some (.int 4), some (.int 0)]) (st' := [.int (-1), .int 0]) (g_c dX8_taken_33 (g_c dX8_taken_34 g_n)) rfl rfl ?_
    refine V_icmp_eq C (tgt := 51) dX8_taken_35 (by decide) (fun z => absurd z (by decide)) (fun _ => ?_)
    refine V_blk C (pc' := 40) (σ' := σ) (L' := [some (.ref 63), some (.int d), some (.int 4), some (.int 0)]) (st' := [.int 4, .int 0]) (g_c dX8_taken_38 (g_c dX8_taken_39 g_n)) rfl rfl ?_
    refine V_icmp_eq C (tgt := 51) dX8_taken_40 (by decide) (fun z => absurd z (by decide)) (fun _ => ?_)
    refine V_blk C (pc' := 44) (σ' := σ) (L' := [some (.ref 63), some (.int d), some (.int 4), some (.int 0)]) (st' := [.int 0]) (g_c dX8_taken_43 g_n) rfl rfl ?_
    refine V_callSI C cs_X8_396 (c_X8_over_0 σ) (by decide) (by decide) (fun _ h => h) (As := [.int 0]) (rest := []) rfl rfl (Nat.le_of_ble_eq_true rfl) dX8_taken_44 ?_
    refine V_blk C (pc' := 48) (σ' := σ) (L' := [some (.ref 63), some (.int d), some (.int 4), some (.int (-1))]) (st' := []) (g_c dX8_taken_47 g_n) rfl rfl ?_
    refine V_goto C (tgt := 33) dX8_taken_48 (by decide) ?_
    refine V_blk C (pc' := 35) (σ' := σ) (L' := [some (.ref 63), some (.int d), some (.int 4), some (.int (-1))]) (st' := [.int (-1), .int (-1)]) (g_c dX8_taken_33 (g_c dX8_taken_34 g_n)) rfl rfl ?_
    refine V_icmp_eq C (tgt := 51) dX8_taken_35 (by decide) (fun _ => ?_) (fun z => absurd z (by decide))
    refine V_blk C (pc' := 53) (σ' := σ) (L' := [some (.ref 63), some (.int d), some (.int 4), some (.int (-1))]) (st' := [.int 4, .int (-1)]) (g_c dX8_taken_51 (g_c dX8_taken_52 g_n)) rfl rfl ?_
    refine V_icmp_ne C (tgt := 65) dX8_taken_53 (by decide) (fun _ => ?_) (fun z => absurd z (by decide))
    refine V_blk C (pc' := 67) (σ' := σ) (L' := [some (.ref 63), some (.int d), some (.int 4), some (.int (-1))]) (st' := [.int (-13)]) (g_c dX8_taken_65 g_n) rfl rfl ?_
    refine V_iret C dX8_taken_67 ?_
    exact ⟨by rw [if_pos h20], rfl⟩
  · skip
    refine V_blk C (pc' := 25) (σ' := σ) (L' := [some (.ref 63), some (.int d), some (.int 4), none]) (st' := [.int (-11)]) (g_c dX8_taken_23 g_n) rfl rfl ?_
    refine V_iret C dX8_taken_25 ?_
    exact ⟨by rw [if_neg (fun z => h20 z)], rfl⟩
set_option maxHeartbeats 4000000 in
set_option maxRecDepth 100000 in
theorem c_X7_taken_3_5 (σ : gS) (d : Int32) {nd : Nat} (hd : σ 1 8 = nI nd) (hd6 : nd ≤ 6) (hx : σ 3 (ix d) = 3) : g_Met yX7_taken cX7_taken 3 (some .int) 4 kX [.ref 0, .int d, .int 5] σ (fun rv s => rv = some (.int (if g_in d 0 ((σ 1 8) - 1) then (-13) else (-11))) ∧ s = σ) := by
  refine g_Met.of (own := 7) (L := [some (.ref 0), some (.int d), some (.int 5)]) (by decide) rfl rfl (fun ad => Nat.le_of_ble_eq_true rfl) (fun ad => rfl) (fun X G K C => ?_)
  refine V_blk C (pc' := 1) (σ' := σ) (L' := [some (.ref 0), some (.int d), some (.int 5)]) (st' := [.int 5]) (g_c dX7_taken_0 g_n) rfl rfl ?_
  refine V_callSI C cs_X7_116 (c_X7_isKind σ 5) (by decide) (by decide) (fun _ h => h) (As := [.int 5]) (rest := []) rfl rfl (Nat.le_of_ble_eq_true rfl) dX7_taken_1 ?_
  refine V_if_ne_b C (tgt := 10) dX7_taken_4 (by decide) (fun _ => ?_) (fun z => absurd (by decide) z)
  refine V_blk C (pc' := 12) (σ' := σ) (L' := [some (.ref 0), some (.int d), some (.int 5)]) (st' := [.int d, .ref 0]) (g_c dX7_taken_10 (g_c dX7_taken_11 g_n)) rfl rfl ?_
  refine V_callVI C cv_X7_101 (c_X7_isDrip σ d) ⟨_, _, _, _, rfl, rfl⟩ (by rfl) (by decide) (by decide) (fun _ h => h) (As := [.int d]) (rest := []) rfl rfl (Nat.le_of_ble_eq_true rfl) dX7_taken_12 ?_
  refine V_if_ne_b C (tgt := 21) dX7_taken_15 (by decide) (fun h15 => ?_) (fun h15 => ?_)
  · skip
    refine V_blk C (pc' := 29) (σ' := σ) (L' := [some (.ref 0), some (.int d), some (.int 5)]) (st' := [.int d, .ref 3]) (g_c dX7_taken_21 (g_c dX7_taken_22 (g_c dX7_taken_25 (g_c dX7_taken_28 g_n)))) rfl rfl ?_
    refine V_iald C (k := 3) (n := 6) (by rfl) (by rfl) (g_vp h15 hd hd6 (by decide)) dX7_taken_29 ?_
    rw [show σ 3 (Int32.toNatClampNeg d) = 3 from hx]
    refine V_blk C (pc' := 31) (σ' := σ) (L' := [some (.ref 0), some (.int d), some (.int 5)]) (st' := [.int 5, .int 3]) (g_c dX7_taken_30 g_n) rfl rfl ?_
    refine V_callSI C cs_X7_287 (c_X7_isUnder_3_5 σ) (by decide) (by decide) (fun _ h => h) (As := [.int 3, .int 5]) (rest := []) rfl rfl (Nat.le_of_ble_eq_true rfl) dX7_taken_31 ?_
    refine V_if_eq C (tgt := 49) dX7_taken_34 (by decide) (fun _ => ?_) (fun z => absurd z (by decide))
    refine V_blk C (pc' := 51) (σ' := σ) (L' := [some (.ref 0), some (.int d), some (.int 5)]) (st' := [.int (-13)]) (g_c dX7_taken_49 g_n) rfl rfl ?_
    refine V_iret C dX7_taken_51 ?_
    exact ⟨by rw [if_pos h15], rfl⟩
  · skip
    refine V_blk C (pc' := 20) (σ' := σ) (L' := [some (.ref 0), some (.int d), some (.int 5)]) (st' := [.int (-11)]) (g_c dX7_taken_18 g_n) rfl rfl ?_
    refine V_iret C dX7_taken_20 ?_
    exact ⟨by rw [if_neg (fun z => h15 z)], rfl⟩
set_option maxHeartbeats 4000000 in
set_option maxRecDepth 100000 in
theorem c_X8_taken_3_5 (σ : gS) (d : Int32) {nd : Nat} (hd : σ 63 15 = nI nd) (hd6 : nd ≤ 6) (hx : σ 68 (ix d) = 3) : g_Met yX8_taken cX8_taken 4 (some .int) 4 kM [.ref 63, .int d, .int 5] σ (fun rv s => rv = some (.int (if g_in d 0 ((σ 63 15) - 1) then (-13) else (-11))) ∧ s = σ) := by
  refine g_Met.of (own := 8) (L := [some (.ref 63), some (.int d), some (.int 5), none]) (by decide) rfl rfl (fun ad => Nat.le_of_ble_eq_true rfl) (fun ad => rfl) (fun X G K C => ?_)
  refine V_blk C (pc' := 6) (σ' := σ) (L' := [some (.ref 63), some (.int d), some (.int 5), none]) (st' := [.long 5, .long 0, .long (Int32.toInt64 5)]) (g_c dX8_taken_0 (g_c dX8_taken_1 (g_c dX8_taken_2 (g_c dX8_taken_3 g_n)))) rfl rfl ?_
  refine V_callSI C cs_X8_110 (c_X8_in32 σ 5 0 5 (by decide) (by decide)) (by decide) (by decide) (fun _ h => h) (As := [.long (Int32.toInt64 5), .long 0, .long 5]) (rest := []) rfl rfl (Nat.le_of_ble_eq_true rfl) dX8_taken_6 ?_
  refine V_if_ne_b C (tgt := 15) dX8_taken_9 (by decide) (fun _ => ?_) (fun z => absurd (by decide) z)
  refine V_blk C (pc' := 17) (σ' := σ) (L' := [some (.ref 63), some (.int d), some (.int 5), none]) (st' := [.int d, .ref 63]) (g_c dX8_taken_15 (g_c dX8_taken_16 g_n)) rfl rfl ?_
  refine V_callVI C cv_X8_127 (c_X8_isDrip σ d) ⟨_, _, _, _, rfl, rfl⟩ (by rfl) (by decide) (by decide) (fun _ h => h) (As := [.int d]) (rest := []) rfl rfl (Nat.le_of_ble_eq_true rfl) dX8_taken_17 ?_
  refine V_if_ne_b C (tgt := 26) dX8_taken_20 (by decide) (fun h20 => ?_) (fun h20 => ?_)
  · skip
    refine V_blk C (pc' := 31) (σ' := σ) (L' := [some (.ref 63), some (.int d), some (.int 5), none]) (st' := [.int d, .ref 68]) (g_c dX8_taken_26 (g_c dX8_taken_27 (g_c dX8_taken_30 g_n))) rfl rfl ?_
    refine V_iald C (k := 68) (n := 6) (by rfl) (by rfl) (g_vp h20 hd hd6 (by decide)) dX8_taken_31 ?_
    rw [show σ 68 (Int32.toNatClampNeg d) = 3 from hx]
    refine V_blk C (pc' := 35) (σ' := σ) (L' := [some (.ref 63), some (.int d), some (.int 5), some (.int 3)]) (st' := [.int (-1), .int 3]) (g_c dX8_taken_32 (g_c dX8_taken_33 (g_c dX8_taken_34 g_n))) rfl rfl ?_
    refine V_icmp_eq C (tgt := 51) dX8_taken_35 (by decide) (fun z => absurd z (by decide)) (fun _ => ?_)
    refine V_blk C (pc' := 40) (σ' := σ) (L' := [some (.ref 63), some (.int d), some (.int 5), some (.int 3)]) (st' := [.int 5, .int 3]) (g_c dX8_taken_38 (g_c dX8_taken_39 g_n)) rfl rfl ?_
    refine V_icmp_eq C (tgt := 51) dX8_taken_40 (by decide) (fun z => absurd z (by decide)) (fun _ => ?_)
    refine V_blk C (pc' := 44) (σ' := σ) (L' := [some (.ref 63), some (.int d), some (.int 5), some (.int 3)]) (st' := [.int 3]) (g_c dX8_taken_43 g_n) rfl rfl ?_
    refine V_callSI C cs_X8_396 (c_X8_over_3 σ) (by decide) (by decide) (fun _ h => h) (As := [.int 3]) (rest := []) rfl rfl (Nat.le_of_ble_eq_true rfl) dX8_taken_44 ?_
    refine V_blk C (pc' := 48) (σ' := σ) (L' := [some (.ref 63), some (.int d), some (.int 5), some (.int 1)]) (st' := []) (g_c dX8_taken_47 g_n) rfl rfl ?_
    refine V_goto C (tgt := 33) dX8_taken_48 (by decide) ?_
    refine V_blk C (pc' := 35) (σ' := σ) (L' := [some (.ref 63), some (.int d), some (.int 5), some (.int 1)]) (st' := [.int (-1), .int 1]) (g_c dX8_taken_33 (g_c dX8_taken_34 g_n)) rfl rfl ?_
    refine V_icmp_eq C (tgt := 51) dX8_taken_35 (by decide) (fun z => absurd z (by decide)) (fun _ => ?_)
    refine V_blk C (pc' := 40) (σ' := σ) (L' := [some (.ref 63), some (.int d), some (.int 5), some (.int 1)]) (st' := [.int 5, .int 1]) (g_c dX8_taken_38 (g_c dX8_taken_39 g_n)) rfl rfl ?_
    refine V_icmp_eq C (tgt := 51) dX8_taken_40 (by decide) (fun z => absurd z (by decide)) (fun _ => ?_)
    refine V_blk C (pc' := 44) (σ' := σ) (L' := [some (.ref 63), some (.int d), some (.int 5), some (.int 1)]) (st' := [.int 1]) (g_c dX8_taken_43 g_n) rfl rfl ?_
    refine V_callSI C cs_X8_396 (c_X8_over_1 σ) (by decide) (by decide) (fun _ h => h) (As := [.int 1]) (rest := []) rfl rfl (Nat.le_of_ble_eq_true rfl) dX8_taken_44 ?_
    refine V_blk C (pc' := 48) (σ' := σ) (L' := [some (.ref 63), some (.int d), some (.int 5), some (.int 0)]) (st' := []) (g_c dX8_taken_47 g_n) rfl rfl ?_
    refine V_goto C (tgt := 33) dX8_taken_48 (by decide) ?_
    refine V_blk C (pc' := 35) (σ' := σ) (L' := [some (.ref 63), some (.int d), some (.int 5), some (.int 0)]) (st' := [.int (-1), .int 0]) (g_c dX8_taken_33 (g_c dX8_taken_34 g_n)) rfl rfl ?_
    refine V_icmp_eq C (tgt := 51) dX8_taken_35 (by decide) (fun z => absurd z (by decide)) (fun _ => ?_)
    refine V_blk C (pc' := 40) (σ' := σ) (L' := [some (.ref 63), some (.int d), some (.int 5), some (.int 0)]) (st' := [.int 5, .int 0]) (g_c dX8_taken_38 (g_c dX8_taken_39 g_n)) rfl rfl ?_
    refine V_icmp_eq C (tgt := 51) dX8_taken_40 (by decide) (fun z => absurd z (by decide)) (fun _ => ?_)
    refine V_blk C (pc' := 44) (σ' := σ) (L' := [some (.ref 63), some (.int d), some (.int 5), some (.int 0)]) (st' := [.int 0]) (g_c dX8_taken_43 g_n) rfl rfl ?_
    refine V_callSI C cs_X8_396 (c_X8_over_0 σ) (by decide) (by decide) (fun _ h => h) (As := [.int 0]) (rest := []) rfl rfl (Nat.le_of_ble_eq_true rfl) dX8_taken_44 ?_
    refine V_blk C (pc' := 48) (σ' := σ) (L' := [some (.ref 63), some (.int d), some (.int 5), some (.int (-1))]) (st' := []) (g_c dX8_taken_47 g_n) rfl rfl ?_
    refine V_goto C (tgt := 33) dX8_taken_48 (by decide) ?_
    refine V_blk C (pc' := 35) (σ' := σ) (L' := [some (.ref 63), some (.int d), some (.int 5), some (.int (-1))]) (st' := [.int (-1), .int (-1)]) (g_c dX8_taken_33 (g_c dX8_taken_34 g_n)) rfl rfl ?_
    refine V_icmp_eq C (tgt := 51) dX8_taken_35 (by decide) (fun _ => ?_) (fun z => absurd z (by decide))
    refine V_blk C (pc' := 53) (σ' := σ) (L' := [some (.ref 63), some (.int d), some (.int 5), some (.int (-1))]) (st' := [.int 5, .int (-1)]) (g_c dX8_taken_51 (g_c dX8_taken_52 g_n)) rfl rfl ?_
    refine V_icmp_ne C (tgt := 65) dX8_taken_53 (by decide) (fun _ => ?_) (fun z => absurd z (by decide))
    refine V_blk C (pc' := 67) (σ' := σ) (L' := [some (.ref 63), some (.int d), some (.int 5), some (.int (-1))]) (st' := [.int (-13)]) (g_c dX8_taken_65 g_n) rfl rfl ?_
    refine V_iret C dX8_taken_67 ?_
    exact ⟨by rw [if_pos h20], rfl⟩
  · skip
    refine V_blk C (pc' := 25) (σ' := σ) (L' := [some (.ref 63), some (.int d), some (.int 5), none]) (st' := [.int (-11)]) (g_c dX8_taken_23 g_n) rfl rfl ?_
    refine V_iret C dX8_taken_25 ?_
    exact ⟨by rw [if_neg (fun z => h20 z)], rfl⟩
set_option maxHeartbeats 4000000 in
set_option maxRecDepth 100000 in
theorem c_X7_taken_4_0 (σ : gS) (d : Int32) {nd : Nat} (hd : σ 1 8 = nI nd) (hd6 : nd ≤ 6) (hx : σ 3 (ix d) = 4) : g_Met yX7_taken cX7_taken 3 (some .int) 4 kX [.ref 0, .int d, .int 0] σ (fun rv s => rv = some (.int (if g_in d 0 ((σ 1 8) - 1) then (σ 4 (ix d)) else (-11))) ∧ s = σ) := by
  refine g_Met.of (own := 7) (L := [some (.ref 0), some (.int d), some (.int 0)]) (by decide) rfl rfl (fun ad => Nat.le_of_ble_eq_true rfl) (fun ad => rfl) (fun X G K C => ?_)
  refine V_blk C (pc' := 1) (σ' := σ) (L' := [some (.ref 0), some (.int d), some (.int 0)]) (st' := [.int 0]) (g_c dX7_taken_0 g_n) rfl rfl ?_
  refine V_callSI C cs_X7_116 (c_X7_isKind σ 0) (by decide) (by decide) (fun _ h => h) (As := [.int 0]) (rest := []) rfl rfl (Nat.le_of_ble_eq_true rfl) dX7_taken_1 ?_
  refine V_if_ne_b C (tgt := 10) dX7_taken_4 (by decide) (fun _ => ?_) (fun z => absurd (by decide) z)
  refine V_blk C (pc' := 12) (σ' := σ) (L' := [some (.ref 0), some (.int d), some (.int 0)]) (st' := [.int d, .ref 0]) (g_c dX7_taken_10 (g_c dX7_taken_11 g_n)) rfl rfl ?_
  refine V_callVI C cv_X7_101 (c_X7_isDrip σ d) ⟨_, _, _, _, rfl, rfl⟩ (by rfl) (by decide) (by decide) (fun _ h => h) (As := [.int d]) (rest := []) rfl rfl (Nat.le_of_ble_eq_true rfl) dX7_taken_12 ?_
  refine V_if_ne_b C (tgt := 21) dX7_taken_15 (by decide) (fun h15 => ?_) (fun h15 => ?_)
  · skip
    refine V_blk C (pc' := 29) (σ' := σ) (L' := [some (.ref 0), some (.int d), some (.int 0)]) (st' := [.int d, .ref 3]) (g_c dX7_taken_21 (g_c dX7_taken_22 (g_c dX7_taken_25 (g_c dX7_taken_28 g_n)))) rfl rfl ?_
    refine V_iald C (k := 3) (n := 6) (by rfl) (by rfl) (g_vp h15 hd hd6 (by decide)) dX7_taken_29 ?_
    rw [show σ 3 (Int32.toNatClampNeg d) = 4 from hx]
    refine V_blk C (pc' := 31) (σ' := σ) (L' := [some (.ref 0), some (.int d), some (.int 0)]) (st' := [.int 0, .int 4]) (g_c dX7_taken_30 g_n) rfl rfl ?_
    refine V_callSI C cs_X7_287 (c_X7_isUnder_4_0 σ) (by decide) (by decide) (fun _ h => h) (As := [.int 4, .int 0]) (rest := []) rfl rfl (Nat.le_of_ble_eq_true rfl) dX7_taken_31 ?_
    refine V_if_eq C (tgt := 49) dX7_taken_34 (by decide) (fun z => absurd z (by decide)) (fun _ => ?_)
    refine V_blk C (pc' := 45) (σ' := σ) (L' := [some (.ref 0), some (.int d), some (.int 0)]) (st' := [.int d, .ref 4]) (g_c dX7_taken_37 (g_c dX7_taken_38 (g_c dX7_taken_41 (g_c dX7_taken_44 g_n)))) rfl rfl ?_
    refine V_iald C (k := 4) (n := 6) (by rfl) (by rfl) (g_vp h15 hd hd6 (by decide)) dX7_taken_45 ?_
    refine V_goto C (tgt := 51) dX7_taken_46 (by decide) ?_
    refine V_iret C dX7_taken_51 ?_
    exact ⟨by rw [if_pos h15], rfl⟩
  · skip
    refine V_blk C (pc' := 20) (σ' := σ) (L' := [some (.ref 0), some (.int d), some (.int 0)]) (st' := [.int (-11)]) (g_c dX7_taken_18 g_n) rfl rfl ?_
    refine V_iret C dX7_taken_20 ?_
    exact ⟨by rw [if_neg (fun z => h15 z)], rfl⟩
set_option maxHeartbeats 4000000 in
set_option maxRecDepth 100000 in
theorem c_X8_taken_4_0 (σ : gS) (d : Int32) {nd : Nat} (hd : σ 63 15 = nI nd) (hd6 : nd ≤ 6) (hx : σ 68 (ix d) = 4) : g_Met yX8_taken cX8_taken 4 (some .int) 4 kM [.ref 63, .int d, .int 0] σ (fun rv s => rv = some (.int (if g_in d 0 ((σ 63 15) - 1) then (σ 69 (ix d)) else (-11))) ∧ s = σ) := by
  refine g_Met.of (own := 8) (L := [some (.ref 63), some (.int d), some (.int 0), none]) (by decide) rfl rfl (fun ad => Nat.le_of_ble_eq_true rfl) (fun ad => rfl) (fun X G K C => ?_)
  refine V_blk C (pc' := 6) (σ' := σ) (L' := [some (.ref 63), some (.int d), some (.int 0), none]) (st' := [.long 5, .long 0, .long (Int32.toInt64 0)]) (g_c dX8_taken_0 (g_c dX8_taken_1 (g_c dX8_taken_2 (g_c dX8_taken_3 g_n)))) rfl rfl ?_
  refine V_callSI C cs_X8_110 (c_X8_in32 σ 0 0 5 (by decide) (by decide)) (by decide) (by decide) (fun _ h => h) (As := [.long (Int32.toInt64 0), .long 0, .long 5]) (rest := []) rfl rfl (Nat.le_of_ble_eq_true rfl) dX8_taken_6 ?_
  refine V_if_ne_b C (tgt := 15) dX8_taken_9 (by decide) (fun _ => ?_) (fun z => absurd (by decide) z)
  refine V_blk C (pc' := 17) (σ' := σ) (L' := [some (.ref 63), some (.int d), some (.int 0), none]) (st' := [.int d, .ref 63]) (g_c dX8_taken_15 (g_c dX8_taken_16 g_n)) rfl rfl ?_
  refine V_callVI C cv_X8_127 (c_X8_isDrip σ d) ⟨_, _, _, _, rfl, rfl⟩ (by rfl) (by decide) (by decide) (fun _ h => h) (As := [.int d]) (rest := []) rfl rfl (Nat.le_of_ble_eq_true rfl) dX8_taken_17 ?_
  refine V_if_ne_b C (tgt := 26) dX8_taken_20 (by decide) (fun h20 => ?_) (fun h20 => ?_)
  · skip
    refine V_blk C (pc' := 31) (σ' := σ) (L' := [some (.ref 63), some (.int d), some (.int 0), none]) (st' := [.int d, .ref 68]) (g_c dX8_taken_26 (g_c dX8_taken_27 (g_c dX8_taken_30 g_n))) rfl rfl ?_
    refine V_iald C (k := 68) (n := 6) (by rfl) (by rfl) (g_vp h20 hd hd6 (by decide)) dX8_taken_31 ?_
    rw [show σ 68 (Int32.toNatClampNeg d) = 4 from hx]
    refine V_blk C (pc' := 35) (σ' := σ) (L' := [some (.ref 63), some (.int d), some (.int 0), some (.int 4)]) (st' := [.int (-1), .int 4]) (g_c dX8_taken_32 (g_c dX8_taken_33 (g_c dX8_taken_34 g_n))) rfl rfl ?_
    refine V_icmp_eq C (tgt := 51) dX8_taken_35 (by decide) (fun z => absurd z (by decide)) (fun _ => ?_)
    refine V_blk C (pc' := 40) (σ' := σ) (L' := [some (.ref 63), some (.int d), some (.int 0), some (.int 4)]) (st' := [.int 0, .int 4]) (g_c dX8_taken_38 (g_c dX8_taken_39 g_n)) rfl rfl ?_
    refine V_icmp_eq C (tgt := 51) dX8_taken_40 (by decide) (fun z => absurd z (by decide)) (fun _ => ?_)
    refine V_blk C (pc' := 44) (σ' := σ) (L' := [some (.ref 63), some (.int d), some (.int 0), some (.int 4)]) (st' := [.int 4]) (g_c dX8_taken_43 g_n) rfl rfl ?_
    refine V_callSI C cs_X8_396 (c_X8_over_4 σ) (by decide) (by decide) (fun _ h => h) (As := [.int 4]) (rest := []) rfl rfl (Nat.le_of_ble_eq_true rfl) dX8_taken_44 ?_
    refine V_blk C (pc' := 48) (σ' := σ) (L' := [some (.ref 63), some (.int d), some (.int 0), some (.int 2)]) (st' := []) (g_c dX8_taken_47 g_n) rfl rfl ?_
    refine V_goto C (tgt := 33) dX8_taken_48 (by decide) ?_
    refine V_blk C (pc' := 35) (σ' := σ) (L' := [some (.ref 63), some (.int d), some (.int 0), some (.int 2)]) (st' := [.int (-1), .int 2]) (g_c dX8_taken_33 (g_c dX8_taken_34 g_n)) rfl rfl ?_
    refine V_icmp_eq C (tgt := 51) dX8_taken_35 (by decide) (fun z => absurd z (by decide)) (fun _ => ?_)
    refine V_blk C (pc' := 40) (σ' := σ) (L' := [some (.ref 63), some (.int d), some (.int 0), some (.int 2)]) (st' := [.int 0, .int 2]) (g_c dX8_taken_38 (g_c dX8_taken_39 g_n)) rfl rfl ?_
    refine V_icmp_eq C (tgt := 51) dX8_taken_40 (by decide) (fun z => absurd z (by decide)) (fun _ => ?_)
    refine V_blk C (pc' := 44) (σ' := σ) (L' := [some (.ref 63), some (.int d), some (.int 0), some (.int 2)]) (st' := [.int 2]) (g_c dX8_taken_43 g_n) rfl rfl ?_
    refine V_callSI C cs_X8_396 (c_X8_over_2 σ) (by decide) (by decide) (fun _ h => h) (As := [.int 2]) (rest := []) rfl rfl (Nat.le_of_ble_eq_true rfl) dX8_taken_44 ?_
    refine V_blk C (pc' := 48) (σ' := σ) (L' := [some (.ref 63), some (.int d), some (.int 0), some (.int 0)]) (st' := []) (g_c dX8_taken_47 g_n) rfl rfl ?_
    refine V_goto C (tgt := 33) dX8_taken_48 (by decide) ?_
    refine V_blk C (pc' := 35) (σ' := σ) (L' := [some (.ref 63), some (.int d), some (.int 0), some (.int 0)]) (st' := [.int (-1), .int 0]) (g_c dX8_taken_33 (g_c dX8_taken_34 g_n)) rfl rfl ?_
    refine V_icmp_eq C (tgt := 51) dX8_taken_35 (by decide) (fun z => absurd z (by decide)) (fun _ => ?_)
    refine V_blk C (pc' := 40) (σ' := σ) (L' := [some (.ref 63), some (.int d), some (.int 0), some (.int 0)]) (st' := [.int 0, .int 0]) (g_c dX8_taken_38 (g_c dX8_taken_39 g_n)) rfl rfl ?_
    refine V_icmp_eq C (tgt := 51) dX8_taken_40 (by decide) (fun _ => ?_) (fun z => absurd z (by decide))
    refine V_blk C (pc' := 53) (σ' := σ) (L' := [some (.ref 63), some (.int d), some (.int 0), some (.int 0)]) (st' := [.int 0, .int 0]) (g_c dX8_taken_51 (g_c dX8_taken_52 g_n)) rfl rfl ?_
    refine V_icmp_ne C (tgt := 65) dX8_taken_53 (by decide) (fun z => absurd z (by decide)) (fun _ => ?_)
    refine V_blk C (pc' := 61) (σ' := σ) (L' := [some (.ref 63), some (.int d), some (.int 0), some (.int 0)]) (st' := [.int d, .ref 69]) (g_c dX8_taken_56 (g_c dX8_taken_57 (g_c dX8_taken_60 g_n))) rfl rfl ?_
    refine V_iald C (k := 69) (n := 6) (by rfl) (by rfl) (g_vp h20 hd hd6 (by decide)) dX8_taken_61 ?_
    refine V_goto C (tgt := 67) dX8_taken_62 (by decide) ?_
    refine V_iret C dX8_taken_67 ?_
    exact ⟨by rw [if_pos h20], rfl⟩
  · skip
    refine V_blk C (pc' := 25) (σ' := σ) (L' := [some (.ref 63), some (.int d), some (.int 0), none]) (st' := [.int (-11)]) (g_c dX8_taken_23 g_n) rfl rfl ?_
    refine V_iret C dX8_taken_25 ?_
    exact ⟨by rw [if_neg (fun z => h20 z)], rfl⟩
set_option maxHeartbeats 4000000 in
set_option maxRecDepth 100000 in
theorem c_X7_taken_4_1 (σ : gS) (d : Int32) {nd : Nat} (hd : σ 1 8 = nI nd) (hd6 : nd ≤ 6) (hx : σ 3 (ix d) = 4) : g_Met yX7_taken cX7_taken 3 (some .int) 4 kX [.ref 0, .int d, .int 1] σ (fun rv s => rv = some (.int (if g_in d 0 ((σ 1 8) - 1) then (-13) else (-11))) ∧ s = σ) := by
  refine g_Met.of (own := 7) (L := [some (.ref 0), some (.int d), some (.int 1)]) (by decide) rfl rfl (fun ad => Nat.le_of_ble_eq_true rfl) (fun ad => rfl) (fun X G K C => ?_)
  refine V_blk C (pc' := 1) (σ' := σ) (L' := [some (.ref 0), some (.int d), some (.int 1)]) (st' := [.int 1]) (g_c dX7_taken_0 g_n) rfl rfl ?_
  refine V_callSI C cs_X7_116 (c_X7_isKind σ 1) (by decide) (by decide) (fun _ h => h) (As := [.int 1]) (rest := []) rfl rfl (Nat.le_of_ble_eq_true rfl) dX7_taken_1 ?_
  refine V_if_ne_b C (tgt := 10) dX7_taken_4 (by decide) (fun _ => ?_) (fun z => absurd (by decide) z)
  refine V_blk C (pc' := 12) (σ' := σ) (L' := [some (.ref 0), some (.int d), some (.int 1)]) (st' := [.int d, .ref 0]) (g_c dX7_taken_10 (g_c dX7_taken_11 g_n)) rfl rfl ?_
  refine V_callVI C cv_X7_101 (c_X7_isDrip σ d) ⟨_, _, _, _, rfl, rfl⟩ (by rfl) (by decide) (by decide) (fun _ h => h) (As := [.int d]) (rest := []) rfl rfl (Nat.le_of_ble_eq_true rfl) dX7_taken_12 ?_
  refine V_if_ne_b C (tgt := 21) dX7_taken_15 (by decide) (fun h15 => ?_) (fun h15 => ?_)
  · skip
    refine V_blk C (pc' := 29) (σ' := σ) (L' := [some (.ref 0), some (.int d), some (.int 1)]) (st' := [.int d, .ref 3]) (g_c dX7_taken_21 (g_c dX7_taken_22 (g_c dX7_taken_25 (g_c dX7_taken_28 g_n)))) rfl rfl ?_
    refine V_iald C (k := 3) (n := 6) (by rfl) (by rfl) (g_vp h15 hd hd6 (by decide)) dX7_taken_29 ?_
    rw [show σ 3 (Int32.toNatClampNeg d) = 4 from hx]
    refine V_blk C (pc' := 31) (σ' := σ) (L' := [some (.ref 0), some (.int d), some (.int 1)]) (st' := [.int 1, .int 4]) (g_c dX7_taken_30 g_n) rfl rfl ?_
    refine V_callSI C cs_X7_287 (c_X7_isUnder_4_1 σ) (by decide) (by decide) (fun _ h => h) (As := [.int 4, .int 1]) (rest := []) rfl rfl (Nat.le_of_ble_eq_true rfl) dX7_taken_31 ?_
    refine V_if_eq C (tgt := 49) dX7_taken_34 (by decide) (fun _ => ?_) (fun z => absurd z (by decide))
    refine V_blk C (pc' := 51) (σ' := σ) (L' := [some (.ref 0), some (.int d), some (.int 1)]) (st' := [.int (-13)]) (g_c dX7_taken_49 g_n) rfl rfl ?_
    refine V_iret C dX7_taken_51 ?_
    exact ⟨by rw [if_pos h15], rfl⟩
  · skip
    refine V_blk C (pc' := 20) (σ' := σ) (L' := [some (.ref 0), some (.int d), some (.int 1)]) (st' := [.int (-11)]) (g_c dX7_taken_18 g_n) rfl rfl ?_
    refine V_iret C dX7_taken_20 ?_
    exact ⟨by rw [if_neg (fun z => h15 z)], rfl⟩
set_option maxHeartbeats 4000000 in
set_option maxRecDepth 100000 in
theorem c_X8_taken_4_1 (σ : gS) (d : Int32) {nd : Nat} (hd : σ 63 15 = nI nd) (hd6 : nd ≤ 6) (hx : σ 68 (ix d) = 4) : g_Met yX8_taken cX8_taken 4 (some .int) 4 kM [.ref 63, .int d, .int 1] σ (fun rv s => rv = some (.int (if g_in d 0 ((σ 63 15) - 1) then (-13) else (-11))) ∧ s = σ) := by
  refine g_Met.of (own := 8) (L := [some (.ref 63), some (.int d), some (.int 1), none]) (by decide) rfl rfl (fun ad => Nat.le_of_ble_eq_true rfl) (fun ad => rfl) (fun X G K C => ?_)
  refine V_blk C (pc' := 6) (σ' := σ) (L' := [some (.ref 63), some (.int d), some (.int 1), none]) (st' := [.long 5, .long 0, .long (Int32.toInt64 1)]) (g_c dX8_taken_0 (g_c dX8_taken_1 (g_c dX8_taken_2 (g_c dX8_taken_3 g_n)))) rfl rfl ?_
  refine V_callSI C cs_X8_110 (c_X8_in32 σ 1 0 5 (by decide) (by decide)) (by decide) (by decide) (fun _ h => h) (As := [.long (Int32.toInt64 1), .long 0, .long 5]) (rest := []) rfl rfl (Nat.le_of_ble_eq_true rfl) dX8_taken_6 ?_
  refine V_if_ne_b C (tgt := 15) dX8_taken_9 (by decide) (fun _ => ?_) (fun z => absurd (by decide) z)
  refine V_blk C (pc' := 17) (σ' := σ) (L' := [some (.ref 63), some (.int d), some (.int 1), none]) (st' := [.int d, .ref 63]) (g_c dX8_taken_15 (g_c dX8_taken_16 g_n)) rfl rfl ?_
  refine V_callVI C cv_X8_127 (c_X8_isDrip σ d) ⟨_, _, _, _, rfl, rfl⟩ (by rfl) (by decide) (by decide) (fun _ h => h) (As := [.int d]) (rest := []) rfl rfl (Nat.le_of_ble_eq_true rfl) dX8_taken_17 ?_
  refine V_if_ne_b C (tgt := 26) dX8_taken_20 (by decide) (fun h20 => ?_) (fun h20 => ?_)
  · skip
    refine V_blk C (pc' := 31) (σ' := σ) (L' := [some (.ref 63), some (.int d), some (.int 1), none]) (st' := [.int d, .ref 68]) (g_c dX8_taken_26 (g_c dX8_taken_27 (g_c dX8_taken_30 g_n))) rfl rfl ?_
    refine V_iald C (k := 68) (n := 6) (by rfl) (by rfl) (g_vp h20 hd hd6 (by decide)) dX8_taken_31 ?_
    rw [show σ 68 (Int32.toNatClampNeg d) = 4 from hx]
    refine V_blk C (pc' := 35) (σ' := σ) (L' := [some (.ref 63), some (.int d), some (.int 1), some (.int 4)]) (st' := [.int (-1), .int 4]) (g_c dX8_taken_32 (g_c dX8_taken_33 (g_c dX8_taken_34 g_n))) rfl rfl ?_
    refine V_icmp_eq C (tgt := 51) dX8_taken_35 (by decide) (fun z => absurd z (by decide)) (fun _ => ?_)
    refine V_blk C (pc' := 40) (σ' := σ) (L' := [some (.ref 63), some (.int d), some (.int 1), some (.int 4)]) (st' := [.int 1, .int 4]) (g_c dX8_taken_38 (g_c dX8_taken_39 g_n)) rfl rfl ?_
    refine V_icmp_eq C (tgt := 51) dX8_taken_40 (by decide) (fun z => absurd z (by decide)) (fun _ => ?_)
    refine V_blk C (pc' := 44) (σ' := σ) (L' := [some (.ref 63), some (.int d), some (.int 1), some (.int 4)]) (st' := [.int 4]) (g_c dX8_taken_43 g_n) rfl rfl ?_
    refine V_callSI C cs_X8_396 (c_X8_over_4 σ) (by decide) (by decide) (fun _ h => h) (As := [.int 4]) (rest := []) rfl rfl (Nat.le_of_ble_eq_true rfl) dX8_taken_44 ?_
    refine V_blk C (pc' := 48) (σ' := σ) (L' := [some (.ref 63), some (.int d), some (.int 1), some (.int 2)]) (st' := []) (g_c dX8_taken_47 g_n) rfl rfl ?_
    refine V_goto C (tgt := 33) dX8_taken_48 (by decide) ?_
    refine V_blk C (pc' := 35) (σ' := σ) (L' := [some (.ref 63), some (.int d), some (.int 1), some (.int 2)]) (st' := [.int (-1), .int 2]) (g_c dX8_taken_33 (g_c dX8_taken_34 g_n)) rfl rfl ?_
    refine V_icmp_eq C (tgt := 51) dX8_taken_35 (by decide) (fun z => absurd z (by decide)) (fun _ => ?_)
    refine V_blk C (pc' := 40) (σ' := σ) (L' := [some (.ref 63), some (.int d), some (.int 1), some (.int 2)]) (st' := [.int 1, .int 2]) (g_c dX8_taken_38 (g_c dX8_taken_39 g_n)) rfl rfl ?_
    refine V_icmp_eq C (tgt := 51) dX8_taken_40 (by decide) (fun z => absurd z (by decide)) (fun _ => ?_)
    refine V_blk C (pc' := 44) (σ' := σ) (L' := [some (.ref 63), some (.int d), some (.int 1), some (.int 2)]) (st' := [.int 2]) (g_c dX8_taken_43 g_n) rfl rfl ?_
    refine V_callSI C cs_X8_396 (c_X8_over_2 σ) (by decide) (by decide) (fun _ h => h) (As := [.int 2]) (rest := []) rfl rfl (Nat.le_of_ble_eq_true rfl) dX8_taken_44 ?_
    refine V_blk C (pc' := 48) (σ' := σ) (L' := [some (.ref 63), some (.int d), some (.int 1), some (.int 0)]) (st' := []) (g_c dX8_taken_47 g_n) rfl rfl ?_
    refine V_goto C (tgt := 33) dX8_taken_48 (by decide) ?_
    refine V_blk C (pc' := 35) (σ' := σ) (L' := [some (.ref 63), some (.int d), some (.int 1), some (.int 0)]) (st' := [.int (-1), .int 0]) (g_c dX8_taken_33 (g_c dX8_taken_34 g_n)) rfl rfl ?_
    refine V_icmp_eq C (tgt := 51) dX8_taken_35 (by decide) (fun z => absurd z (by decide)) (fun _ => ?_)
    refine V_blk C (pc' := 40) (σ' := σ) (L' := [some (.ref 63), some (.int d), some (.int 1), some (.int 0)]) (st' := [.int 1, .int 0]) (g_c dX8_taken_38 (g_c dX8_taken_39 g_n)) rfl rfl ?_
    refine V_icmp_eq C (tgt := 51) dX8_taken_40 (by decide) (fun z => absurd z (by decide)) (fun _ => ?_)
    refine V_blk C (pc' := 44) (σ' := σ) (L' := [some (.ref 63), some (.int d), some (.int 1), some (.int 0)]) (st' := [.int 0]) (g_c dX8_taken_43 g_n) rfl rfl ?_
    refine V_callSI C cs_X8_396 (c_X8_over_0 σ) (by decide) (by decide) (fun _ h => h) (As := [.int 0]) (rest := []) rfl rfl (Nat.le_of_ble_eq_true rfl) dX8_taken_44 ?_
    refine V_blk C (pc' := 48) (σ' := σ) (L' := [some (.ref 63), some (.int d), some (.int 1), some (.int (-1))]) (st' := []) (g_c dX8_taken_47 g_n) rfl rfl ?_
    refine V_goto C (tgt := 33) dX8_taken_48 (by decide) ?_
    refine V_blk C (pc' := 35) (σ' := σ) (L' := [some (.ref 63), some (.int d), some (.int 1), some (.int (-1))]) (st' := [.int (-1), .int (-1)]) (g_c dX8_taken_33 (g_c dX8_taken_34 g_n)) rfl rfl ?_
    refine V_icmp_eq C (tgt := 51) dX8_taken_35 (by decide) (fun _ => ?_) (fun z => absurd z (by decide))
    refine V_blk C (pc' := 53) (σ' := σ) (L' := [some (.ref 63), some (.int d), some (.int 1), some (.int (-1))]) (st' := [.int 1, .int (-1)]) (g_c dX8_taken_51 (g_c dX8_taken_52 g_n)) rfl rfl ?_
    refine V_icmp_ne C (tgt := 65) dX8_taken_53 (by decide) (fun _ => ?_) (fun z => absurd z (by decide))
    refine V_blk C (pc' := 67) (σ' := σ) (L' := [some (.ref 63), some (.int d), some (.int 1), some (.int (-1))]) (st' := [.int (-13)]) (g_c dX8_taken_65 g_n) rfl rfl ?_
    refine V_iret C dX8_taken_67 ?_
    exact ⟨by rw [if_pos h20], rfl⟩
  · skip
    refine V_blk C (pc' := 25) (σ' := σ) (L' := [some (.ref 63), some (.int d), some (.int 1), none]) (st' := [.int (-11)]) (g_c dX8_taken_23 g_n) rfl rfl ?_
    refine V_iret C dX8_taken_25 ?_
    exact ⟨by rw [if_neg (fun z => h20 z)], rfl⟩
set_option maxHeartbeats 4000000 in
set_option maxRecDepth 100000 in
theorem c_X7_taken_4_2 (σ : gS) (d : Int32) {nd : Nat} (hd : σ 1 8 = nI nd) (hd6 : nd ≤ 6) (hx : σ 3 (ix d) = 4) : g_Met yX7_taken cX7_taken 3 (some .int) 4 kX [.ref 0, .int d, .int 2] σ (fun rv s => rv = some (.int (if g_in d 0 ((σ 1 8) - 1) then (σ 4 (ix d)) else (-11))) ∧ s = σ) := by
  refine g_Met.of (own := 7) (L := [some (.ref 0), some (.int d), some (.int 2)]) (by decide) rfl rfl (fun ad => Nat.le_of_ble_eq_true rfl) (fun ad => rfl) (fun X G K C => ?_)
  refine V_blk C (pc' := 1) (σ' := σ) (L' := [some (.ref 0), some (.int d), some (.int 2)]) (st' := [.int 2]) (g_c dX7_taken_0 g_n) rfl rfl ?_
  refine V_callSI C cs_X7_116 (c_X7_isKind σ 2) (by decide) (by decide) (fun _ h => h) (As := [.int 2]) (rest := []) rfl rfl (Nat.le_of_ble_eq_true rfl) dX7_taken_1 ?_
  refine V_if_ne_b C (tgt := 10) dX7_taken_4 (by decide) (fun _ => ?_) (fun z => absurd (by decide) z)
  refine V_blk C (pc' := 12) (σ' := σ) (L' := [some (.ref 0), some (.int d), some (.int 2)]) (st' := [.int d, .ref 0]) (g_c dX7_taken_10 (g_c dX7_taken_11 g_n)) rfl rfl ?_
  refine V_callVI C cv_X7_101 (c_X7_isDrip σ d) ⟨_, _, _, _, rfl, rfl⟩ (by rfl) (by decide) (by decide) (fun _ h => h) (As := [.int d]) (rest := []) rfl rfl (Nat.le_of_ble_eq_true rfl) dX7_taken_12 ?_
  refine V_if_ne_b C (tgt := 21) dX7_taken_15 (by decide) (fun h15 => ?_) (fun h15 => ?_)
  · skip
    refine V_blk C (pc' := 29) (σ' := σ) (L' := [some (.ref 0), some (.int d), some (.int 2)]) (st' := [.int d, .ref 3]) (g_c dX7_taken_21 (g_c dX7_taken_22 (g_c dX7_taken_25 (g_c dX7_taken_28 g_n)))) rfl rfl ?_
    refine V_iald C (k := 3) (n := 6) (by rfl) (by rfl) (g_vp h15 hd hd6 (by decide)) dX7_taken_29 ?_
    rw [show σ 3 (Int32.toNatClampNeg d) = 4 from hx]
    refine V_blk C (pc' := 31) (σ' := σ) (L' := [some (.ref 0), some (.int d), some (.int 2)]) (st' := [.int 2, .int 4]) (g_c dX7_taken_30 g_n) rfl rfl ?_
    refine V_callSI C cs_X7_287 (c_X7_isUnder_4_2 σ) (by decide) (by decide) (fun _ h => h) (As := [.int 4, .int 2]) (rest := []) rfl rfl (Nat.le_of_ble_eq_true rfl) dX7_taken_31 ?_
    refine V_if_eq C (tgt := 49) dX7_taken_34 (by decide) (fun z => absurd z (by decide)) (fun _ => ?_)
    refine V_blk C (pc' := 45) (σ' := σ) (L' := [some (.ref 0), some (.int d), some (.int 2)]) (st' := [.int d, .ref 4]) (g_c dX7_taken_37 (g_c dX7_taken_38 (g_c dX7_taken_41 (g_c dX7_taken_44 g_n)))) rfl rfl ?_
    refine V_iald C (k := 4) (n := 6) (by rfl) (by rfl) (g_vp h15 hd hd6 (by decide)) dX7_taken_45 ?_
    refine V_goto C (tgt := 51) dX7_taken_46 (by decide) ?_
    refine V_iret C dX7_taken_51 ?_
    exact ⟨by rw [if_pos h15], rfl⟩
  · skip
    refine V_blk C (pc' := 20) (σ' := σ) (L' := [some (.ref 0), some (.int d), some (.int 2)]) (st' := [.int (-11)]) (g_c dX7_taken_18 g_n) rfl rfl ?_
    refine V_iret C dX7_taken_20 ?_
    exact ⟨by rw [if_neg (fun z => h15 z)], rfl⟩
set_option maxHeartbeats 4000000 in
set_option maxRecDepth 100000 in
theorem c_X8_taken_4_2 (σ : gS) (d : Int32) {nd : Nat} (hd : σ 63 15 = nI nd) (hd6 : nd ≤ 6) (hx : σ 68 (ix d) = 4) : g_Met yX8_taken cX8_taken 4 (some .int) 4 kM [.ref 63, .int d, .int 2] σ (fun rv s => rv = some (.int (if g_in d 0 ((σ 63 15) - 1) then (σ 69 (ix d)) else (-11))) ∧ s = σ) := by
  refine g_Met.of (own := 8) (L := [some (.ref 63), some (.int d), some (.int 2), none]) (by decide) rfl rfl (fun ad => Nat.le_of_ble_eq_true rfl) (fun ad => rfl) (fun X G K C => ?_)
  refine V_blk C (pc' := 6) (σ' := σ) (L' := [some (.ref 63), some (.int d), some (.int 2), none]) (st' := [.long 5, .long 0, .long (Int32.toInt64 2)]) (g_c dX8_taken_0 (g_c dX8_taken_1 (g_c dX8_taken_2 (g_c dX8_taken_3 g_n)))) rfl rfl ?_
  refine V_callSI C cs_X8_110 (c_X8_in32 σ 2 0 5 (by decide) (by decide)) (by decide) (by decide) (fun _ h => h) (As := [.long (Int32.toInt64 2), .long 0, .long 5]) (rest := []) rfl rfl (Nat.le_of_ble_eq_true rfl) dX8_taken_6 ?_
  refine V_if_ne_b C (tgt := 15) dX8_taken_9 (by decide) (fun _ => ?_) (fun z => absurd (by decide) z)
  refine V_blk C (pc' := 17) (σ' := σ) (L' := [some (.ref 63), some (.int d), some (.int 2), none]) (st' := [.int d, .ref 63]) (g_c dX8_taken_15 (g_c dX8_taken_16 g_n)) rfl rfl ?_
  refine V_callVI C cv_X8_127 (c_X8_isDrip σ d) ⟨_, _, _, _, rfl, rfl⟩ (by rfl) (by decide) (by decide) (fun _ h => h) (As := [.int d]) (rest := []) rfl rfl (Nat.le_of_ble_eq_true rfl) dX8_taken_17 ?_
  refine V_if_ne_b C (tgt := 26) dX8_taken_20 (by decide) (fun h20 => ?_) (fun h20 => ?_)
  · skip
    refine V_blk C (pc' := 31) (σ' := σ) (L' := [some (.ref 63), some (.int d), some (.int 2), none]) (st' := [.int d, .ref 68]) (g_c dX8_taken_26 (g_c dX8_taken_27 (g_c dX8_taken_30 g_n))) rfl rfl ?_
    refine V_iald C (k := 68) (n := 6) (by rfl) (by rfl) (g_vp h20 hd hd6 (by decide)) dX8_taken_31 ?_
    rw [show σ 68 (Int32.toNatClampNeg d) = 4 from hx]
    refine V_blk C (pc' := 35) (σ' := σ) (L' := [some (.ref 63), some (.int d), some (.int 2), some (.int 4)]) (st' := [.int (-1), .int 4]) (g_c dX8_taken_32 (g_c dX8_taken_33 (g_c dX8_taken_34 g_n))) rfl rfl ?_
    refine V_icmp_eq C (tgt := 51) dX8_taken_35 (by decide) (fun z => absurd z (by decide)) (fun _ => ?_)
    refine V_blk C (pc' := 40) (σ' := σ) (L' := [some (.ref 63), some (.int d), some (.int 2), some (.int 4)]) (st' := [.int 2, .int 4]) (g_c dX8_taken_38 (g_c dX8_taken_39 g_n)) rfl rfl ?_
    refine V_icmp_eq C (tgt := 51) dX8_taken_40 (by decide) (fun z => absurd z (by decide)) (fun _ => ?_)
    refine V_blk C (pc' := 44) (σ' := σ) (L' := [some (.ref 63), some (.int d), some (.int 2), some (.int 4)]) (st' := [.int 4]) (g_c dX8_taken_43 g_n) rfl rfl ?_
    refine V_callSI C cs_X8_396 (c_X8_over_4 σ) (by decide) (by decide) (fun _ h => h) (As := [.int 4]) (rest := []) rfl rfl (Nat.le_of_ble_eq_true rfl) dX8_taken_44 ?_
    refine V_blk C (pc' := 48) (σ' := σ) (L' := [some (.ref 63), some (.int d), some (.int 2), some (.int 2)]) (st' := []) (g_c dX8_taken_47 g_n) rfl rfl ?_
    refine V_goto C (tgt := 33) dX8_taken_48 (by decide) ?_
    refine V_blk C (pc' := 35) (σ' := σ) (L' := [some (.ref 63), some (.int d), some (.int 2), some (.int 2)]) (st' := [.int (-1), .int 2]) (g_c dX8_taken_33 (g_c dX8_taken_34 g_n)) rfl rfl ?_
    refine V_icmp_eq C (tgt := 51) dX8_taken_35 (by decide) (fun z => absurd z (by decide)) (fun _ => ?_)
    refine V_blk C (pc' := 40) (σ' := σ) (L' := [some (.ref 63), some (.int d), some (.int 2), some (.int 2)]) (st' := [.int 2, .int 2]) (g_c dX8_taken_38 (g_c dX8_taken_39 g_n)) rfl rfl ?_
    refine V_icmp_eq C (tgt := 51) dX8_taken_40 (by decide) (fun _ => ?_) (fun z => absurd z (by decide))
    refine V_blk C (pc' := 53) (σ' := σ) (L' := [some (.ref 63), some (.int d), some (.int 2), some (.int 2)]) (st' := [.int 2, .int 2]) (g_c dX8_taken_51 (g_c dX8_taken_52 g_n)) rfl rfl ?_
    refine V_icmp_ne C (tgt := 65) dX8_taken_53 (by decide) (fun z => absurd z (by decide)) (fun _ => ?_)
    refine V_blk C (pc' := 61) (σ' := σ) (L' := [some (.ref 63), some (.int d), some (.int 2), some (.int 2)]) (st' := [.int d, .ref 69]) (g_c dX8_taken_56 (g_c dX8_taken_57 (g_c dX8_taken_60 g_n))) rfl rfl ?_
    refine V_iald C (k := 69) (n := 6) (by rfl) (by rfl) (g_vp h20 hd hd6 (by decide)) dX8_taken_61 ?_
    refine V_goto C (tgt := 67) dX8_taken_62 (by decide) ?_
    refine V_iret C dX8_taken_67 ?_
    exact ⟨by rw [if_pos h20], rfl⟩
  · skip
    refine V_blk C (pc' := 25) (σ' := σ) (L' := [some (.ref 63), some (.int d), some (.int 2), none]) (st' := [.int (-11)]) (g_c dX8_taken_23 g_n) rfl rfl ?_
    refine V_iret C dX8_taken_25 ?_
    exact ⟨by rw [if_neg (fun z => h20 z)], rfl⟩
set_option maxHeartbeats 4000000 in
set_option maxRecDepth 100000 in
theorem c_X7_taken_4_3 (σ : gS) (d : Int32) {nd : Nat} (hd : σ 1 8 = nI nd) (hd6 : nd ≤ 6) (hx : σ 3 (ix d) = 4) : g_Met yX7_taken cX7_taken 3 (some .int) 4 kX [.ref 0, .int d, .int 3] σ (fun rv s => rv = some (.int (if g_in d 0 ((σ 1 8) - 1) then (-13) else (-11))) ∧ s = σ) := by
  refine g_Met.of (own := 7) (L := [some (.ref 0), some (.int d), some (.int 3)]) (by decide) rfl rfl (fun ad => Nat.le_of_ble_eq_true rfl) (fun ad => rfl) (fun X G K C => ?_)
  refine V_blk C (pc' := 1) (σ' := σ) (L' := [some (.ref 0), some (.int d), some (.int 3)]) (st' := [.int 3]) (g_c dX7_taken_0 g_n) rfl rfl ?_
  refine V_callSI C cs_X7_116 (c_X7_isKind σ 3) (by decide) (by decide) (fun _ h => h) (As := [.int 3]) (rest := []) rfl rfl (Nat.le_of_ble_eq_true rfl) dX7_taken_1 ?_
  refine V_if_ne_b C (tgt := 10) dX7_taken_4 (by decide) (fun _ => ?_) (fun z => absurd (by decide) z)
  refine V_blk C (pc' := 12) (σ' := σ) (L' := [some (.ref 0), some (.int d), some (.int 3)]) (st' := [.int d, .ref 0]) (g_c dX7_taken_10 (g_c dX7_taken_11 g_n)) rfl rfl ?_
  refine V_callVI C cv_X7_101 (c_X7_isDrip σ d) ⟨_, _, _, _, rfl, rfl⟩ (by rfl) (by decide) (by decide) (fun _ h => h) (As := [.int d]) (rest := []) rfl rfl (Nat.le_of_ble_eq_true rfl) dX7_taken_12 ?_
  refine V_if_ne_b C (tgt := 21) dX7_taken_15 (by decide) (fun h15 => ?_) (fun h15 => ?_)
  · skip
    refine V_blk C (pc' := 29) (σ' := σ) (L' := [some (.ref 0), some (.int d), some (.int 3)]) (st' := [.int d, .ref 3]) (g_c dX7_taken_21 (g_c dX7_taken_22 (g_c dX7_taken_25 (g_c dX7_taken_28 g_n)))) rfl rfl ?_
    refine V_iald C (k := 3) (n := 6) (by rfl) (by rfl) (g_vp h15 hd hd6 (by decide)) dX7_taken_29 ?_
    rw [show σ 3 (Int32.toNatClampNeg d) = 4 from hx]
    refine V_blk C (pc' := 31) (σ' := σ) (L' := [some (.ref 0), some (.int d), some (.int 3)]) (st' := [.int 3, .int 4]) (g_c dX7_taken_30 g_n) rfl rfl ?_
    refine V_callSI C cs_X7_287 (c_X7_isUnder_4_3 σ) (by decide) (by decide) (fun _ h => h) (As := [.int 4, .int 3]) (rest := []) rfl rfl (Nat.le_of_ble_eq_true rfl) dX7_taken_31 ?_
    refine V_if_eq C (tgt := 49) dX7_taken_34 (by decide) (fun _ => ?_) (fun z => absurd z (by decide))
    refine V_blk C (pc' := 51) (σ' := σ) (L' := [some (.ref 0), some (.int d), some (.int 3)]) (st' := [.int (-13)]) (g_c dX7_taken_49 g_n) rfl rfl ?_
    refine V_iret C dX7_taken_51 ?_
    exact ⟨by rw [if_pos h15], rfl⟩
  · skip
    refine V_blk C (pc' := 20) (σ' := σ) (L' := [some (.ref 0), some (.int d), some (.int 3)]) (st' := [.int (-11)]) (g_c dX7_taken_18 g_n) rfl rfl ?_
    refine V_iret C dX7_taken_20 ?_
    exact ⟨by rw [if_neg (fun z => h15 z)], rfl⟩
set_option maxHeartbeats 4000000 in
set_option maxRecDepth 100000 in
theorem c_X8_taken_4_3 (σ : gS) (d : Int32) {nd : Nat} (hd : σ 63 15 = nI nd) (hd6 : nd ≤ 6) (hx : σ 68 (ix d) = 4) : g_Met yX8_taken cX8_taken 4 (some .int) 4 kM [.ref 63, .int d, .int 3] σ (fun rv s => rv = some (.int (if g_in d 0 ((σ 63 15) - 1) then (-13) else (-11))) ∧ s = σ) := by
  refine g_Met.of (own := 8) (L := [some (.ref 63), some (.int d), some (.int 3), none]) (by decide) rfl rfl (fun ad => Nat.le_of_ble_eq_true rfl) (fun ad => rfl) (fun X G K C => ?_)
  refine V_blk C (pc' := 6) (σ' := σ) (L' := [some (.ref 63), some (.int d), some (.int 3), none]) (st' := [.long 5, .long 0, .long (Int32.toInt64 3)]) (g_c dX8_taken_0 (g_c dX8_taken_1 (g_c dX8_taken_2 (g_c dX8_taken_3 g_n)))) rfl rfl ?_
  refine V_callSI C cs_X8_110 (c_X8_in32 σ 3 0 5 (by decide) (by decide)) (by decide) (by decide) (fun _ h => h) (As := [.long (Int32.toInt64 3), .long 0, .long 5]) (rest := []) rfl rfl (Nat.le_of_ble_eq_true rfl) dX8_taken_6 ?_
  refine V_if_ne_b C (tgt := 15) dX8_taken_9 (by decide) (fun _ => ?_) (fun z => absurd (by decide) z)
  refine V_blk C (pc' := 17) (σ' := σ) (L' := [some (.ref 63), some (.int d), some (.int 3), none]) (st' := [.int d, .ref 63]) (g_c dX8_taken_15 (g_c dX8_taken_16 g_n)) rfl rfl ?_
  refine V_callVI C cv_X8_127 (c_X8_isDrip σ d) ⟨_, _, _, _, rfl, rfl⟩ (by rfl) (by decide) (by decide) (fun _ h => h) (As := [.int d]) (rest := []) rfl rfl (Nat.le_of_ble_eq_true rfl) dX8_taken_17 ?_
  refine V_if_ne_b C (tgt := 26) dX8_taken_20 (by decide) (fun h20 => ?_) (fun h20 => ?_)
  · skip
    refine V_blk C (pc' := 31) (σ' := σ) (L' := [some (.ref 63), some (.int d), some (.int 3), none]) (st' := [.int d, .ref 68]) (g_c dX8_taken_26 (g_c dX8_taken_27 (g_c dX8_taken_30 g_n))) rfl rfl ?_
    refine V_iald C (k := 68) (n := 6) (by rfl) (by rfl) (g_vp h20 hd hd6 (by decide)) dX8_taken_31 ?_
    rw [show σ 68 (Int32.toNatClampNeg d) = 4 from hx]
    refine V_blk C (pc' := 35) (σ' := σ) (L' := [some (.ref 63), some (.int d), some (.int 3), some (.int 4)]) (st' := [.int (-1), .int 4]) (g_c dX8_taken_32 (g_c dX8_taken_33 (g_c dX8_taken_34 g_n))) rfl rfl ?_
    refine V_icmp_eq C (tgt := 51) dX8_taken_35 (by decide) (fun z => absurd z (by decide)) (fun _ => ?_)
    refine V_blk C (pc' := 40) (σ' := σ) (L' := [some (.ref 63), some (.int d), some (.int 3), some (.int 4)]) (st' := [.int 3, .int 4]) (g_c dX8_taken_38 (g_c dX8_taken_39 g_n)) rfl rfl ?_
    refine V_icmp_eq C (tgt := 51) dX8_taken_40 (by decide) (fun z => absurd z (by decide)) (fun _ => ?_)
    refine V_blk C (pc' := 44) (σ' := σ) (L' := [some (.ref 63), some (.int d), some (.int 3), some (.int 4)]) (st' := [.int 4]) (g_c dX8_taken_43 g_n) rfl rfl ?_
    refine V_callSI C cs_X8_396 (c_X8_over_4 σ) (by decide) (by decide) (fun _ h => h) (As := [.int 4]) (rest := []) rfl rfl (Nat.le_of_ble_eq_true rfl) dX8_taken_44 ?_
    refine V_blk C (pc' := 48) (σ' := σ) (L' := [some (.ref 63), some (.int d), some (.int 3), some (.int 2)]) (st' := []) (g_c dX8_taken_47 g_n) rfl rfl ?_
    refine V_goto C (tgt := 33) dX8_taken_48 (by decide) ?_
    refine V_blk C (pc' := 35) (σ' := σ) (L' := [some (.ref 63), some (.int d), some (.int 3), some (.int 2)]) (st' := [.int (-1), .int 2]) (g_c dX8_taken_33 (g_c dX8_taken_34 g_n)) rfl rfl ?_
    refine V_icmp_eq C (tgt := 51) dX8_taken_35 (by decide) (fun z => absurd z (by decide)) (fun _ => ?_)
    refine V_blk C (pc' := 40) (σ' := σ) (L' := [some (.ref 63), some (.int d), some (.int 3), some (.int 2)]) (st' := [.int 3, .int 2]) (g_c dX8_taken_38 (g_c dX8_taken_39 g_n)) rfl rfl ?_
    refine V_icmp_eq C (tgt := 51) dX8_taken_40 (by decide) (fun z => absurd z (by decide)) (fun _ => ?_)
    refine V_blk C (pc' := 44) (σ' := σ) (L' := [some (.ref 63), some (.int d), some (.int 3), some (.int 2)]) (st' := [.int 2]) (g_c dX8_taken_43 g_n) rfl rfl ?_
    refine V_callSI C cs_X8_396 (c_X8_over_2 σ) (by decide) (by decide) (fun _ h => h) (As := [.int 2]) (rest := []) rfl rfl (Nat.le_of_ble_eq_true rfl) dX8_taken_44 ?_
    refine V_blk C (pc' := 48) (σ' := σ) (L' := [some (.ref 63), some (.int d), some (.int 3), some (.int 0)]) (st' := []) (g_c dX8_taken_47 g_n) rfl rfl ?_
    refine V_goto C (tgt := 33) dX8_taken_48 (by decide) ?_
    refine V_blk C (pc' := 35) (σ' := σ) (L' := [some (.ref 63), some (.int d), some (.int 3), some (.int 0)]) (st' := [.int (-1), .int 0]) (g_c dX8_taken_33 (g_c dX8_taken_34 g_n)) rfl rfl ?_
    refine V_icmp_eq C (tgt := 51) dX8_taken_35 (by decide) (fun z => absurd z (by decide)) (fun _ => ?_)
    refine V_blk C (pc' := 40) (σ' := σ) (L' := [some (.ref 63), some (.int d), some (.int 3), some (.int 0)]) (st' := [.int 3, .int 0]) (g_c dX8_taken_38 (g_c dX8_taken_39 g_n)) rfl rfl ?_
    refine V_icmp_eq C (tgt := 51) dX8_taken_40 (by decide) (fun z => absurd z (by decide)) (fun _ => ?_)
    refine V_blk C (pc' := 44) (σ' := σ) (L' := [some (.ref 63), some (.int d), some (.int 3), some (.int 0)]) (st' := [.int 0]) (g_c dX8_taken_43 g_n) rfl rfl ?_
    refine V_callSI C cs_X8_396 (c_X8_over_0 σ) (by decide) (by decide) (fun _ h => h) (As := [.int 0]) (rest := []) rfl rfl (Nat.le_of_ble_eq_true rfl) dX8_taken_44 ?_
    refine V_blk C (pc' := 48) (σ' := σ) (L' := [some (.ref 63), some (.int d), some (.int 3), some (.int (-1))]) (st' := []) (g_c dX8_taken_47 g_n) rfl rfl ?_
    refine V_goto C (tgt := 33) dX8_taken_48 (by decide) ?_
    refine V_blk C (pc' := 35) (σ' := σ) (L' := [some (.ref 63), some (.int d), some (.int 3), some (.int (-1))]) (st' := [.int (-1), .int (-1)]) (g_c dX8_taken_33 (g_c dX8_taken_34 g_n)) rfl rfl ?_
    refine V_icmp_eq C (tgt := 51) dX8_taken_35 (by decide) (fun _ => ?_) (fun z => absurd z (by decide))
    refine V_blk C (pc' := 53) (σ' := σ) (L' := [some (.ref 63), some (.int d), some (.int 3), some (.int (-1))]) (st' := [.int 3, .int (-1)]) (g_c dX8_taken_51 (g_c dX8_taken_52 g_n)) rfl rfl ?_
    refine V_icmp_ne C (tgt := 65) dX8_taken_53 (by decide) (fun _ => ?_) (fun z => absurd z (by decide))
    refine V_blk C (pc' := 67) (σ' := σ) (L' := [some (.ref 63), some (.int d), some (.int 3), some (.int (-1))]) (st' := [.int (-13)]) (g_c dX8_taken_65 g_n) rfl rfl ?_
    refine V_iret C dX8_taken_67 ?_
    exact ⟨by rw [if_pos h20], rfl⟩
  · skip
    refine V_blk C (pc' := 25) (σ' := σ) (L' := [some (.ref 63), some (.int d), some (.int 3), none]) (st' := [.int (-11)]) (g_c dX8_taken_23 g_n) rfl rfl ?_
    refine V_iret C dX8_taken_25 ?_
    exact ⟨by rw [if_neg (fun z => h20 z)], rfl⟩
set_option maxHeartbeats 4000000 in
set_option maxRecDepth 100000 in
theorem c_X7_taken_4_4 (σ : gS) (d : Int32) {nd : Nat} (hd : σ 1 8 = nI nd) (hd6 : nd ≤ 6) (hx : σ 3 (ix d) = 4) : g_Met yX7_taken cX7_taken 3 (some .int) 4 kX [.ref 0, .int d, .int 4] σ (fun rv s => rv = some (.int (if g_in d 0 ((σ 1 8) - 1) then (σ 4 (ix d)) else (-11))) ∧ s = σ) := by
  refine g_Met.of (own := 7) (L := [some (.ref 0), some (.int d), some (.int 4)]) (by decide) rfl rfl (fun ad => Nat.le_of_ble_eq_true rfl) (fun ad => rfl) (fun X G K C => ?_)
  refine V_blk C (pc' := 1) (σ' := σ) (L' := [some (.ref 0), some (.int d), some (.int 4)]) (st' := [.int 4]) (g_c dX7_taken_0 g_n) rfl rfl ?_
  refine V_callSI C cs_X7_116 (c_X7_isKind σ 4) (by decide) (by decide) (fun _ h => h) (As := [.int 4]) (rest := []) rfl rfl (Nat.le_of_ble_eq_true rfl) dX7_taken_1 ?_
  refine V_if_ne_b C (tgt := 10) dX7_taken_4 (by decide) (fun _ => ?_) (fun z => absurd (by decide) z)
  refine V_blk C (pc' := 12) (σ' := σ) (L' := [some (.ref 0), some (.int d), some (.int 4)]) (st' := [.int d, .ref 0]) (g_c dX7_taken_10 (g_c dX7_taken_11 g_n)) rfl rfl ?_
  refine V_callVI C cv_X7_101 (c_X7_isDrip σ d) ⟨_, _, _, _, rfl, rfl⟩ (by rfl) (by decide) (by decide) (fun _ h => h) (As := [.int d]) (rest := []) rfl rfl (Nat.le_of_ble_eq_true rfl) dX7_taken_12 ?_
  refine V_if_ne_b C (tgt := 21) dX7_taken_15 (by decide) (fun h15 => ?_) (fun h15 => ?_)
  · skip
    refine V_blk C (pc' := 29) (σ' := σ) (L' := [some (.ref 0), some (.int d), some (.int 4)]) (st' := [.int d, .ref 3]) (g_c dX7_taken_21 (g_c dX7_taken_22 (g_c dX7_taken_25 (g_c dX7_taken_28 g_n)))) rfl rfl ?_
    refine V_iald C (k := 3) (n := 6) (by rfl) (by rfl) (g_vp h15 hd hd6 (by decide)) dX7_taken_29 ?_
    rw [show σ 3 (Int32.toNatClampNeg d) = 4 from hx]
    refine V_blk C (pc' := 31) (σ' := σ) (L' := [some (.ref 0), some (.int d), some (.int 4)]) (st' := [.int 4, .int 4]) (g_c dX7_taken_30 g_n) rfl rfl ?_
    refine V_callSI C cs_X7_287 (c_X7_isUnder_4_4 σ) (by decide) (by decide) (fun _ h => h) (As := [.int 4, .int 4]) (rest := []) rfl rfl (Nat.le_of_ble_eq_true rfl) dX7_taken_31 ?_
    refine V_if_eq C (tgt := 49) dX7_taken_34 (by decide) (fun z => absurd z (by decide)) (fun _ => ?_)
    refine V_blk C (pc' := 45) (σ' := σ) (L' := [some (.ref 0), some (.int d), some (.int 4)]) (st' := [.int d, .ref 4]) (g_c dX7_taken_37 (g_c dX7_taken_38 (g_c dX7_taken_41 (g_c dX7_taken_44 g_n)))) rfl rfl ?_
    refine V_iald C (k := 4) (n := 6) (by rfl) (by rfl) (g_vp h15 hd hd6 (by decide)) dX7_taken_45 ?_
    refine V_goto C (tgt := 51) dX7_taken_46 (by decide) ?_
    refine V_iret C dX7_taken_51 ?_
    exact ⟨by rw [if_pos h15], rfl⟩
  · skip
    refine V_blk C (pc' := 20) (σ' := σ) (L' := [some (.ref 0), some (.int d), some (.int 4)]) (st' := [.int (-11)]) (g_c dX7_taken_18 g_n) rfl rfl ?_
    refine V_iret C dX7_taken_20 ?_
    exact ⟨by rw [if_neg (fun z => h15 z)], rfl⟩
set_option maxHeartbeats 4000000 in
set_option maxRecDepth 100000 in
theorem c_X8_taken_4_4 (σ : gS) (d : Int32) {nd : Nat} (hd : σ 63 15 = nI nd) (hd6 : nd ≤ 6) (hx : σ 68 (ix d) = 4) : g_Met yX8_taken cX8_taken 4 (some .int) 4 kM [.ref 63, .int d, .int 4] σ (fun rv s => rv = some (.int (if g_in d 0 ((σ 63 15) - 1) then (σ 69 (ix d)) else (-11))) ∧ s = σ) := by
  refine g_Met.of (own := 8) (L := [some (.ref 63), some (.int d), some (.int 4), none]) (by decide) rfl rfl (fun ad => Nat.le_of_ble_eq_true rfl) (fun ad => rfl) (fun X G K C => ?_)
  refine V_blk C (pc' := 6) (σ' := σ) (L' := [some (.ref 63), some (.int d), some (.int 4), none]) (st' := [.long 5, .long 0, .long (Int32.toInt64 4)]) (g_c dX8_taken_0 (g_c dX8_taken_1 (g_c dX8_taken_2 (g_c dX8_taken_3 g_n)))) rfl rfl ?_
  refine V_callSI C cs_X8_110 (c_X8_in32 σ 4 0 5 (by decide) (by decide)) (by decide) (by decide) (fun _ h => h) (As := [.long (Int32.toInt64 4), .long 0, .long 5]) (rest := []) rfl rfl (Nat.le_of_ble_eq_true rfl) dX8_taken_6 ?_
  refine V_if_ne_b C (tgt := 15) dX8_taken_9 (by decide) (fun _ => ?_) (fun z => absurd (by decide) z)
  refine V_blk C (pc' := 17) (σ' := σ) (L' := [some (.ref 63), some (.int d), some (.int 4), none]) (st' := [.int d, .ref 63]) (g_c dX8_taken_15 (g_c dX8_taken_16 g_n)) rfl rfl ?_
  refine V_callVI C cv_X8_127 (c_X8_isDrip σ d) ⟨_, _, _, _, rfl, rfl⟩ (by rfl) (by decide) (by decide) (fun _ h => h) (As := [.int d]) (rest := []) rfl rfl (Nat.le_of_ble_eq_true rfl) dX8_taken_17 ?_
  refine V_if_ne_b C (tgt := 26) dX8_taken_20 (by decide) (fun h20 => ?_) (fun h20 => ?_)
  · skip
    refine V_blk C (pc' := 31) (σ' := σ) (L' := [some (.ref 63), some (.int d), some (.int 4), none]) (st' := [.int d, .ref 68]) (g_c dX8_taken_26 (g_c dX8_taken_27 (g_c dX8_taken_30 g_n))) rfl rfl ?_
    refine V_iald C (k := 68) (n := 6) (by rfl) (by rfl) (g_vp h20 hd hd6 (by decide)) dX8_taken_31 ?_
    rw [show σ 68 (Int32.toNatClampNeg d) = 4 from hx]
    refine V_blk C (pc' := 35) (σ' := σ) (L' := [some (.ref 63), some (.int d), some (.int 4), some (.int 4)]) (st' := [.int (-1), .int 4]) (g_c dX8_taken_32 (g_c dX8_taken_33 (g_c dX8_taken_34 g_n))) rfl rfl ?_
    refine V_icmp_eq C (tgt := 51) dX8_taken_35 (by decide) (fun z => absurd z (by decide)) (fun _ => ?_)
    refine V_blk C (pc' := 40) (σ' := σ) (L' := [some (.ref 63), some (.int d), some (.int 4), some (.int 4)]) (st' := [.int 4, .int 4]) (g_c dX8_taken_38 (g_c dX8_taken_39 g_n)) rfl rfl ?_
    refine V_icmp_eq C (tgt := 51) dX8_taken_40 (by decide) (fun _ => ?_) (fun z => absurd z (by decide))
    refine V_blk C (pc' := 53) (σ' := σ) (L' := [some (.ref 63), some (.int d), some (.int 4), some (.int 4)]) (st' := [.int 4, .int 4]) (g_c dX8_taken_51 (g_c dX8_taken_52 g_n)) rfl rfl ?_
    refine V_icmp_ne C (tgt := 65) dX8_taken_53 (by decide) (fun z => absurd z (by decide)) (fun _ => ?_)
    refine V_blk C (pc' := 61) (σ' := σ) (L' := [some (.ref 63), some (.int d), some (.int 4), some (.int 4)]) (st' := [.int d, .ref 69]) (g_c dX8_taken_56 (g_c dX8_taken_57 (g_c dX8_taken_60 g_n))) rfl rfl ?_
    refine V_iald C (k := 69) (n := 6) (by rfl) (by rfl) (g_vp h20 hd hd6 (by decide)) dX8_taken_61 ?_
    refine V_goto C (tgt := 67) dX8_taken_62 (by decide) ?_
    refine V_iret C dX8_taken_67 ?_
    exact ⟨by rw [if_pos h20], rfl⟩
  · skip
    refine V_blk C (pc' := 25) (σ' := σ) (L' := [some (.ref 63), some (.int d), some (.int 4), none]) (st' := [.int (-11)]) (g_c dX8_taken_23 g_n) rfl rfl ?_
    refine V_iret C dX8_taken_25 ?_
    exact ⟨by rw [if_neg (fun z => h20 z)], rfl⟩
set_option maxHeartbeats 4000000 in
set_option maxRecDepth 100000 in
theorem c_X7_taken_4_5 (σ : gS) (d : Int32) {nd : Nat} (hd : σ 1 8 = nI nd) (hd6 : nd ≤ 6) (hx : σ 3 (ix d) = 4) : g_Met yX7_taken cX7_taken 3 (some .int) 4 kX [.ref 0, .int d, .int 5] σ (fun rv s => rv = some (.int (if g_in d 0 ((σ 1 8) - 1) then (-13) else (-11))) ∧ s = σ) := by
  refine g_Met.of (own := 7) (L := [some (.ref 0), some (.int d), some (.int 5)]) (by decide) rfl rfl (fun ad => Nat.le_of_ble_eq_true rfl) (fun ad => rfl) (fun X G K C => ?_)
  refine V_blk C (pc' := 1) (σ' := σ) (L' := [some (.ref 0), some (.int d), some (.int 5)]) (st' := [.int 5]) (g_c dX7_taken_0 g_n) rfl rfl ?_
  refine V_callSI C cs_X7_116 (c_X7_isKind σ 5) (by decide) (by decide) (fun _ h => h) (As := [.int 5]) (rest := []) rfl rfl (Nat.le_of_ble_eq_true rfl) dX7_taken_1 ?_
  refine V_if_ne_b C (tgt := 10) dX7_taken_4 (by decide) (fun _ => ?_) (fun z => absurd (by decide) z)
  refine V_blk C (pc' := 12) (σ' := σ) (L' := [some (.ref 0), some (.int d), some (.int 5)]) (st' := [.int d, .ref 0]) (g_c dX7_taken_10 (g_c dX7_taken_11 g_n)) rfl rfl ?_
  refine V_callVI C cv_X7_101 (c_X7_isDrip σ d) ⟨_, _, _, _, rfl, rfl⟩ (by rfl) (by decide) (by decide) (fun _ h => h) (As := [.int d]) (rest := []) rfl rfl (Nat.le_of_ble_eq_true rfl) dX7_taken_12 ?_
  refine V_if_ne_b C (tgt := 21) dX7_taken_15 (by decide) (fun h15 => ?_) (fun h15 => ?_)
  · skip
    refine V_blk C (pc' := 29) (σ' := σ) (L' := [some (.ref 0), some (.int d), some (.int 5)]) (st' := [.int d, .ref 3]) (g_c dX7_taken_21 (g_c dX7_taken_22 (g_c dX7_taken_25 (g_c dX7_taken_28 g_n)))) rfl rfl ?_
    refine V_iald C (k := 3) (n := 6) (by rfl) (by rfl) (g_vp h15 hd hd6 (by decide)) dX7_taken_29 ?_
    rw [show σ 3 (Int32.toNatClampNeg d) = 4 from hx]
    refine V_blk C (pc' := 31) (σ' := σ) (L' := [some (.ref 0), some (.int d), some (.int 5)]) (st' := [.int 5, .int 4]) (g_c dX7_taken_30 g_n) rfl rfl ?_
    refine V_callSI C cs_X7_287 (c_X7_isUnder_4_5 σ) (by decide) (by decide) (fun _ h => h) (As := [.int 4, .int 5]) (rest := []) rfl rfl (Nat.le_of_ble_eq_true rfl) dX7_taken_31 ?_
    refine V_if_eq C (tgt := 49) dX7_taken_34 (by decide) (fun _ => ?_) (fun z => absurd z (by decide))
    refine V_blk C (pc' := 51) (σ' := σ) (L' := [some (.ref 0), some (.int d), some (.int 5)]) (st' := [.int (-13)]) (g_c dX7_taken_49 g_n) rfl rfl ?_
    refine V_iret C dX7_taken_51 ?_
    exact ⟨by rw [if_pos h15], rfl⟩
  · skip
    refine V_blk C (pc' := 20) (σ' := σ) (L' := [some (.ref 0), some (.int d), some (.int 5)]) (st' := [.int (-11)]) (g_c dX7_taken_18 g_n) rfl rfl ?_
    refine V_iret C dX7_taken_20 ?_
    exact ⟨by rw [if_neg (fun z => h15 z)], rfl⟩
set_option maxHeartbeats 4000000 in
set_option maxRecDepth 100000 in
theorem c_X8_taken_4_5 (σ : gS) (d : Int32) {nd : Nat} (hd : σ 63 15 = nI nd) (hd6 : nd ≤ 6) (hx : σ 68 (ix d) = 4) : g_Met yX8_taken cX8_taken 4 (some .int) 4 kM [.ref 63, .int d, .int 5] σ (fun rv s => rv = some (.int (if g_in d 0 ((σ 63 15) - 1) then (-13) else (-11))) ∧ s = σ) := by
  refine g_Met.of (own := 8) (L := [some (.ref 63), some (.int d), some (.int 5), none]) (by decide) rfl rfl (fun ad => Nat.le_of_ble_eq_true rfl) (fun ad => rfl) (fun X G K C => ?_)
  refine V_blk C (pc' := 6) (σ' := σ) (L' := [some (.ref 63), some (.int d), some (.int 5), none]) (st' := [.long 5, .long 0, .long (Int32.toInt64 5)]) (g_c dX8_taken_0 (g_c dX8_taken_1 (g_c dX8_taken_2 (g_c dX8_taken_3 g_n)))) rfl rfl ?_
  refine V_callSI C cs_X8_110 (c_X8_in32 σ 5 0 5 (by decide) (by decide)) (by decide) (by decide) (fun _ h => h) (As := [.long (Int32.toInt64 5), .long 0, .long 5]) (rest := []) rfl rfl (Nat.le_of_ble_eq_true rfl) dX8_taken_6 ?_
  refine V_if_ne_b C (tgt := 15) dX8_taken_9 (by decide) (fun _ => ?_) (fun z => absurd (by decide) z)
  refine V_blk C (pc' := 17) (σ' := σ) (L' := [some (.ref 63), some (.int d), some (.int 5), none]) (st' := [.int d, .ref 63]) (g_c dX8_taken_15 (g_c dX8_taken_16 g_n)) rfl rfl ?_
  refine V_callVI C cv_X8_127 (c_X8_isDrip σ d) ⟨_, _, _, _, rfl, rfl⟩ (by rfl) (by decide) (by decide) (fun _ h => h) (As := [.int d]) (rest := []) rfl rfl (Nat.le_of_ble_eq_true rfl) dX8_taken_17 ?_
  refine V_if_ne_b C (tgt := 26) dX8_taken_20 (by decide) (fun h20 => ?_) (fun h20 => ?_)
  · skip
    refine V_blk C (pc' := 31) (σ' := σ) (L' := [some (.ref 63), some (.int d), some (.int 5), none]) (st' := [.int d, .ref 68]) (g_c dX8_taken_26 (g_c dX8_taken_27 (g_c dX8_taken_30 g_n))) rfl rfl ?_
    refine V_iald C (k := 68) (n := 6) (by rfl) (by rfl) (g_vp h20 hd hd6 (by decide)) dX8_taken_31 ?_
    rw [show σ 68 (Int32.toNatClampNeg d) = 4 from hx]
    refine V_blk C (pc' := 35) (σ' := σ) (L' := [some (.ref 63), some (.int d), some (.int 5), some (.int 4)]) (st' := [.int (-1), .int 4]) (g_c dX8_taken_32 (g_c dX8_taken_33 (g_c dX8_taken_34 g_n))) rfl rfl ?_
    refine V_icmp_eq C (tgt := 51) dX8_taken_35 (by decide) (fun z => absurd z (by decide)) (fun _ => ?_)
    refine V_blk C (pc' := 40) (σ' := σ) (L' := [some (.ref 63), some (.int d), some (.int 5), some (.int 4)]) (st' := [.int 5, .int 4]) (g_c dX8_taken_38 (g_c dX8_taken_39 g_n)) rfl rfl ?_
    refine V_icmp_eq C (tgt := 51) dX8_taken_40 (by decide) (fun z => absurd z (by decide)) (fun _ => ?_)
    refine V_blk C (pc' := 44) (σ' := σ) (L' := [some (.ref 63), some (.int d), some (.int 5), some (.int 4)]) (st' := [.int 4]) (g_c dX8_taken_43 g_n) rfl rfl ?_
    refine V_callSI C cs_X8_396 (c_X8_over_4 σ) (by decide) (by decide) (fun _ h => h) (As := [.int 4]) (rest := []) rfl rfl (Nat.le_of_ble_eq_true rfl) dX8_taken_44 ?_
    refine V_blk C (pc' := 48) (σ' := σ) (L' := [some (.ref 63), some (.int d), some (.int 5), some (.int 2)]) (st' := []) (g_c dX8_taken_47 g_n) rfl rfl ?_
    refine V_goto C (tgt := 33) dX8_taken_48 (by decide) ?_
    refine V_blk C (pc' := 35) (σ' := σ) (L' := [some (.ref 63), some (.int d), some (.int 5), some (.int 2)]) (st' := [.int (-1), .int 2]) (g_c dX8_taken_33 (g_c dX8_taken_34 g_n)) rfl rfl ?_
    refine V_icmp_eq C (tgt := 51) dX8_taken_35 (by decide) (fun z => absurd z (by decide)) (fun _ => ?_)
    refine V_blk C (pc' := 40) (σ' := σ) (L' := [some (.ref 63), some (.int d), some (.int 5), some (.int 2)]) (st' := [.int 5, .int 2]) (g_c dX8_taken_38 (g_c dX8_taken_39 g_n)) rfl rfl ?_
    refine V_icmp_eq C (tgt := 51) dX8_taken_40 (by decide) (fun z => absurd z (by decide)) (fun _ => ?_)
    refine V_blk C (pc' := 44) (σ' := σ) (L' := [some (.ref 63), some (.int d), some (.int 5), some (.int 2)]) (st' := [.int 2]) (g_c dX8_taken_43 g_n) rfl rfl ?_
    refine V_callSI C cs_X8_396 (c_X8_over_2 σ) (by decide) (by decide) (fun _ h => h) (As := [.int 2]) (rest := []) rfl rfl (Nat.le_of_ble_eq_true rfl) dX8_taken_44 ?_
    refine V_blk C (pc' := 48) (σ' := σ) (L' := [some (.ref 63), some (.int d), some (.int 5), some (.int 0)]) (st' := []) (g_c dX8_taken_47 g_n) rfl rfl ?_
    refine V_goto C (tgt := 33) dX8_taken_48 (by decide) ?_
    refine V_blk C (pc' := 35) (σ' := σ) (L' := [some (.ref 63), some (.int d), some (.int 5), some (.int 0)]) (st' := [.int (-1), .int 0]) (g_c dX8_taken_33 (g_c dX8_taken_34 g_n)) rfl rfl ?_
    refine V_icmp_eq C (tgt := 51) dX8_taken_35 (by decide) (fun z => absurd z (by decide)) (fun _ => ?_)
    refine V_blk C (pc' := 40) (σ' := σ) (L' := [some (.ref 63), some (.int d), some (.int 5), some (.int 0)]) (st' := [.int 5, .int 0]) (g_c dX8_taken_38 (g_c dX8_taken_39 g_n)) rfl rfl ?_
    refine V_icmp_eq C (tgt := 51) dX8_taken_40 (by decide) (fun z => absurd z (by decide)) (fun _ => ?_)
    refine V_blk C (pc' := 44) (σ' := σ) (L' := [some (.ref 63), some (.int d), some (.int 5), some (.int 0)]) (st' := [.int 0]) (g_c dX8_taken_43 g_n) rfl rfl ?_
    refine V_callSI C cs_X8_396 (c_X8_over_0 σ) (by decide) (by decide) (fun _ h => h) (As := [.int 0]) (rest := []) rfl rfl (Nat.le_of_ble_eq_true rfl) dX8_taken_44 ?_
    refine V_blk C (pc' := 48) (σ' := σ) (L' := [some (.ref 63), some (.int d), some (.int 5), some (.int (-1))]) (st' := []) (g_c dX8_taken_47 g_n) rfl rfl ?_
    refine V_goto C (tgt := 33) dX8_taken_48 (by decide) ?_
    refine V_blk C (pc' := 35) (σ' := σ) (L' := [some (.ref 63), some (.int d), some (.int 5), some (.int (-1))]) (st' := [.int (-1), .int (-1)]) (g_c dX8_taken_33 (g_c dX8_taken_34 g_n)) rfl rfl ?_
    refine V_icmp_eq C (tgt := 51) dX8_taken_35 (by decide) (fun _ => ?_) (fun z => absurd z (by decide))
    refine V_blk C (pc' := 53) (σ' := σ) (L' := [some (.ref 63), some (.int d), some (.int 5), some (.int (-1))]) (st' := [.int 5, .int (-1)]) (g_c dX8_taken_51 (g_c dX8_taken_52 g_n)) rfl rfl ?_
    refine V_icmp_ne C (tgt := 65) dX8_taken_53 (by decide) (fun _ => ?_) (fun z => absurd z (by decide))
    refine V_blk C (pc' := 67) (σ' := σ) (L' := [some (.ref 63), some (.int d), some (.int 5), some (.int (-1))]) (st' := [.int (-13)]) (g_c dX8_taken_65 g_n) rfl rfl ?_
    refine V_iret C dX8_taken_67 ?_
    exact ⟨by rw [if_pos h20], rfl⟩
  · skip
    refine V_blk C (pc' := 25) (σ' := σ) (L' := [some (.ref 63), some (.int d), some (.int 5), none]) (st' := [.int (-11)]) (g_c dX8_taken_23 g_n) rfl rfl ?_
    refine V_iret C dX8_taken_25 ?_
    exact ⟨by rw [if_neg (fun z => h20 z)], rfl⟩
set_option maxHeartbeats 4000000 in
set_option maxRecDepth 100000 in
theorem c_X7_taken_5_0 (σ : gS) (d : Int32) {nd : Nat} (hd : σ 1 8 = nI nd) (hd6 : nd ≤ 6) (hx : σ 3 (ix d) = 5) : g_Met yX7_taken cX7_taken 3 (some .int) 4 kX [.ref 0, .int d, .int 0] σ (fun rv s => rv = some (.int (if g_in d 0 ((σ 1 8) - 1) then (σ 4 (ix d)) else (-11))) ∧ s = σ) := by
  refine g_Met.of (own := 7) (L := [some (.ref 0), some (.int d), some (.int 0)]) (by decide) rfl rfl (fun ad => Nat.le_of_ble_eq_true rfl) (fun ad => rfl) (fun X G K C => ?_)
  refine V_blk C (pc' := 1) (σ' := σ) (L' := [some (.ref 0), some (.int d), some (.int 0)]) (st' := [.int 0]) (g_c dX7_taken_0 g_n) rfl rfl ?_
  refine V_callSI C cs_X7_116 (c_X7_isKind σ 0) (by decide) (by decide) (fun _ h => h) (As := [.int 0]) (rest := []) rfl rfl (Nat.le_of_ble_eq_true rfl) dX7_taken_1 ?_
  refine V_if_ne_b C (tgt := 10) dX7_taken_4 (by decide) (fun _ => ?_) (fun z => absurd (by decide) z)
  refine V_blk C (pc' := 12) (σ' := σ) (L' := [some (.ref 0), some (.int d), some (.int 0)]) (st' := [.int d, .ref 0]) (g_c dX7_taken_10 (g_c dX7_taken_11 g_n)) rfl rfl ?_
  refine V_callVI C cv_X7_101 (c_X7_isDrip σ d) ⟨_, _, _, _, rfl, rfl⟩ (by rfl) (by decide) (by decide) (fun _ h => h) (As := [.int d]) (rest := []) rfl rfl (Nat.le_of_ble_eq_true rfl) dX7_taken_12 ?_
  refine V_if_ne_b C (tgt := 21) dX7_taken_15 (by decide) (fun h15 => ?_) (fun h15 => ?_)
  · skip
    refine V_blk C (pc' := 29) (σ' := σ) (L' := [some (.ref 0), some (.int d), some (.int 0)]) (st' := [.int d, .ref 3]) (g_c dX7_taken_21 (g_c dX7_taken_22 (g_c dX7_taken_25 (g_c dX7_taken_28 g_n)))) rfl rfl ?_
    refine V_iald C (k := 3) (n := 6) (by rfl) (by rfl) (g_vp h15 hd hd6 (by decide)) dX7_taken_29 ?_
    rw [show σ 3 (Int32.toNatClampNeg d) = 5 from hx]
    refine V_blk C (pc' := 31) (σ' := σ) (L' := [some (.ref 0), some (.int d), some (.int 0)]) (st' := [.int 0, .int 5]) (g_c dX7_taken_30 g_n) rfl rfl ?_
    refine V_callSI C cs_X7_287 (c_X7_isUnder_5_0 σ) (by decide) (by decide) (fun _ h => h) (As := [.int 5, .int 0]) (rest := []) rfl rfl (Nat.le_of_ble_eq_true rfl) dX7_taken_31 ?_
    refine V_if_eq C (tgt := 49) dX7_taken_34 (by decide) (fun z => absurd z (by decide)) (fun _ => ?_)
    refine V_blk C (pc' := 45) (σ' := σ) (L' := [some (.ref 0), some (.int d), some (.int 0)]) (st' := [.int d, .ref 4]) (g_c dX7_taken_37 (g_c dX7_taken_38 (g_c dX7_taken_41 (g_c dX7_taken_44 g_n)))) rfl rfl ?_
    refine V_iald C (k := 4) (n := 6) (by rfl) (by rfl) (g_vp h15 hd hd6 (by decide)) dX7_taken_45 ?_
    refine V_goto C (tgt := 51) dX7_taken_46 (by decide) ?_
    refine V_iret C dX7_taken_51 ?_
    exact ⟨by rw [if_pos h15], rfl⟩
  · skip
    refine V_blk C (pc' := 20) (σ' := σ) (L' := [some (.ref 0), some (.int d), some (.int 0)]) (st' := [.int (-11)]) (g_c dX7_taken_18 g_n) rfl rfl ?_
    refine V_iret C dX7_taken_20 ?_
    exact ⟨by rw [if_neg (fun z => h15 z)], rfl⟩
set_option maxHeartbeats 4000000 in
set_option maxRecDepth 100000 in
theorem c_X8_taken_5_0 (σ : gS) (d : Int32) {nd : Nat} (hd : σ 63 15 = nI nd) (hd6 : nd ≤ 6) (hx : σ 68 (ix d) = 5) : g_Met yX8_taken cX8_taken 4 (some .int) 4 kM [.ref 63, .int d, .int 0] σ (fun rv s => rv = some (.int (if g_in d 0 ((σ 63 15) - 1) then (σ 69 (ix d)) else (-11))) ∧ s = σ) := by
  refine g_Met.of (own := 8) (L := [some (.ref 63), some (.int d), some (.int 0), none]) (by decide) rfl rfl (fun ad => Nat.le_of_ble_eq_true rfl) (fun ad => rfl) (fun X G K C => ?_)
  refine V_blk C (pc' := 6) (σ' := σ) (L' := [some (.ref 63), some (.int d), some (.int 0), none]) (st' := [.long 5, .long 0, .long (Int32.toInt64 0)]) (g_c dX8_taken_0 (g_c dX8_taken_1 (g_c dX8_taken_2 (g_c dX8_taken_3 g_n)))) rfl rfl ?_
  refine V_callSI C cs_X8_110 (c_X8_in32 σ 0 0 5 (by decide) (by decide)) (by decide) (by decide) (fun _ h => h) (As := [.long (Int32.toInt64 0), .long 0, .long 5]) (rest := []) rfl rfl (Nat.le_of_ble_eq_true rfl) dX8_taken_6 ?_
  refine V_if_ne_b C (tgt := 15) dX8_taken_9 (by decide) (fun _ => ?_) (fun z => absurd (by decide) z)
  refine V_blk C (pc' := 17) (σ' := σ) (L' := [some (.ref 63), some (.int d), some (.int 0), none]) (st' := [.int d, .ref 63]) (g_c dX8_taken_15 (g_c dX8_taken_16 g_n)) rfl rfl ?_
  refine V_callVI C cv_X8_127 (c_X8_isDrip σ d) ⟨_, _, _, _, rfl, rfl⟩ (by rfl) (by decide) (by decide) (fun _ h => h) (As := [.int d]) (rest := []) rfl rfl (Nat.le_of_ble_eq_true rfl) dX8_taken_17 ?_
  refine V_if_ne_b C (tgt := 26) dX8_taken_20 (by decide) (fun h20 => ?_) (fun h20 => ?_)
  · skip
    refine V_blk C (pc' := 31) (σ' := σ) (L' := [some (.ref 63), some (.int d), some (.int 0), none]) (st' := [.int d, .ref 68]) (g_c dX8_taken_26 (g_c dX8_taken_27 (g_c dX8_taken_30 g_n))) rfl rfl ?_
    refine V_iald C (k := 68) (n := 6) (by rfl) (by rfl) (g_vp h20 hd hd6 (by decide)) dX8_taken_31 ?_
    rw [show σ 68 (Int32.toNatClampNeg d) = 5 from hx]
    refine V_blk C (pc' := 35) (σ' := σ) (L' := [some (.ref 63), some (.int d), some (.int 0), some (.int 5)]) (st' := [.int (-1), .int 5]) (g_c dX8_taken_32 (g_c dX8_taken_33 (g_c dX8_taken_34 g_n))) rfl rfl ?_
    refine V_icmp_eq C (tgt := 51) dX8_taken_35 (by decide) (fun z => absurd z (by decide)) (fun _ => ?_)
    refine V_blk C (pc' := 40) (σ' := σ) (L' := [some (.ref 63), some (.int d), some (.int 0), some (.int 5)]) (st' := [.int 0, .int 5]) (g_c dX8_taken_38 (g_c dX8_taken_39 g_n)) rfl rfl ?_
    refine V_icmp_eq C (tgt := 51) dX8_taken_40 (by decide) (fun z => absurd z (by decide)) (fun _ => ?_)
    refine V_blk C (pc' := 44) (σ' := σ) (L' := [some (.ref 63), some (.int d), some (.int 0), some (.int 5)]) (st' := [.int 5]) (g_c dX8_taken_43 g_n) rfl rfl ?_
    refine V_callSI C cs_X8_396 (c_X8_over_5 σ) (by decide) (by decide) (fun _ h => h) (As := [.int 5]) (rest := []) rfl rfl (Nat.le_of_ble_eq_true rfl) dX8_taken_44 ?_
    refine V_blk C (pc' := 48) (σ' := σ) (L' := [some (.ref 63), some (.int d), some (.int 0), some (.int 1)]) (st' := []) (g_c dX8_taken_47 g_n) rfl rfl ?_
    refine V_goto C (tgt := 33) dX8_taken_48 (by decide) ?_
    refine V_blk C (pc' := 35) (σ' := σ) (L' := [some (.ref 63), some (.int d), some (.int 0), some (.int 1)]) (st' := [.int (-1), .int 1]) (g_c dX8_taken_33 (g_c dX8_taken_34 g_n)) rfl rfl ?_
    refine V_icmp_eq C (tgt := 51) dX8_taken_35 (by decide) (fun z => absurd z (by decide)) (fun _ => ?_)
    refine V_blk C (pc' := 40) (σ' := σ) (L' := [some (.ref 63), some (.int d), some (.int 0), some (.int 1)]) (st' := [.int 0, .int 1]) (g_c dX8_taken_38 (g_c dX8_taken_39 g_n)) rfl rfl ?_
    refine V_icmp_eq C (tgt := 51) dX8_taken_40 (by decide) (fun z => absurd z (by decide)) (fun _ => ?_)
    refine V_blk C (pc' := 44) (σ' := σ) (L' := [some (.ref 63), some (.int d), some (.int 0), some (.int 1)]) (st' := [.int 1]) (g_c dX8_taken_43 g_n) rfl rfl ?_
    refine V_callSI C cs_X8_396 (c_X8_over_1 σ) (by decide) (by decide) (fun _ h => h) (As := [.int 1]) (rest := []) rfl rfl (Nat.le_of_ble_eq_true rfl) dX8_taken_44 ?_
    refine V_blk C (pc' := 48) (σ' := σ) (L' := [some (.ref 63), some (.int d), some (.int 0), some (.int 0)]) (st' := []) (g_c dX8_taken_47 g_n) rfl rfl ?_
    refine V_goto C (tgt := 33) dX8_taken_48 (by decide) ?_
    refine V_blk C (pc' := 35) (σ' := σ) (L' := [some (.ref 63), some (.int d), some (.int 0), some (.int 0)]) (st' := [.int (-1), .int 0]) (g_c dX8_taken_33 (g_c dX8_taken_34 g_n)) rfl rfl ?_
    refine V_icmp_eq C (tgt := 51) dX8_taken_35 (by decide) (fun z => absurd z (by decide)) (fun _ => ?_)
    refine V_blk C (pc' := 40) (σ' := σ) (L' := [some (.ref 63), some (.int d), some (.int 0), some (.int 0)]) (st' := [.int 0, .int 0]) (g_c dX8_taken_38 (g_c dX8_taken_39 g_n)) rfl rfl ?_
    refine V_icmp_eq C (tgt := 51) dX8_taken_40 (by decide) (fun _ => ?_) (fun z => absurd z (by decide))
    refine V_blk C (pc' := 53) (σ' := σ) (L' := [some (.ref 63), some (.int d), some (.int 0), some (.int 0)]) (st' := [.int 0, .int 0]) (g_c dX8_taken_51 (g_c dX8_taken_52 g_n)) rfl rfl ?_
    refine V_icmp_ne C (tgt := 65) dX8_taken_53 (by decide) (fun z => absurd z (by decide)) (fun _ => ?_)
    refine V_blk C (pc' := 61) (σ' := σ) (L' := [some (.ref 63), some (.int d), some (.int 0), some (.int 0)]) (st' := [.int d, .ref 69]) (g_c dX8_taken_56 (g_c dX8_taken_57 (g_c dX8_taken_60 g_n))) rfl rfl ?_
    refine V_iald C (k := 69) (n := 6) (by rfl) (by rfl) (g_vp h20 hd hd6 (by decide)) dX8_taken_61 ?_
    refine V_goto C (tgt := 67) dX8_taken_62 (by decide) ?_
    refine V_iret C dX8_taken_67 ?_
    exact ⟨by rw [if_pos h20], rfl⟩
  · skip
    refine V_blk C (pc' := 25) (σ' := σ) (L' := [some (.ref 63), some (.int d), some (.int 0), none]) (st' := [.int (-11)]) (g_c dX8_taken_23 g_n) rfl rfl ?_
    refine V_iret C dX8_taken_25 ?_
    exact ⟨by rw [if_neg (fun z => h20 z)], rfl⟩
set_option maxHeartbeats 4000000 in
set_option maxRecDepth 100000 in
theorem c_X7_taken_5_1 (σ : gS) (d : Int32) {nd : Nat} (hd : σ 1 8 = nI nd) (hd6 : nd ≤ 6) (hx : σ 3 (ix d) = 5) : g_Met yX7_taken cX7_taken 3 (some .int) 4 kX [.ref 0, .int d, .int 1] σ (fun rv s => rv = some (.int (if g_in d 0 ((σ 1 8) - 1) then (σ 4 (ix d)) else (-11))) ∧ s = σ) := by
  refine g_Met.of (own := 7) (L := [some (.ref 0), some (.int d), some (.int 1)]) (by decide) rfl rfl (fun ad => Nat.le_of_ble_eq_true rfl) (fun ad => rfl) (fun X G K C => ?_)
  refine V_blk C (pc' := 1) (σ' := σ) (L' := [some (.ref 0), some (.int d), some (.int 1)]) (st' := [.int 1]) (g_c dX7_taken_0 g_n) rfl rfl ?_
  refine V_callSI C cs_X7_116 (c_X7_isKind σ 1) (by decide) (by decide) (fun _ h => h) (As := [.int 1]) (rest := []) rfl rfl (Nat.le_of_ble_eq_true rfl) dX7_taken_1 ?_
  refine V_if_ne_b C (tgt := 10) dX7_taken_4 (by decide) (fun _ => ?_) (fun z => absurd (by decide) z)
  refine V_blk C (pc' := 12) (σ' := σ) (L' := [some (.ref 0), some (.int d), some (.int 1)]) (st' := [.int d, .ref 0]) (g_c dX7_taken_10 (g_c dX7_taken_11 g_n)) rfl rfl ?_
  refine V_callVI C cv_X7_101 (c_X7_isDrip σ d) ⟨_, _, _, _, rfl, rfl⟩ (by rfl) (by decide) (by decide) (fun _ h => h) (As := [.int d]) (rest := []) rfl rfl (Nat.le_of_ble_eq_true rfl) dX7_taken_12 ?_
  refine V_if_ne_b C (tgt := 21) dX7_taken_15 (by decide) (fun h15 => ?_) (fun h15 => ?_)
  · skip
    refine V_blk C (pc' := 29) (σ' := σ) (L' := [some (.ref 0), some (.int d), some (.int 1)]) (st' := [.int d, .ref 3]) (g_c dX7_taken_21 (g_c dX7_taken_22 (g_c dX7_taken_25 (g_c dX7_taken_28 g_n)))) rfl rfl ?_
    refine V_iald C (k := 3) (n := 6) (by rfl) (by rfl) (g_vp h15 hd hd6 (by decide)) dX7_taken_29 ?_
    rw [show σ 3 (Int32.toNatClampNeg d) = 5 from hx]
    refine V_blk C (pc' := 31) (σ' := σ) (L' := [some (.ref 0), some (.int d), some (.int 1)]) (st' := [.int 1, .int 5]) (g_c dX7_taken_30 g_n) rfl rfl ?_
    refine V_callSI C cs_X7_287 (c_X7_isUnder_5_1 σ) (by decide) (by decide) (fun _ h => h) (As := [.int 5, .int 1]) (rest := []) rfl rfl (Nat.le_of_ble_eq_true rfl) dX7_taken_31 ?_
    refine V_if_eq C (tgt := 49) dX7_taken_34 (by decide) (fun z => absurd z (by decide)) (fun _ => ?_)
    refine V_blk C (pc' := 45) (σ' := σ) (L' := [some (.ref 0), some (.int d), some (.int 1)]) (st' := [.int d, .ref 4]) (g_c dX7_taken_37 (g_c dX7_taken_38 (g_c dX7_taken_41 (g_c dX7_taken_44 g_n)))) rfl rfl ?_
    refine V_iald C (k := 4) (n := 6) (by rfl) (by rfl) (g_vp h15 hd hd6 (by decide)) dX7_taken_45 ?_
    refine V_goto C (tgt := 51) dX7_taken_46 (by decide) ?_
    refine V_iret C dX7_taken_51 ?_
    exact ⟨by rw [if_pos h15], rfl⟩
  · skip
    refine V_blk C (pc' := 20) (σ' := σ) (L' := [some (.ref 0), some (.int d), some (.int 1)]) (st' := [.int (-11)]) (g_c dX7_taken_18 g_n) rfl rfl ?_
    refine V_iret C dX7_taken_20 ?_
    exact ⟨by rw [if_neg (fun z => h15 z)], rfl⟩
set_option maxHeartbeats 4000000 in
set_option maxRecDepth 100000 in
theorem c_X8_taken_5_1 (σ : gS) (d : Int32) {nd : Nat} (hd : σ 63 15 = nI nd) (hd6 : nd ≤ 6) (hx : σ 68 (ix d) = 5) : g_Met yX8_taken cX8_taken 4 (some .int) 4 kM [.ref 63, .int d, .int 1] σ (fun rv s => rv = some (.int (if g_in d 0 ((σ 63 15) - 1) then (σ 69 (ix d)) else (-11))) ∧ s = σ) := by
  refine g_Met.of (own := 8) (L := [some (.ref 63), some (.int d), some (.int 1), none]) (by decide) rfl rfl (fun ad => Nat.le_of_ble_eq_true rfl) (fun ad => rfl) (fun X G K C => ?_)
  refine V_blk C (pc' := 6) (σ' := σ) (L' := [some (.ref 63), some (.int d), some (.int 1), none]) (st' := [.long 5, .long 0, .long (Int32.toInt64 1)]) (g_c dX8_taken_0 (g_c dX8_taken_1 (g_c dX8_taken_2 (g_c dX8_taken_3 g_n)))) rfl rfl ?_
  refine V_callSI C cs_X8_110 (c_X8_in32 σ 1 0 5 (by decide) (by decide)) (by decide) (by decide) (fun _ h => h) (As := [.long (Int32.toInt64 1), .long 0, .long 5]) (rest := []) rfl rfl (Nat.le_of_ble_eq_true rfl) dX8_taken_6 ?_
  refine V_if_ne_b C (tgt := 15) dX8_taken_9 (by decide) (fun _ => ?_) (fun z => absurd (by decide) z)
  refine V_blk C (pc' := 17) (σ' := σ) (L' := [some (.ref 63), some (.int d), some (.int 1), none]) (st' := [.int d, .ref 63]) (g_c dX8_taken_15 (g_c dX8_taken_16 g_n)) rfl rfl ?_
  refine V_callVI C cv_X8_127 (c_X8_isDrip σ d) ⟨_, _, _, _, rfl, rfl⟩ (by rfl) (by decide) (by decide) (fun _ h => h) (As := [.int d]) (rest := []) rfl rfl (Nat.le_of_ble_eq_true rfl) dX8_taken_17 ?_
  refine V_if_ne_b C (tgt := 26) dX8_taken_20 (by decide) (fun h20 => ?_) (fun h20 => ?_)
  · skip
    refine V_blk C (pc' := 31) (σ' := σ) (L' := [some (.ref 63), some (.int d), some (.int 1), none]) (st' := [.int d, .ref 68]) (g_c dX8_taken_26 (g_c dX8_taken_27 (g_c dX8_taken_30 g_n))) rfl rfl ?_
    refine V_iald C (k := 68) (n := 6) (by rfl) (by rfl) (g_vp h20 hd hd6 (by decide)) dX8_taken_31 ?_
    rw [show σ 68 (Int32.toNatClampNeg d) = 5 from hx]
    refine V_blk C (pc' := 35) (σ' := σ) (L' := [some (.ref 63), some (.int d), some (.int 1), some (.int 5)]) (st' := [.int (-1), .int 5]) (g_c dX8_taken_32 (g_c dX8_taken_33 (g_c dX8_taken_34 g_n))) rfl rfl ?_
    refine V_icmp_eq C (tgt := 51) dX8_taken_35 (by decide) (fun z => absurd z (by decide)) (fun _ => ?_)
    refine V_blk C (pc' := 40) (σ' := σ) (L' := [some (.ref 63), some (.int d), some (.int 1), some (.int 5)]) (st' := [.int 1, .int 5]) (g_c dX8_taken_38 (g_c dX8_taken_39 g_n)) rfl rfl ?_
    refine V_icmp_eq C (tgt := 51) dX8_taken_40 (by decide) (fun z => absurd z (by decide)) (fun _ => ?_)
    refine V_blk C (pc' := 44) (σ' := σ) (L' := [some (.ref 63), some (.int d), some (.int 1), some (.int 5)]) (st' := [.int 5]) (g_c dX8_taken_43 g_n) rfl rfl ?_
    refine V_callSI C cs_X8_396 (c_X8_over_5 σ) (by decide) (by decide) (fun _ h => h) (As := [.int 5]) (rest := []) rfl rfl (Nat.le_of_ble_eq_true rfl) dX8_taken_44 ?_
    refine V_blk C (pc' := 48) (σ' := σ) (L' := [some (.ref 63), some (.int d), some (.int 1), some (.int 1)]) (st' := []) (g_c dX8_taken_47 g_n) rfl rfl ?_
    refine V_goto C (tgt := 33) dX8_taken_48 (by decide) ?_
    refine V_blk C (pc' := 35) (σ' := σ) (L' := [some (.ref 63), some (.int d), some (.int 1), some (.int 1)]) (st' := [.int (-1), .int 1]) (g_c dX8_taken_33 (g_c dX8_taken_34 g_n)) rfl rfl ?_
    refine V_icmp_eq C (tgt := 51) dX8_taken_35 (by decide) (fun z => absurd z (by decide)) (fun _ => ?_)
    refine V_blk C (pc' := 40) (σ' := σ) (L' := [some (.ref 63), some (.int d), some (.int 1), some (.int 1)]) (st' := [.int 1, .int 1]) (g_c dX8_taken_38 (g_c dX8_taken_39 g_n)) rfl rfl ?_
    refine V_icmp_eq C (tgt := 51) dX8_taken_40 (by decide) (fun _ => ?_) (fun z => absurd z (by decide))
    refine V_blk C (pc' := 53) (σ' := σ) (L' := [some (.ref 63), some (.int d), some (.int 1), some (.int 1)]) (st' := [.int 1, .int 1]) (g_c dX8_taken_51 (g_c dX8_taken_52 g_n)) rfl rfl ?_
    refine V_icmp_ne C (tgt := 65) dX8_taken_53 (by decide) (fun z => absurd z (by decide)) (fun _ => ?_)
    refine V_blk C (pc' := 61) (σ' := σ) (L' := [some (.ref 63), some (.int d), some (.int 1), some (.int 1)]) (st' := [.int d, .ref 69]) (g_c dX8_taken_56 (g_c dX8_taken_57 (g_c dX8_taken_60 g_n))) rfl rfl ?_
    refine V_iald C (k := 69) (n := 6) (by rfl) (by rfl) (g_vp h20 hd hd6 (by decide)) dX8_taken_61 ?_
    refine V_goto C (tgt := 67) dX8_taken_62 (by decide) ?_
    refine V_iret C dX8_taken_67 ?_
    exact ⟨by rw [if_pos h20], rfl⟩
  · skip
    refine V_blk C (pc' := 25) (σ' := σ) (L' := [some (.ref 63), some (.int d), some (.int 1), none]) (st' := [.int (-11)]) (g_c dX8_taken_23 g_n) rfl rfl ?_
    refine V_iret C dX8_taken_25 ?_
    exact ⟨by rw [if_neg (fun z => h20 z)], rfl⟩
set_option maxHeartbeats 4000000 in
set_option maxRecDepth 100000 in
theorem c_X7_taken_5_2 (σ : gS) (d : Int32) {nd : Nat} (hd : σ 1 8 = nI nd) (hd6 : nd ≤ 6) (hx : σ 3 (ix d) = 5) : g_Met yX7_taken cX7_taken 3 (some .int) 4 kX [.ref 0, .int d, .int 2] σ (fun rv s => rv = some (.int (if g_in d 0 ((σ 1 8) - 1) then (-13) else (-11))) ∧ s = σ) := by
  refine g_Met.of (own := 7) (L := [some (.ref 0), some (.int d), some (.int 2)]) (by decide) rfl rfl (fun ad => Nat.le_of_ble_eq_true rfl) (fun ad => rfl) (fun X G K C => ?_)
  refine V_blk C (pc' := 1) (σ' := σ) (L' := [some (.ref 0), some (.int d), some (.int 2)]) (st' := [.int 2]) (g_c dX7_taken_0 g_n) rfl rfl ?_
  refine V_callSI C cs_X7_116 (c_X7_isKind σ 2) (by decide) (by decide) (fun _ h => h) (As := [.int 2]) (rest := []) rfl rfl (Nat.le_of_ble_eq_true rfl) dX7_taken_1 ?_
  refine V_if_ne_b C (tgt := 10) dX7_taken_4 (by decide) (fun _ => ?_) (fun z => absurd (by decide) z)
  refine V_blk C (pc' := 12) (σ' := σ) (L' := [some (.ref 0), some (.int d), some (.int 2)]) (st' := [.int d, .ref 0]) (g_c dX7_taken_10 (g_c dX7_taken_11 g_n)) rfl rfl ?_
  refine V_callVI C cv_X7_101 (c_X7_isDrip σ d) ⟨_, _, _, _, rfl, rfl⟩ (by rfl) (by decide) (by decide) (fun _ h => h) (As := [.int d]) (rest := []) rfl rfl (Nat.le_of_ble_eq_true rfl) dX7_taken_12 ?_
  refine V_if_ne_b C (tgt := 21) dX7_taken_15 (by decide) (fun h15 => ?_) (fun h15 => ?_)
  · skip
    refine V_blk C (pc' := 29) (σ' := σ) (L' := [some (.ref 0), some (.int d), some (.int 2)]) (st' := [.int d, .ref 3]) (g_c dX7_taken_21 (g_c dX7_taken_22 (g_c dX7_taken_25 (g_c dX7_taken_28 g_n)))) rfl rfl ?_
    refine V_iald C (k := 3) (n := 6) (by rfl) (by rfl) (g_vp h15 hd hd6 (by decide)) dX7_taken_29 ?_
    rw [show σ 3 (Int32.toNatClampNeg d) = 5 from hx]
    refine V_blk C (pc' := 31) (σ' := σ) (L' := [some (.ref 0), some (.int d), some (.int 2)]) (st' := [.int 2, .int 5]) (g_c dX7_taken_30 g_n) rfl rfl ?_
    refine V_callSI C cs_X7_287 (c_X7_isUnder_5_2 σ) (by decide) (by decide) (fun _ h => h) (As := [.int 5, .int 2]) (rest := []) rfl rfl (Nat.le_of_ble_eq_true rfl) dX7_taken_31 ?_
    refine V_if_eq C (tgt := 49) dX7_taken_34 (by decide) (fun _ => ?_) (fun z => absurd z (by decide))
    refine V_blk C (pc' := 51) (σ' := σ) (L' := [some (.ref 0), some (.int d), some (.int 2)]) (st' := [.int (-13)]) (g_c dX7_taken_49 g_n) rfl rfl ?_
    refine V_iret C dX7_taken_51 ?_
    exact ⟨by rw [if_pos h15], rfl⟩
  · skip
    refine V_blk C (pc' := 20) (σ' := σ) (L' := [some (.ref 0), some (.int d), some (.int 2)]) (st' := [.int (-11)]) (g_c dX7_taken_18 g_n) rfl rfl ?_
    refine V_iret C dX7_taken_20 ?_
    exact ⟨by rw [if_neg (fun z => h15 z)], rfl⟩
set_option maxHeartbeats 4000000 in
set_option maxRecDepth 100000 in
theorem c_X8_taken_5_2 (σ : gS) (d : Int32) {nd : Nat} (hd : σ 63 15 = nI nd) (hd6 : nd ≤ 6) (hx : σ 68 (ix d) = 5) : g_Met yX8_taken cX8_taken 4 (some .int) 4 kM [.ref 63, .int d, .int 2] σ (fun rv s => rv = some (.int (if g_in d 0 ((σ 63 15) - 1) then (-13) else (-11))) ∧ s = σ) := by
  refine g_Met.of (own := 8) (L := [some (.ref 63), some (.int d), some (.int 2), none]) (by decide) rfl rfl (fun ad => Nat.le_of_ble_eq_true rfl) (fun ad => rfl) (fun X G K C => ?_)
  refine V_blk C (pc' := 6) (σ' := σ) (L' := [some (.ref 63), some (.int d), some (.int 2), none]) (st' := [.long 5, .long 0, .long (Int32.toInt64 2)]) (g_c dX8_taken_0 (g_c dX8_taken_1 (g_c dX8_taken_2 (g_c dX8_taken_3 g_n)))) rfl rfl ?_
  refine V_callSI C cs_X8_110 (c_X8_in32 σ 2 0 5 (by decide) (by decide)) (by decide) (by decide) (fun _ h => h) (As := [.long (Int32.toInt64 2), .long 0, .long 5]) (rest := []) rfl rfl (Nat.le_of_ble_eq_true rfl) dX8_taken_6 ?_
  refine V_if_ne_b C (tgt := 15) dX8_taken_9 (by decide) (fun _ => ?_) (fun z => absurd (by decide) z)
  refine V_blk C (pc' := 17) (σ' := σ) (L' := [some (.ref 63), some (.int d), some (.int 2), none]) (st' := [.int d, .ref 63]) (g_c dX8_taken_15 (g_c dX8_taken_16 g_n)) rfl rfl ?_
  refine V_callVI C cv_X8_127 (c_X8_isDrip σ d) ⟨_, _, _, _, rfl, rfl⟩ (by rfl) (by decide) (by decide) (fun _ h => h) (As := [.int d]) (rest := []) rfl rfl (Nat.le_of_ble_eq_true rfl) dX8_taken_17 ?_
  refine V_if_ne_b C (tgt := 26) dX8_taken_20 (by decide) (fun h20 => ?_) (fun h20 => ?_)
  · skip
    refine V_blk C (pc' := 31) (σ' := σ) (L' := [some (.ref 63), some (.int d), some (.int 2), none]) (st' := [.int d, .ref 68]) (g_c dX8_taken_26 (g_c dX8_taken_27 (g_c dX8_taken_30 g_n))) rfl rfl ?_
    refine V_iald C (k := 68) (n := 6) (by rfl) (by rfl) (g_vp h20 hd hd6 (by decide)) dX8_taken_31 ?_
    rw [show σ 68 (Int32.toNatClampNeg d) = 5 from hx]
    refine V_blk C (pc' := 35) (σ' := σ) (L' := [some (.ref 63), some (.int d), some (.int 2), some (.int 5)]) (st' := [.int (-1), .int 5]) (g_c dX8_taken_32 (g_c dX8_taken_33 (g_c dX8_taken_34 g_n))) rfl rfl ?_
    refine V_icmp_eq C (tgt := 51) dX8_taken_35 (by decide) (fun z => absurd z (by decide)) (fun _ => ?_)
    refine V_blk C (pc' := 40) (σ' := σ) (L' := [some (.ref 63), some (.int d), some (.int 2), some (.int 5)]) (st' := [.int 2, .int 5]) (g_c dX8_taken_38 (g_c dX8_taken_39 g_n)) rfl rfl ?_
    refine V_icmp_eq C (tgt := 51) dX8_taken_40 (by decide) (fun z => absurd z (by decide)) (fun _ => ?_)
    refine V_blk C (pc' := 44) (σ' := σ) (L' := [some (.ref 63), some (.int d), some (.int 2), some (.int 5)]) (st' := [.int 5]) (g_c dX8_taken_43 g_n) rfl rfl ?_
    refine V_callSI C cs_X8_396 (c_X8_over_5 σ) (by decide) (by decide) (fun _ h => h) (As := [.int 5]) (rest := []) rfl rfl (Nat.le_of_ble_eq_true rfl) dX8_taken_44 ?_
    refine V_blk C (pc' := 48) (σ' := σ) (L' := [some (.ref 63), some (.int d), some (.int 2), some (.int 1)]) (st' := []) (g_c dX8_taken_47 g_n) rfl rfl ?_
    refine V_goto C (tgt := 33) dX8_taken_48 (by decide) ?_
    refine V_blk C (pc' := 35) (σ' := σ) (L' := [some (.ref 63), some (.int d), some (.int 2), some (.int 1)]) (st' := [.int (-1), .int 1]) (g_c dX8_taken_33 (g_c dX8_taken_34 g_n)) rfl rfl ?_
    refine V_icmp_eq C (tgt := 51) dX8_taken_35 (by decide) (fun z => absurd z (by decide)) (fun _ => ?_)
    refine V_blk C (pc' := 40) (σ' := σ) (L' := [some (.ref 63), some (.int d), some (.int 2), some (.int 1)]) (st' := [.int 2, .int 1]) (g_c dX8_taken_38 (g_c dX8_taken_39 g_n)) rfl rfl ?_
    refine V_icmp_eq C (tgt := 51) dX8_taken_40 (by decide) (fun z => absurd z (by decide)) (fun _ => ?_)
    refine V_blk C (pc' := 44) (σ' := σ) (L' := [some (.ref 63), some (.int d), some (.int 2), some (.int 1)]) (st' := [.int 1]) (g_c dX8_taken_43 g_n) rfl rfl ?_
    refine V_callSI C cs_X8_396 (c_X8_over_1 σ) (by decide) (by decide) (fun _ h => h) (As := [.int 1]) (rest := []) rfl rfl (Nat.le_of_ble_eq_true rfl) dX8_taken_44 ?_
    refine V_blk C (pc' := 48) (σ' := σ) (L' := [some (.ref 63), some (.int d), some (.int 2), some (.int 0)]) (st' := []) (g_c dX8_taken_47 g_n) rfl rfl ?_
    refine V_goto C (tgt := 33) dX8_taken_48 (by decide) ?_
    refine V_blk C (pc' := 35) (σ' := σ) (L' := [some (.ref 63), some (.int d), some (.int 2), some (.int 0)]) (st' := [.int (-1), .int 0]) (g_c dX8_taken_33 (g_c dX8_taken_34 g_n)) rfl rfl ?_
    refine V_icmp_eq C (tgt := 51) dX8_taken_35 (by decide) (fun z => absurd z (by decide)) (fun _ => ?_)
    refine V_blk C (pc' := 40) (σ' := σ) (L' := [some (.ref 63), some (.int d), some (.int 2), some (.int 0)]) (st' := [.int 2, .int 0]) (g_c dX8_taken_38 (g_c dX8_taken_39 g_n)) rfl rfl ?_
    refine V_icmp_eq C (tgt := 51) dX8_taken_40 (by decide) (fun z => absurd z (by decide)) (fun _ => ?_)
    refine V_blk C (pc' := 44) (σ' := σ) (L' := [some (.ref 63), some (.int d), some (.int 2), some (.int 0)]) (st' := [.int 0]) (g_c dX8_taken_43 g_n) rfl rfl ?_
    refine V_callSI C cs_X8_396 (c_X8_over_0 σ) (by decide) (by decide) (fun _ h => h) (As := [.int 0]) (rest := []) rfl rfl (Nat.le_of_ble_eq_true rfl) dX8_taken_44 ?_
    refine V_blk C (pc' := 48) (σ' := σ) (L' := [some (.ref 63), some (.int d), some (.int 2), some (.int (-1))]) (st' := []) (g_c dX8_taken_47 g_n) rfl rfl ?_
    refine V_goto C (tgt := 33) dX8_taken_48 (by decide) ?_
    refine V_blk C (pc' := 35) (σ' := σ) (L' := [some (.ref 63), some (.int d), some (.int 2), some (.int (-1))]) (st' := [.int (-1), .int (-1)]) (g_c dX8_taken_33 (g_c dX8_taken_34 g_n)) rfl rfl ?_
    refine V_icmp_eq C (tgt := 51) dX8_taken_35 (by decide) (fun _ => ?_) (fun z => absurd z (by decide))
    refine V_blk C (pc' := 53) (σ' := σ) (L' := [some (.ref 63), some (.int d), some (.int 2), some (.int (-1))]) (st' := [.int 2, .int (-1)]) (g_c dX8_taken_51 (g_c dX8_taken_52 g_n)) rfl rfl ?_
    refine V_icmp_ne C (tgt := 65) dX8_taken_53 (by decide) (fun _ => ?_) (fun z => absurd z (by decide))
    refine V_blk C (pc' := 67) (σ' := σ) (L' := [some (.ref 63), some (.int d), some (.int 2), some (.int (-1))]) (st' := [.int (-13)]) (g_c dX8_taken_65 g_n) rfl rfl ?_
    refine V_iret C dX8_taken_67 ?_
    exact ⟨by rw [if_pos h20], rfl⟩
  · skip
    refine V_blk C (pc' := 25) (σ' := σ) (L' := [some (.ref 63), some (.int d), some (.int 2), none]) (st' := [.int (-11)]) (g_c dX8_taken_23 g_n) rfl rfl ?_
    refine V_iret C dX8_taken_25 ?_
    exact ⟨by rw [if_neg (fun z => h20 z)], rfl⟩
set_option maxHeartbeats 4000000 in
set_option maxRecDepth 100000 in
theorem c_X7_taken_5_3 (σ : gS) (d : Int32) {nd : Nat} (hd : σ 1 8 = nI nd) (hd6 : nd ≤ 6) (hx : σ 3 (ix d) = 5) : g_Met yX7_taken cX7_taken 3 (some .int) 4 kX [.ref 0, .int d, .int 3] σ (fun rv s => rv = some (.int (if g_in d 0 ((σ 1 8) - 1) then (-13) else (-11))) ∧ s = σ) := by
  refine g_Met.of (own := 7) (L := [some (.ref 0), some (.int d), some (.int 3)]) (by decide) rfl rfl (fun ad => Nat.le_of_ble_eq_true rfl) (fun ad => rfl) (fun X G K C => ?_)
  refine V_blk C (pc' := 1) (σ' := σ) (L' := [some (.ref 0), some (.int d), some (.int 3)]) (st' := [.int 3]) (g_c dX7_taken_0 g_n) rfl rfl ?_
  refine V_callSI C cs_X7_116 (c_X7_isKind σ 3) (by decide) (by decide) (fun _ h => h) (As := [.int 3]) (rest := []) rfl rfl (Nat.le_of_ble_eq_true rfl) dX7_taken_1 ?_
  refine V_if_ne_b C (tgt := 10) dX7_taken_4 (by decide) (fun _ => ?_) (fun z => absurd (by decide) z)
  refine V_blk C (pc' := 12) (σ' := σ) (L' := [some (.ref 0), some (.int d), some (.int 3)]) (st' := [.int d, .ref 0]) (g_c dX7_taken_10 (g_c dX7_taken_11 g_n)) rfl rfl ?_
  refine V_callVI C cv_X7_101 (c_X7_isDrip σ d) ⟨_, _, _, _, rfl, rfl⟩ (by rfl) (by decide) (by decide) (fun _ h => h) (As := [.int d]) (rest := []) rfl rfl (Nat.le_of_ble_eq_true rfl) dX7_taken_12 ?_
  refine V_if_ne_b C (tgt := 21) dX7_taken_15 (by decide) (fun h15 => ?_) (fun h15 => ?_)
  · skip
    refine V_blk C (pc' := 29) (σ' := σ) (L' := [some (.ref 0), some (.int d), some (.int 3)]) (st' := [.int d, .ref 3]) (g_c dX7_taken_21 (g_c dX7_taken_22 (g_c dX7_taken_25 (g_c dX7_taken_28 g_n)))) rfl rfl ?_
    refine V_iald C (k := 3) (n := 6) (by rfl) (by rfl) (g_vp h15 hd hd6 (by decide)) dX7_taken_29 ?_
    rw [show σ 3 (Int32.toNatClampNeg d) = 5 from hx]
    refine V_blk C (pc' := 31) (σ' := σ) (L' := [some (.ref 0), some (.int d), some (.int 3)]) (st' := [.int 3, .int 5]) (g_c dX7_taken_30 g_n) rfl rfl ?_
    refine V_callSI C cs_X7_287 (c_X7_isUnder_5_3 σ) (by decide) (by decide) (fun _ h => h) (As := [.int 5, .int 3]) (rest := []) rfl rfl (Nat.le_of_ble_eq_true rfl) dX7_taken_31 ?_
    refine V_if_eq C (tgt := 49) dX7_taken_34 (by decide) (fun _ => ?_) (fun z => absurd z (by decide))
    refine V_blk C (pc' := 51) (σ' := σ) (L' := [some (.ref 0), some (.int d), some (.int 3)]) (st' := [.int (-13)]) (g_c dX7_taken_49 g_n) rfl rfl ?_
    refine V_iret C dX7_taken_51 ?_
    exact ⟨by rw [if_pos h15], rfl⟩
  · skip
    refine V_blk C (pc' := 20) (σ' := σ) (L' := [some (.ref 0), some (.int d), some (.int 3)]) (st' := [.int (-11)]) (g_c dX7_taken_18 g_n) rfl rfl ?_
    refine V_iret C dX7_taken_20 ?_
    exact ⟨by rw [if_neg (fun z => h15 z)], rfl⟩
set_option maxHeartbeats 4000000 in
set_option maxRecDepth 100000 in
theorem c_X8_taken_5_3 (σ : gS) (d : Int32) {nd : Nat} (hd : σ 63 15 = nI nd) (hd6 : nd ≤ 6) (hx : σ 68 (ix d) = 5) : g_Met yX8_taken cX8_taken 4 (some .int) 4 kM [.ref 63, .int d, .int 3] σ (fun rv s => rv = some (.int (if g_in d 0 ((σ 63 15) - 1) then (-13) else (-11))) ∧ s = σ) := by
  refine g_Met.of (own := 8) (L := [some (.ref 63), some (.int d), some (.int 3), none]) (by decide) rfl rfl (fun ad => Nat.le_of_ble_eq_true rfl) (fun ad => rfl) (fun X G K C => ?_)
  refine V_blk C (pc' := 6) (σ' := σ) (L' := [some (.ref 63), some (.int d), some (.int 3), none]) (st' := [.long 5, .long 0, .long (Int32.toInt64 3)]) (g_c dX8_taken_0 (g_c dX8_taken_1 (g_c dX8_taken_2 (g_c dX8_taken_3 g_n)))) rfl rfl ?_
  refine V_callSI C cs_X8_110 (c_X8_in32 σ 3 0 5 (by decide) (by decide)) (by decide) (by decide) (fun _ h => h) (As := [.long (Int32.toInt64 3), .long 0, .long 5]) (rest := []) rfl rfl (Nat.le_of_ble_eq_true rfl) dX8_taken_6 ?_
  refine V_if_ne_b C (tgt := 15) dX8_taken_9 (by decide) (fun _ => ?_) (fun z => absurd (by decide) z)
  refine V_blk C (pc' := 17) (σ' := σ) (L' := [some (.ref 63), some (.int d), some (.int 3), none]) (st' := [.int d, .ref 63]) (g_c dX8_taken_15 (g_c dX8_taken_16 g_n)) rfl rfl ?_
  refine V_callVI C cv_X8_127 (c_X8_isDrip σ d) ⟨_, _, _, _, rfl, rfl⟩ (by rfl) (by decide) (by decide) (fun _ h => h) (As := [.int d]) (rest := []) rfl rfl (Nat.le_of_ble_eq_true rfl) dX8_taken_17 ?_
  refine V_if_ne_b C (tgt := 26) dX8_taken_20 (by decide) (fun h20 => ?_) (fun h20 => ?_)
  · skip
    refine V_blk C (pc' := 31) (σ' := σ) (L' := [some (.ref 63), some (.int d), some (.int 3), none]) (st' := [.int d, .ref 68]) (g_c dX8_taken_26 (g_c dX8_taken_27 (g_c dX8_taken_30 g_n))) rfl rfl ?_
    refine V_iald C (k := 68) (n := 6) (by rfl) (by rfl) (g_vp h20 hd hd6 (by decide)) dX8_taken_31 ?_
    rw [show σ 68 (Int32.toNatClampNeg d) = 5 from hx]
    refine V_blk C (pc' := 35) (σ' := σ) (L' := [some (.ref 63), some (.int d), some (.int 3), some (.int 5)]) (st' := [.int (-1), .int 5]) (g_c dX8_taken_32 (g_c dX8_taken_33 (g_c dX8_taken_34 g_n))) rfl rfl ?_
    refine V_icmp_eq C (tgt := 51) dX8_taken_35 (by decide) (fun z => absurd z (by decide)) (fun _ => ?_)
    refine V_blk C (pc' := 40) (σ' := σ) (L' := [some (.ref 63), some (.int d), some (.int 3), some (.int 5)]) (st' := [.int 3, .int 5]) (g_c dX8_taken_38 (g_c dX8_taken_39 g_n)) rfl rfl ?_
    refine V_icmp_eq C (tgt := 51) dX8_taken_40 (by decide) (fun z => absurd z (by decide)) (fun _ => ?_)
    refine V_blk C (pc' := 44) (σ' := σ) (L' := [some (.ref 63), some (.int d), some (.int 3), some (.int 5)]) (st' := [.int 5]) (g_c dX8_taken_43 g_n) rfl rfl ?_
    refine V_callSI C cs_X8_396 (c_X8_over_5 σ) (by decide) (by decide) (fun _ h => h) (As := [.int 5]) (rest := []) rfl rfl (Nat.le_of_ble_eq_true rfl) dX8_taken_44 ?_
    refine V_blk C (pc' := 48) (σ' := σ) (L' := [some (.ref 63), some (.int d), some (.int 3), some (.int 1)]) (st' := []) (g_c dX8_taken_47 g_n) rfl rfl ?_
    refine V_goto C (tgt := 33) dX8_taken_48 (by decide) ?_
    refine V_blk C (pc' := 35) (σ' := σ) (L' := [some (.ref 63), some (.int d), some (.int 3), some (.int 1)]) (st' := [.int (-1), .int 1]) (g_c dX8_taken_33 (g_c dX8_taken_34 g_n)) rfl rfl ?_
    refine V_icmp_eq C (tgt := 51) dX8_taken_35 (by decide) (fun z => absurd z (by decide)) (fun _ => ?_)
    refine V_blk C (pc' := 40) (σ' := σ) (L' := [some (.ref 63), some (.int d), some (.int 3), some (.int 1)]) (st' := [.int 3, .int 1]) (g_c dX8_taken_38 (g_c dX8_taken_39 g_n)) rfl rfl ?_
    refine V_icmp_eq C (tgt := 51) dX8_taken_40 (by decide) (fun z => absurd z (by decide)) (fun _ => ?_)
    refine V_blk C (pc' := 44) (σ' := σ) (L' := [some (.ref 63), some (.int d), some (.int 3), some (.int 1)]) (st' := [.int 1]) (g_c dX8_taken_43 g_n) rfl rfl ?_
    refine V_callSI C cs_X8_396 (c_X8_over_1 σ) (by decide) (by decide) (fun _ h => h) (As := [.int 1]) (rest := []) rfl rfl (Nat.le_of_ble_eq_true rfl) dX8_taken_44 ?_
    refine V_blk C (pc' := 48) (σ' := σ) (L' := [some (.ref 63), some (.int d), some (.int 3), some (.int 0)]) (st' := []) (g_c dX8_taken_47 g_n) rfl rfl ?_
    refine V_goto C (tgt := 33) dX8_taken_48 (by decide) ?_
    refine V_blk C (pc' := 35) (σ' := σ) (L' := [some (.ref 63), some (.int d), some (.int 3), some (.int 0)]) (st' := [.int (-1), .int 0]) (g_c dX8_taken_33 (g_c dX8_taken_34 g_n)) rfl rfl ?_
    refine V_icmp_eq C (tgt := 51) dX8_taken_35 (by decide) (fun z => absurd z (by decide)) (fun _ => ?_)
    refine V_blk C (pc' := 40) (σ' := σ) (L' := [some (.ref 63), some (.int d), some (.int 3), some (.int 0)]) (st' := [.int 3, .int 0]) (g_c dX8_taken_38 (g_c dX8_taken_39 g_n)) rfl rfl ?_
    refine V_icmp_eq C (tgt := 51) dX8_taken_40 (by decide) (fun z => absurd z (by decide)) (fun _ => ?_)
    refine V_blk C (pc' := 44) (σ' := σ) (L' := [some (.ref 63), some (.int d), some (.int 3), some (.int 0)]) (st' := [.int 0]) (g_c dX8_taken_43 g_n) rfl rfl ?_
    refine V_callSI C cs_X8_396 (c_X8_over_0 σ) (by decide) (by decide) (fun _ h => h) (As := [.int 0]) (rest := []) rfl rfl (Nat.le_of_ble_eq_true rfl) dX8_taken_44 ?_
    refine V_blk C (pc' := 48) (σ' := σ) (L' := [some (.ref 63), some (.int d), some (.int 3), some (.int (-1))]) (st' := []) (g_c dX8_taken_47 g_n) rfl rfl ?_
    refine V_goto C (tgt := 33) dX8_taken_48 (by decide) ?_
    refine V_blk C (pc' := 35) (σ' := σ) (L' := [some (.ref 63), some (.int d), some (.int 3), some (.int (-1))]) (st' := [.int (-1), .int (-1)]) (g_c dX8_taken_33 (g_c dX8_taken_34 g_n)) rfl rfl ?_
    refine V_icmp_eq C (tgt := 51) dX8_taken_35 (by decide) (fun _ => ?_) (fun z => absurd z (by decide))
    refine V_blk C (pc' := 53) (σ' := σ) (L' := [some (.ref 63), some (.int d), some (.int 3), some (.int (-1))]) (st' := [.int 3, .int (-1)]) (g_c dX8_taken_51 (g_c dX8_taken_52 g_n)) rfl rfl ?_
    refine V_icmp_ne C (tgt := 65) dX8_taken_53 (by decide) (fun _ => ?_) (fun z => absurd z (by decide))
    refine V_blk C (pc' := 67) (σ' := σ) (L' := [some (.ref 63), some (.int d), some (.int 3), some (.int (-1))]) (st' := [.int (-13)]) (g_c dX8_taken_65 g_n) rfl rfl ?_
    refine V_iret C dX8_taken_67 ?_
    exact ⟨by rw [if_pos h20], rfl⟩
  · skip
    refine V_blk C (pc' := 25) (σ' := σ) (L' := [some (.ref 63), some (.int d), some (.int 3), none]) (st' := [.int (-11)]) (g_c dX8_taken_23 g_n) rfl rfl ?_
    refine V_iret C dX8_taken_25 ?_
    exact ⟨by rw [if_neg (fun z => h20 z)], rfl⟩
set_option maxHeartbeats 4000000 in
set_option maxRecDepth 100000 in
theorem c_X7_taken_5_4 (σ : gS) (d : Int32) {nd : Nat} (hd : σ 1 8 = nI nd) (hd6 : nd ≤ 6) (hx : σ 3 (ix d) = 5) : g_Met yX7_taken cX7_taken 3 (some .int) 4 kX [.ref 0, .int d, .int 4] σ (fun rv s => rv = some (.int (if g_in d 0 ((σ 1 8) - 1) then (-13) else (-11))) ∧ s = σ) := by
  refine g_Met.of (own := 7) (L := [some (.ref 0), some (.int d), some (.int 4)]) (by decide) rfl rfl (fun ad => Nat.le_of_ble_eq_true rfl) (fun ad => rfl) (fun X G K C => ?_)
  refine V_blk C (pc' := 1) (σ' := σ) (L' := [some (.ref 0), some (.int d), some (.int 4)]) (st' := [.int 4]) (g_c dX7_taken_0 g_n) rfl rfl ?_
  refine V_callSI C cs_X7_116 (c_X7_isKind σ 4) (by decide) (by decide) (fun _ h => h) (As := [.int 4]) (rest := []) rfl rfl (Nat.le_of_ble_eq_true rfl) dX7_taken_1 ?_
  refine V_if_ne_b C (tgt := 10) dX7_taken_4 (by decide) (fun _ => ?_) (fun z => absurd (by decide) z)
  refine V_blk C (pc' := 12) (σ' := σ) (L' := [some (.ref 0), some (.int d), some (.int 4)]) (st' := [.int d, .ref 0]) (g_c dX7_taken_10 (g_c dX7_taken_11 g_n)) rfl rfl ?_
  refine V_callVI C cv_X7_101 (c_X7_isDrip σ d) ⟨_, _, _, _, rfl, rfl⟩ (by rfl) (by decide) (by decide) (fun _ h => h) (As := [.int d]) (rest := []) rfl rfl (Nat.le_of_ble_eq_true rfl) dX7_taken_12 ?_
  refine V_if_ne_b C (tgt := 21) dX7_taken_15 (by decide) (fun h15 => ?_) (fun h15 => ?_)
  · skip
    refine V_blk C (pc' := 29) (σ' := σ) (L' := [some (.ref 0), some (.int d), some (.int 4)]) (st' := [.int d, .ref 3]) (g_c dX7_taken_21 (g_c dX7_taken_22 (g_c dX7_taken_25 (g_c dX7_taken_28 g_n)))) rfl rfl ?_
    refine V_iald C (k := 3) (n := 6) (by rfl) (by rfl) (g_vp h15 hd hd6 (by decide)) dX7_taken_29 ?_
    rw [show σ 3 (Int32.toNatClampNeg d) = 5 from hx]
    refine V_blk C (pc' := 31) (σ' := σ) (L' := [some (.ref 0), some (.int d), some (.int 4)]) (st' := [.int 4, .int 5]) (g_c dX7_taken_30 g_n) rfl rfl ?_
    refine V_callSI C cs_X7_287 (c_X7_isUnder_5_4 σ) (by decide) (by decide) (fun _ h => h) (As := [.int 5, .int 4]) (rest := []) rfl rfl (Nat.le_of_ble_eq_true rfl) dX7_taken_31 ?_
    refine V_if_eq C (tgt := 49) dX7_taken_34 (by decide) (fun _ => ?_) (fun z => absurd z (by decide))
    refine V_blk C (pc' := 51) (σ' := σ) (L' := [some (.ref 0), some (.int d), some (.int 4)]) (st' := [.int (-13)]) (g_c dX7_taken_49 g_n) rfl rfl ?_
    refine V_iret C dX7_taken_51 ?_
    exact ⟨by rw [if_pos h15], rfl⟩
  · skip
    refine V_blk C (pc' := 20) (σ' := σ) (L' := [some (.ref 0), some (.int d), some (.int 4)]) (st' := [.int (-11)]) (g_c dX7_taken_18 g_n) rfl rfl ?_
    refine V_iret C dX7_taken_20 ?_
    exact ⟨by rw [if_neg (fun z => h15 z)], rfl⟩
set_option maxHeartbeats 4000000 in
set_option maxRecDepth 100000 in
theorem c_X8_taken_5_4 (σ : gS) (d : Int32) {nd : Nat} (hd : σ 63 15 = nI nd) (hd6 : nd ≤ 6) (hx : σ 68 (ix d) = 5) : g_Met yX8_taken cX8_taken 4 (some .int) 4 kM [.ref 63, .int d, .int 4] σ (fun rv s => rv = some (.int (if g_in d 0 ((σ 63 15) - 1) then (-13) else (-11))) ∧ s = σ) := by
  refine g_Met.of (own := 8) (L := [some (.ref 63), some (.int d), some (.int 4), none]) (by decide) rfl rfl (fun ad => Nat.le_of_ble_eq_true rfl) (fun ad => rfl) (fun X G K C => ?_)
  refine V_blk C (pc' := 6) (σ' := σ) (L' := [some (.ref 63), some (.int d), some (.int 4), none]) (st' := [.long 5, .long 0, .long (Int32.toInt64 4)]) (g_c dX8_taken_0 (g_c dX8_taken_1 (g_c dX8_taken_2 (g_c dX8_taken_3 g_n)))) rfl rfl ?_
  refine V_callSI C cs_X8_110 (c_X8_in32 σ 4 0 5 (by decide) (by decide)) (by decide) (by decide) (fun _ h => h) (As := [.long (Int32.toInt64 4), .long 0, .long 5]) (rest := []) rfl rfl (Nat.le_of_ble_eq_true rfl) dX8_taken_6 ?_
  refine V_if_ne_b C (tgt := 15) dX8_taken_9 (by decide) (fun _ => ?_) (fun z => absurd (by decide) z)
  refine V_blk C (pc' := 17) (σ' := σ) (L' := [some (.ref 63), some (.int d), some (.int 4), none]) (st' := [.int d, .ref 63]) (g_c dX8_taken_15 (g_c dX8_taken_16 g_n)) rfl rfl ?_
  refine V_callVI C cv_X8_127 (c_X8_isDrip σ d) ⟨_, _, _, _, rfl, rfl⟩ (by rfl) (by decide) (by decide) (fun _ h => h) (As := [.int d]) (rest := []) rfl rfl (Nat.le_of_ble_eq_true rfl) dX8_taken_17 ?_
  refine V_if_ne_b C (tgt := 26) dX8_taken_20 (by decide) (fun h20 => ?_) (fun h20 => ?_)
  · skip
    refine V_blk C (pc' := 31) (σ' := σ) (L' := [some (.ref 63), some (.int d), some (.int 4), none]) (st' := [.int d, .ref 68]) (g_c dX8_taken_26 (g_c dX8_taken_27 (g_c dX8_taken_30 g_n))) rfl rfl ?_
    refine V_iald C (k := 68) (n := 6) (by rfl) (by rfl) (g_vp h20 hd hd6 (by decide)) dX8_taken_31 ?_
    rw [show σ 68 (Int32.toNatClampNeg d) = 5 from hx]
    refine V_blk C (pc' := 35) (σ' := σ) (L' := [some (.ref 63), some (.int d), some (.int 4), some (.int 5)]) (st' := [.int (-1), .int 5]) (g_c dX8_taken_32 (g_c dX8_taken_33 (g_c dX8_taken_34 g_n))) rfl rfl ?_
    refine V_icmp_eq C (tgt := 51) dX8_taken_35 (by decide) (fun z => absurd z (by decide)) (fun _ => ?_)
    refine V_blk C (pc' := 40) (σ' := σ) (L' := [some (.ref 63), some (.int d), some (.int 4), some (.int 5)]) (st' := [.int 4, .int 5]) (g_c dX8_taken_38 (g_c dX8_taken_39 g_n)) rfl rfl ?_
    refine V_icmp_eq C (tgt := 51) dX8_taken_40 (by decide) (fun z => absurd z (by decide)) (fun _ => ?_)
    refine V_blk C (pc' := 44) (σ' := σ) (L' := [some (.ref 63), some (.int d), some (.int 4), some (.int 5)]) (st' := [.int 5]) (g_c dX8_taken_43 g_n) rfl rfl ?_
    refine V_callSI C cs_X8_396 (c_X8_over_5 σ) (by decide) (by decide) (fun _ h => h) (As := [.int 5]) (rest := []) rfl rfl (Nat.le_of_ble_eq_true rfl) dX8_taken_44 ?_
    refine V_blk C (pc' := 48) (σ' := σ) (L' := [some (.ref 63), some (.int d), some (.int 4), some (.int 1)]) (st' := []) (g_c dX8_taken_47 g_n) rfl rfl ?_
    refine V_goto C (tgt := 33) dX8_taken_48 (by decide) ?_
    refine V_blk C (pc' := 35) (σ' := σ) (L' := [some (.ref 63), some (.int d), some (.int 4), some (.int 1)]) (st' := [.int (-1), .int 1]) (g_c dX8_taken_33 (g_c dX8_taken_34 g_n)) rfl rfl ?_
    refine V_icmp_eq C (tgt := 51) dX8_taken_35 (by decide) (fun z => absurd z (by decide)) (fun _ => ?_)
    refine V_blk C (pc' := 40) (σ' := σ) (L' := [some (.ref 63), some (.int d), some (.int 4), some (.int 1)]) (st' := [.int 4, .int 1]) (g_c dX8_taken_38 (g_c dX8_taken_39 g_n)) rfl rfl ?_
    refine V_icmp_eq C (tgt := 51) dX8_taken_40 (by decide) (fun z => absurd z (by decide)) (fun _ => ?_)
    refine V_blk C (pc' := 44) (σ' := σ) (L' := [some (.ref 63), some (.int d), some (.int 4), some (.int 1)]) (st' := [.int 1]) (g_c dX8_taken_43 g_n) rfl rfl ?_
    refine V_callSI C cs_X8_396 (c_X8_over_1 σ) (by decide) (by decide) (fun _ h => h) (As := [.int 1]) (rest := []) rfl rfl (Nat.le_of_ble_eq_true rfl) dX8_taken_44 ?_
    refine V_blk C (pc' := 48) (σ' := σ) (L' := [some (.ref 63), some (.int d), some (.int 4), some (.int 0)]) (st' := []) (g_c dX8_taken_47 g_n) rfl rfl ?_
    refine V_goto C (tgt := 33) dX8_taken_48 (by decide) ?_
    refine V_blk C (pc' := 35) (σ' := σ) (L' := [some (.ref 63), some (.int d), some (.int 4), some (.int 0)]) (st' := [.int (-1), .int 0]) (g_c dX8_taken_33 (g_c dX8_taken_34 g_n)) rfl rfl ?_
    refine V_icmp_eq C (tgt := 51) dX8_taken_35 (by decide) (fun z => absurd z (by decide)) (fun _ => ?_)
    refine V_blk C (pc' := 40) (σ' := σ) (L' := [some (.ref 63), some (.int d), some (.int 4), some (.int 0)]) (st' := [.int 4, .int 0]) (g_c dX8_taken_38 (g_c dX8_taken_39 g_n)) rfl rfl ?_
    refine V_icmp_eq C (tgt := 51) dX8_taken_40 (by decide) (fun z => absurd z (by decide)) (fun _ => ?_)
    refine V_blk C (pc' := 44) (σ' := σ) (L' := [some (.ref 63), some (.int d), some (.int 4), some (.int 0)]) (st' := [.int 0]) (g_c dX8_taken_43 g_n) rfl rfl ?_
    refine V_callSI C cs_X8_396 (c_X8_over_0 σ) (by decide) (by decide) (fun _ h => h) (As := [.int 0]) (rest := []) rfl rfl (Nat.le_of_ble_eq_true rfl) dX8_taken_44 ?_
    refine V_blk C (pc' := 48) (σ' := σ) (L' := [some (.ref 63), some (.int d), some (.int 4), some (.int (-1))]) (st' := []) (g_c dX8_taken_47 g_n) rfl rfl ?_
    refine V_goto C (tgt := 33) dX8_taken_48 (by decide) ?_
    refine V_blk C (pc' := 35) (σ' := σ) (L' := [some (.ref 63), some (.int d), some (.int 4), some (.int (-1))]) (st' := [.int (-1), .int (-1)]) (g_c dX8_taken_33 (g_c dX8_taken_34 g_n)) rfl rfl ?_
    refine V_icmp_eq C (tgt := 51) dX8_taken_35 (by decide) (fun _ => ?_) (fun z => absurd z (by decide))
    refine V_blk C (pc' := 53) (σ' := σ) (L' := [some (.ref 63), some (.int d), some (.int 4), some (.int (-1))]) (st' := [.int 4, .int (-1)]) (g_c dX8_taken_51 (g_c dX8_taken_52 g_n)) rfl rfl ?_
    refine V_icmp_ne C (tgt := 65) dX8_taken_53 (by decide) (fun _ => ?_) (fun z => absurd z (by decide))
    refine V_blk C (pc' := 67) (σ' := σ) (L' := [some (.ref 63), some (.int d), some (.int 4), some (.int (-1))]) (st' := [.int (-13)]) (g_c dX8_taken_65 g_n) rfl rfl ?_
    refine V_iret C dX8_taken_67 ?_
    exact ⟨by rw [if_pos h20], rfl⟩
  · skip
    refine V_blk C (pc' := 25) (σ' := σ) (L' := [some (.ref 63), some (.int d), some (.int 4), none]) (st' := [.int (-11)]) (g_c dX8_taken_23 g_n) rfl rfl ?_
    refine V_iret C dX8_taken_25 ?_
    exact ⟨by rw [if_neg (fun z => h20 z)], rfl⟩
set_option maxHeartbeats 4000000 in
set_option maxRecDepth 100000 in
theorem c_X7_taken_5_5 (σ : gS) (d : Int32) {nd : Nat} (hd : σ 1 8 = nI nd) (hd6 : nd ≤ 6) (hx : σ 3 (ix d) = 5) : g_Met yX7_taken cX7_taken 3 (some .int) 4 kX [.ref 0, .int d, .int 5] σ (fun rv s => rv = some (.int (if g_in d 0 ((σ 1 8) - 1) then (σ 4 (ix d)) else (-11))) ∧ s = σ) := by
  refine g_Met.of (own := 7) (L := [some (.ref 0), some (.int d), some (.int 5)]) (by decide) rfl rfl (fun ad => Nat.le_of_ble_eq_true rfl) (fun ad => rfl) (fun X G K C => ?_)
  refine V_blk C (pc' := 1) (σ' := σ) (L' := [some (.ref 0), some (.int d), some (.int 5)]) (st' := [.int 5]) (g_c dX7_taken_0 g_n) rfl rfl ?_
  refine V_callSI C cs_X7_116 (c_X7_isKind σ 5) (by decide) (by decide) (fun _ h => h) (As := [.int 5]) (rest := []) rfl rfl (Nat.le_of_ble_eq_true rfl) dX7_taken_1 ?_
  refine V_if_ne_b C (tgt := 10) dX7_taken_4 (by decide) (fun _ => ?_) (fun z => absurd (by decide) z)
  refine V_blk C (pc' := 12) (σ' := σ) (L' := [some (.ref 0), some (.int d), some (.int 5)]) (st' := [.int d, .ref 0]) (g_c dX7_taken_10 (g_c dX7_taken_11 g_n)) rfl rfl ?_
  refine V_callVI C cv_X7_101 (c_X7_isDrip σ d) ⟨_, _, _, _, rfl, rfl⟩ (by rfl) (by decide) (by decide) (fun _ h => h) (As := [.int d]) (rest := []) rfl rfl (Nat.le_of_ble_eq_true rfl) dX7_taken_12 ?_
  refine V_if_ne_b C (tgt := 21) dX7_taken_15 (by decide) (fun h15 => ?_) (fun h15 => ?_)
  · skip
    refine V_blk C (pc' := 29) (σ' := σ) (L' := [some (.ref 0), some (.int d), some (.int 5)]) (st' := [.int d, .ref 3]) (g_c dX7_taken_21 (g_c dX7_taken_22 (g_c dX7_taken_25 (g_c dX7_taken_28 g_n)))) rfl rfl ?_
    refine V_iald C (k := 3) (n := 6) (by rfl) (by rfl) (g_vp h15 hd hd6 (by decide)) dX7_taken_29 ?_
    rw [show σ 3 (Int32.toNatClampNeg d) = 5 from hx]
    refine V_blk C (pc' := 31) (σ' := σ) (L' := [some (.ref 0), some (.int d), some (.int 5)]) (st' := [.int 5, .int 5]) (g_c dX7_taken_30 g_n) rfl rfl ?_
    refine V_callSI C cs_X7_287 (c_X7_isUnder_5_5 σ) (by decide) (by decide) (fun _ h => h) (As := [.int 5, .int 5]) (rest := []) rfl rfl (Nat.le_of_ble_eq_true rfl) dX7_taken_31 ?_
    refine V_if_eq C (tgt := 49) dX7_taken_34 (by decide) (fun z => absurd z (by decide)) (fun _ => ?_)
    refine V_blk C (pc' := 45) (σ' := σ) (L' := [some (.ref 0), some (.int d), some (.int 5)]) (st' := [.int d, .ref 4]) (g_c dX7_taken_37 (g_c dX7_taken_38 (g_c dX7_taken_41 (g_c dX7_taken_44 g_n)))) rfl rfl ?_
    refine V_iald C (k := 4) (n := 6) (by rfl) (by rfl) (g_vp h15 hd hd6 (by decide)) dX7_taken_45 ?_
    refine V_goto C (tgt := 51) dX7_taken_46 (by decide) ?_
    refine V_iret C dX7_taken_51 ?_
    exact ⟨by rw [if_pos h15], rfl⟩
  · skip
    refine V_blk C (pc' := 20) (σ' := σ) (L' := [some (.ref 0), some (.int d), some (.int 5)]) (st' := [.int (-11)]) (g_c dX7_taken_18 g_n) rfl rfl ?_
    refine V_iret C dX7_taken_20 ?_
    exact ⟨by rw [if_neg (fun z => h15 z)], rfl⟩
set_option maxHeartbeats 4000000 in
set_option maxRecDepth 100000 in
theorem c_X8_taken_5_5 (σ : gS) (d : Int32) {nd : Nat} (hd : σ 63 15 = nI nd) (hd6 : nd ≤ 6) (hx : σ 68 (ix d) = 5) : g_Met yX8_taken cX8_taken 4 (some .int) 4 kM [.ref 63, .int d, .int 5] σ (fun rv s => rv = some (.int (if g_in d 0 ((σ 63 15) - 1) then (σ 69 (ix d)) else (-11))) ∧ s = σ) := by
  refine g_Met.of (own := 8) (L := [some (.ref 63), some (.int d), some (.int 5), none]) (by decide) rfl rfl (fun ad => Nat.le_of_ble_eq_true rfl) (fun ad => rfl) (fun X G K C => ?_)
  refine V_blk C (pc' := 6) (σ' := σ) (L' := [some (.ref 63), some (.int d), some (.int 5), none]) (st' := [.long 5, .long 0, .long (Int32.toInt64 5)]) (g_c dX8_taken_0 (g_c dX8_taken_1 (g_c dX8_taken_2 (g_c dX8_taken_3 g_n)))) rfl rfl ?_
  refine V_callSI C cs_X8_110 (c_X8_in32 σ 5 0 5 (by decide) (by decide)) (by decide) (by decide) (fun _ h => h) (As := [.long (Int32.toInt64 5), .long 0, .long 5]) (rest := []) rfl rfl (Nat.le_of_ble_eq_true rfl) dX8_taken_6 ?_
  refine V_if_ne_b C (tgt := 15) dX8_taken_9 (by decide) (fun _ => ?_) (fun z => absurd (by decide) z)
  refine V_blk C (pc' := 17) (σ' := σ) (L' := [some (.ref 63), some (.int d), some (.int 5), none]) (st' := [.int d, .ref 63]) (g_c dX8_taken_15 (g_c dX8_taken_16 g_n)) rfl rfl ?_
  refine V_callVI C cv_X8_127 (c_X8_isDrip σ d) ⟨_, _, _, _, rfl, rfl⟩ (by rfl) (by decide) (by decide) (fun _ h => h) (As := [.int d]) (rest := []) rfl rfl (Nat.le_of_ble_eq_true rfl) dX8_taken_17 ?_
  refine V_if_ne_b C (tgt := 26) dX8_taken_20 (by decide) (fun h20 => ?_) (fun h20 => ?_)
  · skip
    refine V_blk C (pc' := 31) (σ' := σ) (L' := [some (.ref 63), some (.int d), some (.int 5), none]) (st' := [.int d, .ref 68]) (g_c dX8_taken_26 (g_c dX8_taken_27 (g_c dX8_taken_30 g_n))) rfl rfl ?_
    refine V_iald C (k := 68) (n := 6) (by rfl) (by rfl) (g_vp h20 hd hd6 (by decide)) dX8_taken_31 ?_
    rw [show σ 68 (Int32.toNatClampNeg d) = 5 from hx]
    refine V_blk C (pc' := 35) (σ' := σ) (L' := [some (.ref 63), some (.int d), some (.int 5), some (.int 5)]) (st' := [.int (-1), .int 5]) (g_c dX8_taken_32 (g_c dX8_taken_33 (g_c dX8_taken_34 g_n))) rfl rfl ?_
    refine V_icmp_eq C (tgt := 51) dX8_taken_35 (by decide) (fun z => absurd z (by decide)) (fun _ => ?_)
    refine V_blk C (pc' := 40) (σ' := σ) (L' := [some (.ref 63), some (.int d), some (.int 5), some (.int 5)]) (st' := [.int 5, .int 5]) (g_c dX8_taken_38 (g_c dX8_taken_39 g_n)) rfl rfl ?_
    refine V_icmp_eq C (tgt := 51) dX8_taken_40 (by decide) (fun _ => ?_) (fun z => absurd z (by decide))
    refine V_blk C (pc' := 53) (σ' := σ) (L' := [some (.ref 63), some (.int d), some (.int 5), some (.int 5)]) (st' := [.int 5, .int 5]) (g_c dX8_taken_51 (g_c dX8_taken_52 g_n)) rfl rfl ?_
    refine V_icmp_ne C (tgt := 65) dX8_taken_53 (by decide) (fun z => absurd z (by decide)) (fun _ => ?_)
    refine V_blk C (pc' := 61) (σ' := σ) (L' := [some (.ref 63), some (.int d), some (.int 5), some (.int 5)]) (st' := [.int d, .ref 69]) (g_c dX8_taken_56 (g_c dX8_taken_57 (g_c dX8_taken_60 g_n))) rfl rfl ?_
    refine V_iald C (k := 69) (n := 6) (by rfl) (by rfl) (g_vp h20 hd hd6 (by decide)) dX8_taken_61 ?_
    refine V_goto C (tgt := 67) dX8_taken_62 (by decide) ?_
    refine V_iret C dX8_taken_67 ?_
    exact ⟨by rw [if_pos h20], rfl⟩
  · skip
    refine V_blk C (pc' := 25) (σ' := σ) (L' := [some (.ref 63), some (.int d), some (.int 5), none]) (st' := [.int (-11)]) (g_c dX8_taken_23 g_n) rfl rfl ?_
    refine V_iret C dX8_taken_25 ?_
    exact ⟨by rw [if_neg (fun z => h20 z)], rfl⟩
set_option maxHeartbeats 4000000 in
set_option maxRecDepth 100000 in
theorem c_X7_takenOut (σ : gS) (d k : Int32) (hk : ¬ g_in k 0 5) : g_Met yX7_taken cX7_taken 3 (some .int) 4 kX [.ref 0, .int d, .int k] σ (fun rv s => rv = some (.int (-2)) ∧ s = σ) := by
  refine g_Met.of (own := 7) (L := [some (.ref 0), some (.int d), some (.int k)]) (by decide) rfl rfl (fun ad => Nat.le_of_ble_eq_true rfl) (fun ad => rfl) (fun X G K C => ?_)
  refine V_blk C (pc' := 1) (σ' := σ) (L' := [some (.ref 0), some (.int d), some (.int k)]) (st' := [.int k]) (g_c dX7_taken_0 g_n) rfl rfl ?_
  refine V_callSI C cs_X7_116 (c_X7_isKind σ k) (by decide) (by decide) (fun _ h => h) (As := [.int k]) (rest := []) rfl rfl (Nat.le_of_ble_eq_true rfl) dX7_taken_1 ?_
  refine V_if_ne_b C (tgt := 10) dX7_taken_4 (by decide) (fun h4 => absurd h4 hk) (fun h4 => ?_)
  refine V_blk C (pc' := 9) (σ' := σ) (L' := [some (.ref 0), some (.int d), some (.int k)]) (st' := [.int (-2)]) (g_c dX7_taken_7 g_n) rfl rfl ?_
  refine V_iret C dX7_taken_9 ?_
  exact ⟨rfl, rfl⟩
set_option maxHeartbeats 4000000 in
set_option maxRecDepth 100000 in
theorem c_X8_takenOut (σ : gS) (d k : Int32) (hk : ¬ g_in k 0 5) : g_Met yX8_taken cX8_taken 4 (some .int) 4 kM [.ref 63, .int d, .int k] σ (fun rv s => rv = some (.int (-2)) ∧ s = σ) := by
  refine g_Met.of (own := 8) (L := [some (.ref 63), some (.int d), some (.int k), none]) (by decide) rfl rfl (fun ad => Nat.le_of_ble_eq_true rfl) (fun ad => rfl) (fun X G K C => ?_)
  refine V_blk C (pc' := 6) (σ' := σ) (L' := [some (.ref 63), some (.int d), some (.int k), none]) (st' := [.long 5, .long 0, .long (Int32.toInt64 k)]) (g_c dX8_taken_0 (g_c dX8_taken_1 (g_c dX8_taken_2 (g_c dX8_taken_3 g_n)))) rfl rfl ?_
  refine V_callSI C cs_X8_110 (c_X8_in32 σ k 0 5 (by decide) (by decide)) (by decide) (by decide) (fun _ h => h) (As := [.long (Int32.toInt64 k), .long 0, .long 5]) (rest := []) rfl rfl (Nat.le_of_ble_eq_true rfl) dX8_taken_6 ?_
  refine V_if_ne_b C (tgt := 15) dX8_taken_9 (by decide) (fun h9 => absurd h9 hk) (fun h9 => ?_)
  refine V_blk C (pc' := 14) (σ' := σ) (L' := [some (.ref 63), some (.int d), some (.int k), none]) (st' := [.int (-2)]) (g_c dX8_taken_12 g_n) rfl rfl ?_
  refine V_iret C dX8_taken_14 ?_
  exact ⟨rfl, rfl⟩
