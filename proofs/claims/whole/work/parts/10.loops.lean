/-! LOOPS: vesselOn, put, the sheets, copies -/
def g_fd (P : Nat → Bool) : Nat → Nat → Int32
  | 0, _ => -1
  | k + 1, i => if P i = true then nI i else g_fd P k (i + 1)
def g_ex (P : Nat → Bool) : Nat → Nat → Bool
  | 0, _ => false
  | k + 1, i => P i || g_ex P k (i + 1)
theorem nI_ltL {a b : Nat} (h : a < b) (hb : b ≤ 1000000) : nI a < nI b := nI_lt h (by omega)
theorem nI_nltL {a b : Nat} (h : b ≤ a) (ha : a ≤ 1000000) : ¬ nI a < nI b := nI_nlt h (by omega)
set_option maxHeartbeats 4000000 in
set_option maxRecDepth 100000 in
theorem lp_vesselOn {X : gX} {G : gG} {K : List Nat} {σ : gS} {place : Int32} {nv : Nat} (hv : σ 63 19 = nI nv) (hv5 : nv ≤ 5) {R : Int32}  (C : gC X G K kM 3 cX8_vesselOn (g_RX 8) (some .int) 3) : ∀ (k : Nat) (v : Nat), (v + k = nv) → (g_fd (fun j => decide (σ 73 j = place)) k v = R) → gV X G K 3 (fun rv s => rv = some (.int R) ∧ s = σ) σ [some (.ref 63), some (.int place), some (.int (nI v))] [] 2 := by
  intro k
  induction k with
  | zero =>
    intro v hk hR
    have hlt : ¬ nI v < σ 63 19 := by rw [hv]; exact nI_nltL (by omega) (by omega)
    refine V_blk C (pc' := 7) (σ' := σ) (L' := [some (.ref 63), some (.int place), some (.int (nI v))]) (st' := [.int (σ 63 19), .int (nI v)]) (g_c dX8_vesselOn_2 (g_c dX8_vesselOn_3 (g_c dX8_vesselOn_4 g_n))) rfl rfl ?_
    refine V_icmp_ge2 C (tgt := 28) dX8_vesselOn_7 (by decide) (fun h7 => ?_) (fun h7 => absurd h7 hlt)
    refine V_blk C (pc' := 29) (σ' := σ) (L' := [some (.ref 63), some (.int place), some (.int (nI v))]) (st' := [.int (-1)]) (g_c dX8_vesselOn_28 g_n) rfl rfl ?_
    refine V_iret C dX8_vesselOn_29 ?_
    exact ⟨by rw [← hR]; rfl, rfl⟩
  | succ k ih =>
    intro v hk hR
    have hlt : nI v < σ 63 19 := by rw [hv]; exact nI_ltL (by omega) (by omega)
    refine V_blk C (pc' := 7) (σ' := σ) (L' := [some (.ref 63), some (.int place), some (.int (nI v))]) (st' := [.int (σ 63 19), .int (nI v)]) (g_c dX8_vesselOn_2 (g_c dX8_vesselOn_3 (g_c dX8_vesselOn_4 g_n))) rfl rfl ?_
    refine V_icmp_ge2 C (tgt := 28) dX8_vesselOn_7 (by decide) (fun h7 => absurd hlt h7) (fun h7 => ?_)
    refine V_blk C (pc' := 15) (σ' := σ) (L' := [some (.ref 63), some (.int place), some (.int (nI v))]) (st' := [.int (nI v), .ref 73]) (g_c dX8_vesselOn_10 (g_c dX8_vesselOn_11 (g_c dX8_vesselOn_14 g_n))) rfl rfl ?_
    refine V_ialdJ C (j := v) (k := 73) (n := 5) (by rfl) (by rfl) rfl (by omega) dX8_vesselOn_15 ?_
    refine V_blk C (pc' := 17) (σ' := σ) (L' := [some (.ref 63), some (.int place), some (.int (nI v))]) (st' := [.int place, .int (σ 73 v)]) (g_c dX8_vesselOn_16 g_n) rfl rfl ?_
    refine V_icmp_ne C (tgt := 22) dX8_vesselOn_17 (by decide) (fun h17 => ?_) (fun h17 => ?_)
    · skip
      refine V_blk C (pc' := 25) (σ' := σ) (L' := [some (.ref 63), some (.int place), some (.int ((nI v) + 1))]) (st' := []) (g_c dX8_vesselOn_22 g_n) rfl rfl ?_
      refine V_goto C (tgt := 2) dX8_vesselOn_25 (by decide) ?_
      refine V_eq rfl (by rw [nI_1]) rfl (ih (v + 1) (by omega) (by rw [← hR, g_fd, if_neg (by simpa using h17)]))
    · skip
      refine V_blk C (pc' := 21) (σ' := σ) (L' := [some (.ref 63), some (.int place), some (.int (nI v))]) (st' := [.int (nI v)]) (g_c dX8_vesselOn_20 g_n) rfl rfl ?_
      refine V_iret C dX8_vesselOn_21 ?_
      exact ⟨by rw [← hR, g_fd, if_pos (by simpa using h17)], rfl⟩
set_option maxHeartbeats 4000000 in
set_option maxRecDepth 100000 in
theorem c_X8_vesselOn (σ : gS) (place : Int32) {nv : Nat} (hv : σ 63 19 = nI nv) (hv5 : nv ≤ 5) : g_Met yX8_vesselOn cX8_vesselOn 3 (some .int) 3 kM [.ref 63, .int place] σ (fun rv s => rv = some (.int (g_fd (fun j => decide (σ 73 j = place)) nv 0)) ∧ s = σ) := by
  refine g_Met.of (own := 8) (L := [some (.ref 63), some (.int place), none]) (by decide) rfl rfl (fun ad => Nat.le_of_ble_eq_true rfl) (fun ad => rfl) (fun X G K C => ?_)
  refine V_blk C (pc' := 2) (σ' := σ) (L' := [some (.ref 63), some (.int place), some (.int 0)]) (st' := []) (g_c dX8_vesselOn_0 (g_c dX8_vesselOn_1 g_n)) rfl rfl ?_
  exact lp_vesselOn hv hv5 C nv 0 (by omega) rfl
set_option maxHeartbeats 4000000 in
set_option maxRecDepth 100000 in
theorem lp_put {X : gX} {G : gG} {K : List Nat} {σ : gS} {vessel place : Int32} (hvs : vp_in vessel 5) {nv : Nat} (hv : σ 1 9 = nI nv) (hv5 : nv ≤ 5) {R : Bool}  (C : gC X G K kX 4 cX7_put (g_RX 7) (some .int) 4) : ∀ (k : Nat) (v : Nat), (v + k = nv) → (g_ex (fun j => decide (¬ nI j = vessel) && (decide (¬ place = -1) && decide (σ 8 j = place))) k v = R) → gV X G K 4 (fun rv s => rv = some (.int (if R = true then -3 else σ 8 (ix vessel))) ∧ s = if R = true then σ else g_up σ 8 (ix vessel) place) σ [some (.ref 0), some (.int vessel), some (.int place), some (.int (nI v))] [] 25 := by
  intro k
  induction k with
  | zero =>
    intro v hk hR
    have hlt : ¬ nI v < σ 1 9 := by rw [hv]; exact nI_nltL (by omega) (by omega)
    refine V_blk C (pc' := 33) (σ' := σ) (L' := [some (.ref 0), some (.int vessel), some (.int place), some (.int (nI v))]) (st' := [.int (σ 1 9), .int (nI v)]) (g_c dX7_put_25 (g_c dX7_put_26 (g_c dX7_put_27 (g_c dX7_put_30 g_n)))) rfl rfl ?_
    refine V_icmp_ge2 C (tgt := 73) dX7_put_33 (by decide) (fun h33 => ?_) (fun h33 => absurd h33 hlt)
    refine V_blk C (pc' := 82) (σ' := σ) (L' := [some (.ref 0), some (.int vessel), some (.int place), some (.int (nI v))]) (st' := [.int place, .int vessel, .ref 8]) (g_c dX7_put_73 (g_c dX7_put_74 (g_c dX7_put_77 (g_c dX7_put_80 (g_c dX7_put_81 g_n))))) rfl rfl ?_
    refine V_callSI C cs_X7_93 (c_X7_swapped_8 σ vessel place hvs) (by decide) (by decide) (fun _ h => h) (As := [.ref 8, .int vessel, .int place]) (rest := []) rfl rfl (Nat.le_of_ble_eq_true rfl) dX7_put_82 ?_
    refine V_iret C dX7_put_85 ?_
    have hR2 : R = false := hR.symm
    subst hR2
    exact ⟨rfl, rfl⟩
  | succ k ih =>
    intro v hk hR
    have hlt : nI v < σ 1 9 := by rw [hv]; exact nI_ltL (by omega) (by omega)
    have hl5 : nI v < 5 := nI_ltL (b := 5) (by omega) (by omega)
    refine V_blk C (pc' := 33) (σ' := σ) (L' := [some (.ref 0), some (.int vessel), some (.int place), some (.int (nI v))]) (st' := [.int (σ 1 9), .int (nI v)]) (g_c dX7_put_25 (g_c dX7_put_26 (g_c dX7_put_27 (g_c dX7_put_30 g_n)))) rfl rfl ?_
    refine V_icmp_ge2 C (tgt := 73) dX7_put_33 (by decide) (fun h33 => absurd hlt h33) (fun h33 => ?_)
    refine V_blk C (pc' := 38) (σ' := σ) (L' := [some (.ref 0), some (.int vessel), some (.int place), some (.int (nI v))]) (st' := [.int 5, .int (nI v)]) (g_c dX7_put_36 (g_c dX7_put_37 g_n)) rfl rfl ?_
    refine V_icmp_ge2 C (tgt := 73) dX7_put_38 (by decide) (fun h38 => absurd hl5 h38) (fun h38 => ?_)
    refine V_blk C (pc' := 43) (σ' := σ) (L' := [some (.ref 0), some (.int vessel), some (.int place), some (.int (nI v))]) (st' := [.int vessel, .int (nI v)]) (g_c dX7_put_41 (g_c dX7_put_42 g_n)) rfl rfl ?_
    refine V_icmp_eq C (tgt := 67) dX7_put_43 (by decide) (fun h43 => ?_) (fun h43 => ?_)
    · skip
      refine V_blk C (pc' := 70) (σ' := σ) (L' := [some (.ref 0), some (.int vessel), some (.int place), some (.int ((nI v) + 1))]) (st' := []) (g_c dX7_put_67 g_n) rfl rfl ?_
      refine V_goto C (tgt := 25) dX7_put_70 (by decide) ?_
      refine V_eq rfl (by rw [nI_1]) rfl (ih (v + 1) (by omega) ?_)
      rw [← hR, g_ex]
      simp [*]
    · skip
      refine V_blk C (pc' := 48) (σ' := σ) (L' := [some (.ref 0), some (.int vessel), some (.int place), some (.int (nI v))]) (st' := [.int (-1), .int place]) (g_c dX7_put_46 (g_c dX7_put_47 g_n)) rfl rfl ?_
      refine V_icmp_eq C (tgt := 67) dX7_put_48 (by decide) (fun h48 => ?_) (fun h48 => ?_)
      · skip
        refine V_blk C (pc' := 70) (σ' := σ) (L' := [some (.ref 0), some (.int vessel), some (.int place), some (.int ((nI v) + 1))]) (st' := []) (g_c dX7_put_67 g_n) rfl rfl ?_
        refine V_goto C (tgt := 25) dX7_put_70 (by decide) ?_
        refine V_eq rfl (by rw [nI_1]) rfl (ih (v + 1) (by omega) ?_)
        rw [← hR, g_ex]
        simp [*]
      · skip
        refine V_blk C (pc' := 59) (σ' := σ) (L' := [some (.ref 0), some (.int vessel), some (.int place), some (.int (nI v))]) (st' := [.int (nI v), .ref 8]) (g_c dX7_put_51 (g_c dX7_put_52 (g_c dX7_put_55 (g_c dX7_put_58 g_n)))) rfl rfl ?_
        refine V_ialdJ C (j := v) (k := 8) (n := 5) (by rfl) (by rfl) rfl (by omega) dX7_put_59 ?_
        refine V_blk C (pc' := 61) (σ' := σ) (L' := [some (.ref 0), some (.int vessel), some (.int place), some (.int (nI v))]) (st' := [.int place, .int (σ 8 v)]) (g_c dX7_put_60 g_n) rfl rfl ?_
        refine V_icmp_ne C (tgt := 67) dX7_put_61 (by decide) (fun h61 => ?_) (fun h61 => ?_)
        · skip
          refine V_blk C (pc' := 70) (σ' := σ) (L' := [some (.ref 0), some (.int vessel), some (.int place), some (.int ((nI v) + 1))]) (st' := []) (g_c dX7_put_67 g_n) rfl rfl ?_
          refine V_goto C (tgt := 25) dX7_put_70 (by decide) ?_
          refine V_eq rfl (by rw [nI_1]) rfl (ih (v + 1) (by omega) ?_)
          rw [← hR, g_ex]
          simp [*]
        · skip
          refine V_blk C (pc' := 66) (σ' := σ) (L' := [some (.ref 0), some (.int vessel), some (.int place), some (.int (nI v))]) (st' := [.int (-3)]) (g_c dX7_put_64 g_n) rfl rfl ?_
          refine V_iret C dX7_put_66 ?_
          have hR2 : R = true := by rw [← hR, g_ex]; simp [*]
          subst hR2
          exact ⟨rfl, rfl⟩
set_option maxHeartbeats 4000000 in
set_option maxRecDepth 100000 in
theorem c_X7_put (σ : gS) (vessel place : Int32) {nv : Nat} (hv : σ 1 9 = nI nv) (hv5 : nv ≤ 5) : g_Met yX7_put cX7_put 4 (some .int) 4 kX [.ref 0, .int vessel, .int place] σ (fun rv s => rv = some (.int (if g_in vessel 0 ((σ 1 9) - 1) then (if place = -1 ∨ g_in place 0 7 then (if g_ex (fun j => decide (¬ nI j = vessel) && (decide (¬ place = -1) && decide (σ 8 j = place))) nv 0 = true then -3 else σ 8 (ix vessel)) else -2) else -2)) ∧ s = (if g_in vessel 0 ((σ 1 9) - 1) then (if place = -1 ∨ g_in place 0 7 then (if g_ex (fun j => decide (¬ nI j = vessel) && (decide (¬ place = -1) && decide (σ 8 j = place))) nv 0 = true then σ else g_up σ 8 (ix vessel) place) else σ) else σ)) := by
  refine g_Met.of (own := 7) (L := [some (.ref 0), some (.int vessel), some (.int place), none]) (by decide) rfl rfl (fun ad => Nat.le_of_ble_eq_true rfl) (fun ad => rfl) (fun X G K C => ?_)
  refine V_blk C (pc' := 2) (σ' := σ) (L' := [some (.ref 0), some (.int vessel), some (.int place), none]) (st' := [.int vessel, .ref 0]) (g_c dX7_put_0 (g_c dX7_put_1 g_n)) rfl rfl ?_
  refine V_callVI C cv_X7_137 (c_X7_isVessel σ vessel) ⟨_, _, _, _, rfl, rfl⟩ (by rfl) (by decide) (by decide) (fun _ h => h) (As := [.int vessel]) (rest := []) rfl rfl (Nat.le_of_ble_eq_true rfl) dX7_put_2 ?_
  refine V_if_eq_b C (tgt := 20) dX7_put_5 (by decide) (fun h5 => ?_) (fun h5 => ?_)
  · skip
    refine V_blk C (pc' := 22) (σ' := σ) (L' := [some (.ref 0), some (.int vessel), some (.int place), none]) (st' := [.int (-2)]) (g_c dX7_put_20 g_n) rfl rfl ?_
    refine V_iret C dX7_put_22 ?_
    first | exact ⟨by rw [if_neg h5], by rw [if_neg h5]⟩ | exact ⟨by rw [if_pos h5, if_neg (fun z => z.elim h10 h17)], by rw [if_pos h5, if_neg (fun z => z.elim h10 h17)]⟩
  · skip
    refine V_blk C (pc' := 10) (σ' := σ) (L' := [some (.ref 0), some (.int vessel), some (.int place), none]) (st' := [.int (-1), .int place]) (g_c dX7_put_8 (g_c dX7_put_9 g_n)) rfl rfl ?_
    refine V_icmp_eq C (tgt := 23) dX7_put_10 (by decide) (fun h10 => ?_) (fun h10 => ?_)
    · skip
      refine V_blk C (pc' := 25) (σ' := σ) (L' := [some (.ref 0), some (.int vessel), some (.int place), some (.int 0)]) (st' := []) (g_c dX7_put_23 (g_c dX7_put_24 g_n)) rfl rfl ?_
      have hOr : place = -1 ∨ g_in place 0 7 := by first | exact Or.inl h10 | exact Or.inr h17
      have hl := lp_put (σ := σ) (vessel := vessel) (place := place) (g_vp h5 hv hv5 (by decide)) hv hv5 C nv 0 (by omega) rfl
      simp only [if_pos h5, if_pos hOr]
      exact hl
    · skip
      refine V_blk C (pc' := 14) (σ' := σ) (L' := [some (.ref 0), some (.int vessel), some (.int place), none]) (st' := [.int place]) (g_c dX7_put_13 g_n) rfl rfl ?_
      refine V_callSI C cs_X7_110 (c_X7_isPlace σ place) (by decide) (by decide) (fun _ h => h) (As := [.int place]) (rest := []) rfl rfl (Nat.le_of_ble_eq_true rfl) dX7_put_14 ?_
      refine V_if_ne_b C (tgt := 23) dX7_put_17 (by decide) (fun h17 => ?_) (fun h17 => ?_)
      · skip
        refine V_blk C (pc' := 25) (σ' := σ) (L' := [some (.ref 0), some (.int vessel), some (.int place), some (.int 0)]) (st' := []) (g_c dX7_put_23 (g_c dX7_put_24 g_n)) rfl rfl ?_
        have hOr : place = -1 ∨ g_in place 0 7 := by first | exact Or.inl h10 | exact Or.inr h17
        have hl := lp_put (σ := σ) (vessel := vessel) (place := place) (g_vp h5 hv hv5 (by decide)) hv hv5 C nv 0 (by omega) rfl
        simp only [if_pos h5, if_pos hOr]
        exact hl
      · skip
        refine V_blk C (pc' := 22) (σ' := σ) (L' := [some (.ref 0), some (.int vessel), some (.int place), none]) (st' := [.int (-2)]) (g_c dX7_put_20 g_n) rfl rfl ?_
        refine V_iret C dX7_put_22 ?_
        first | exact ⟨by rw [if_neg h5], by rw [if_neg h5]⟩ | exact ⟨by rw [if_pos h5, if_neg (fun z => z.elim h10 h17)], by rw [if_pos h5, if_neg (fun z => z.elim h10 h17)]⟩
theorem g_nat {i x : Int32} {z : Nat} (h : g_in i 0 (x - 1)) (hx : x = nI z) (hz : z ≤ 1000000) : ∃ a : Nat, a < z ∧ i = nI a := by
  subst hx
  rw [g_in_toInt, g_nIp hz] at h
  have h0 : (0 : Int32).toInt = 0 := rfl
  obtain ⟨j, hj, hj2⟩ := nI_of2 (x := i) (M := nI z) (n := z) (nI_toInt (by omega)) (by rw [Int32.lt_iff_toInt_lt]; omega) (by rw [Int32.le_iff_toInt_le, nI_toInt (by omega)]; omega)
  subst hj2
  rw [nI_toInt (by omega)] at h
  exact ⟨j, by omega, rfl⟩
theorem g_natc {i M : Int32} {n : Nat} (h : g_in i 0 M) (hM : M.toInt = (n : Int)) : ∃ a : Nat, a ≤ n ∧ i = nI a := nI_of2 hM h.1 (Int32.not_lt.mp h.2)
theorem g_lt40 {i x : Int32} {z : Nat} (h : g_in i 0 (x - 1)) (hx : x = nI z) (hz : z ≤ 40) : i < 40 := by
  obtain ⟨a, ha, rfl⟩ := g_nat h hx (by omega)
  exact nI_ltL (b := 40) (by omega) (by omega)
theorem g_vpm {i x : Int32} {t z : Nat} (ht : t < 4) (h : g_in i 0 (x - 1)) (hx : x = nI z) (hz : z ≤ 40) : vp_in (40 * nI t + i) 160 := by
  obtain ⟨a, ha, rfl⟩ := g_nat h hx (by omega)
  have e : (40 : Int32) * nI t = nI (40 * t) := pk_mul 40 t
  rw [e, nI_add]
  exact vp_in_nI (by omega) (by omega)
theorem g_inI {a : Nat} {M : Int32} (h : (a : Int) ≤ M.toInt) (ha : a ≤ 1000000) : g_in (nI a) 0 M := by
  rw [g_in_toInt, nI_toInt (by omega)]
  have h0 : (0 : Int32).toInt = 0 := rfl
  omega
theorem g_ixe {i M : Int32} (h : g_in i 0 M) : i = nI (ix i) := by
  obtain ⟨j, hj, rfl⟩ := nI_of h.1
  show nI j = nI (nI j).toNatClampNeg
  rw [nI_clamp hj]
theorem ix_nI {a : Nat} (h : a ≤ 1000000) : ix (nI a) = a := nI_clamp (by omega)
theorem g_hb {i n x : Int32} {z : Nat} (h1 : g_in i 0 x) (h2 : g_in n 0 (x - i)) (hx : x = nI z) (hz : z ≤ 40) : ix i + ix n ≤ 40 ∧ 40 < 1000000 := by
  subst hx
  have e1 := g_ixe h1
  have e2 := g_ixe h2
  obtain ⟨a, ha, rfl⟩ := g_natc h1 (nI_toInt (by omega))
  rw [g_in_toInt, pk_sub_toInt (by omega) (by omega)] at h2
  have h0 : (0 : Int32).toInt = 0 := rfl
  obtain ⟨b, hb, rfl⟩ := nI_of2 (x := n) (M := nI z) (n := z) (nI_toInt (by omega)) (by rw [Int32.lt_iff_toInt_lt]; omega) (by rw [Int32.le_iff_toInt_le, nI_toInt (by omega)]; omega)
  rw [nI_toInt (by omega)] at h2
  rw [ix_nI (by omega), ix_nI (by omega)]
  omega
set_option maxHeartbeats 4000000 in
set_option maxRecDepth 100000 in
theorem c_X4_take (σ : gS) {t : Nat} (ht : t < 4) (i v : Int32) {z : Nat} (hz : σ (37 + 2 * t) 1 = nI z) (hz40 : z ≤ 40) : g_Met yX4_take cX4_take 3 (some .boolean) 3 kX [.ref (37 + 2 * t), .int i, .int v] σ (fun rv s => rv = some (.int (if g_in i 0 ((σ (37 + 2 * t) 1) - 1) then 1 else 0)) ∧ s = (if g_in i 0 ((σ (37 + 2 * t) 1) - 1) then (if (σ (37 + 2 * t) 0) = 0 then (g_up σ (38 + 2 * t) (ix i) (Int8.toInt32 (Int32.toInt8 v))) else (if (σ (37 + 2 * t) 0) = 1 then (g_up σ (38 + 2 * t) (ix i) (Int16.toInt32 (Int32.toInt16 v))) else (g_up σ (38 + 2 * t) (ix i) v))) else σ)) := by
  refine g_Met.of (own := 4) (L := [some (.ref (37 + 2 * t)), some (.int i), some (.int v)]) (by decide) rfl rfl (fun ad => Nat.le_of_ble_eq_true rfl) (fun ad => rfl) (fun X G K C => ?_)
  refine V_blk C (pc' := 3) (σ' := σ) (L' := [some (.ref (37 + 2 * t)), some (.int i), some (.int v)]) (st' := [.ref (37 + 2 * t), .int 0, .int i]) (g_c dX4_take_0 (g_c dX4_take_1 (g_c dX4_take_2 g_n))) rfl rfl ?_
  refine V_get4i C (t := t) (j := 1) ht (by decide) fl_X4_19 (kX_lt (by omega)) dX4_take_3 ?_
  refine V_blk C (pc' := 8) (σ' := σ) (L' := [some (.ref (37 + 2 * t)), some (.int i), some (.int v)]) (st' := [.int ((σ (37 + 2 * t) 1) - 1), .int 0, .int i]) (g_c dX4_take_6 (g_c dX4_take_7 g_n)) rfl rfl ?_
  refine V_callNI C cn_X4_22 (c_X7_isIn σ i 0 ((σ (37 + 2 * t) 1) - 1)) (by decide) (by decide) (fun _ h => h) (As := [.int i, .int 0, .int ((σ (37 + 2 * t) 1) - 1)]) (rest := []) rfl rfl (Nat.le_of_ble_eq_true rfl) dX4_take_8 ?_
  refine V_if_eq_b C (tgt := 20) dX4_take_11 (by decide) (fun h11 => ?_) (fun h11 => ?_)
  · skip
    refine V_blk C (pc' := 21) (σ' := σ) (L' := [some (.ref (37 + 2 * t)), some (.int i), some (.int v)]) (st' := [.int 0]) (g_c dX4_take_20 g_n) rfl rfl ?_
    refine V_zret C (by decide) dX4_take_21 ?_
    exact ⟨by rw [if_neg (fun z => h11 z)], by rw [if_neg (fun z => h11 z)]⟩
  · skip
    have hi40 : i < 40 := g_lt40 h11 hz hz40
    refine V_blk C (pc' := 17) (σ' := σ) (L' := [some (.ref (37 + 2 * t)), some (.int i), some (.int v)]) (st' := [.int 40, .int i]) (g_c dX4_take_14 (g_c dX4_take_15 g_n)) rfl rfl ?_
    refine V_icmp_lt C (tgt := 22) dX4_take_17 (by decide) (fun h17 => ?_) (fun h17 => absurd hi40 h17)
    refine V_blk C (pc' := 23) (σ' := σ) (L' := [some (.ref (37 + 2 * t)), some (.int i), some (.int v)]) (st' := [.ref (37 + 2 * t)]) (g_c dX4_take_22 g_n) rfl rfl ?_
    refine V_get4r C (t := t) ht fl_X4_15 (kX_lt (by omega)) dX4_take_23 ?_
    refine V_blk C (pc' := 28) (σ' := σ) (L' := [some (.ref (37 + 2 * t)), some (.int i), some (.int v)]) (st' := [.ref (37 + 2 * t), .int i, .ref (38 + 2 * t)]) (g_c dX4_take_26 (g_c dX4_take_27 g_n)) rfl rfl ?_
    refine V_get4i C (t := t) (j := 0) ht (by decide) fl_X4_9 (kX_lt (by omega)) dX4_take_28 ?_
    refine V_if_ne C (tgt := 39) dX4_take_31 (by decide) (fun h31 => ?_) (fun h31 => ?_)
    · skip
      refine V_blk C (pc' := 40) (σ' := σ) (L' := [some (.ref (37 + 2 * t)), some (.int i), some (.int v)]) (st' := [.ref (37 + 2 * t), .int i, .ref (38 + 2 * t)]) (g_c dX4_take_39 g_n) rfl rfl ?_
      refine V_get4i C (t := t) (j := 0) ht (by decide) fl_X4_9 (kX_lt (by omega)) dX4_take_40 ?_
      refine V_blk C (pc' := 44) (σ' := σ) (L' := [some (.ref (37 + 2 * t)), some (.int i), some (.int v)]) (st' := [.int 1, .int (σ (37 + 2 * t) 0), .int i, .ref (38 + 2 * t)]) (g_c dX4_take_43 g_n) rfl rfl ?_
      refine V_icmp_ne C (tgt := 52) dX4_take_44 (by decide) (fun h44 => ?_) (fun h44 => ?_)
      · skip
        refine V_blk C (pc' := 53) (σ' := σ) (L' := [some (.ref (37 + 2 * t)), some (.int i), some (.int v)]) (st' := [.int v, .int i, .ref (38 + 2 * t)]) (g_c dX4_take_52 g_n) rfl rfl ?_
        refine V_iast C (k := (38 + 2 * t)) (n := 40) (sh_items ht) (kX_lt (by omega)) (g_vp h11 hz hz40 (by decide)) dX4_take_53 ?_
        refine V_blk C (pc' := 55) (σ' := (g_up σ (38 + 2 * t) (Int32.toNatClampNeg i) v)) (L' := [some (.ref (37 + 2 * t)), some (.int i), some (.int v)]) (st' := [.int 1]) (g_c dX4_take_54 g_n) rfl rfl ?_
        refine V_zret C (by decide) dX4_take_55 ?_
        exact ⟨by rw [if_pos h11], by rw [if_pos h11, if_neg (fun z => h31 z), if_neg (fun z => h44 z)]⟩
      · skip
        refine V_blk C (pc' := 49) (σ' := σ) (L' := [some (.ref (37 + 2 * t)), some (.int i), some (.int v)]) (st' := [.int (Int16.toInt32 (Int32.toInt16 v)), .int i, .ref (38 + 2 * t)]) (g_c dX4_take_47 (g_c dX4_take_48 g_n)) rfl rfl ?_
        refine V_goto C (tgt := 53) dX4_take_49 (by decide) ?_
        refine V_iast C (k := (38 + 2 * t)) (n := 40) (sh_items ht) (kX_lt (by omega)) (g_vp h11 hz hz40 (by decide)) dX4_take_53 ?_
        refine V_blk C (pc' := 55) (σ' := (g_up σ (38 + 2 * t) (Int32.toNatClampNeg i) (Int16.toInt32 (Int32.toInt16 v)))) (L' := [some (.ref (37 + 2 * t)), some (.int i), some (.int v)]) (st' := [.int 1]) (g_c dX4_take_54 g_n) rfl rfl ?_
        refine V_zret C (by decide) dX4_take_55 ?_
        exact ⟨by rw [if_pos h11], by rw [if_pos h11, if_neg (fun z => h31 z), if_pos h44]⟩
    · skip
      refine V_blk C (pc' := 36) (σ' := σ) (L' := [some (.ref (37 + 2 * t)), some (.int i), some (.int v)]) (st' := [.int (Int8.toInt32 (Int32.toInt8 v)), .int i, .ref (38 + 2 * t)]) (g_c dX4_take_34 (g_c dX4_take_35 g_n)) rfl rfl ?_
      refine V_goto C (tgt := 53) dX4_take_36 (by decide) ?_
      refine V_iast C (k := (38 + 2 * t)) (n := 40) (sh_items ht) (kX_lt (by omega)) (g_vp h11 hz hz40 (by decide)) dX4_take_53 ?_
      refine V_blk C (pc' := 55) (σ' := (g_up σ (38 + 2 * t) (Int32.toNatClampNeg i) (Int8.toInt32 (Int32.toInt8 v)))) (L' := [some (.ref (37 + 2 * t)), some (.int i), some (.int v)]) (st' := [.int 1]) (g_c dX4_take_54 g_n) rfl rfl ?_
      refine V_zret C (by decide) dX4_take_55 ?_
      exact ⟨by rw [if_pos h11], by rw [if_pos h11, if_pos h31]⟩
set_option maxHeartbeats 4000000 in
set_option maxRecDepth 100000 in
theorem c_X7_cell (σ : gS) {t : Nat} (ht : t < 4) (i v : Int32) {z : Nat} (hz : σ (37 + 2 * t) 1 = nI z) (hz40 : z ≤ 40) : g_Met yX7_cell cX7_cell 4 (some .int) 4 kX [.ref 0, .int (nI t), .int i, .int v] σ (fun rv s => rv = some (.int (if (σ (37 + 2 * t) 0) = (-1) then (-11) else (if g_in i 0 ((σ (37 + 2 * t) 1) - 1) then 1 else (-12)))) ∧ s = (if (σ (37 + 2 * t) 0) = (-1) then σ else (if g_in i 0 ((σ (37 + 2 * t) 1) - 1) then (if (σ (37 + 2 * t) 0) = 0 then (g_up σ (38 + 2 * t) (ix i) (Int8.toInt32 (Int32.toInt8 v))) else (if (σ (37 + 2 * t) 0) = 1 then (g_up σ (38 + 2 * t) (ix i) (Int16.toInt32 (Int32.toInt16 v))) else (g_up σ (38 + 2 * t) (ix i) v))) else σ))) := by
  have hin : g_in (nI t) 0 3 := g_inI (by have h3 : (3 : Int32).toInt = 3 := rfl; omega) (by omega)
  refine g_Met.of (own := 7) (L := [some (.ref 0), some (.int (nI t)), some (.int i), some (.int v)]) (by decide) rfl rfl (fun ad => Nat.le_of_ble_eq_true rfl) (fun ad => rfl) (fun X G K C => ?_)
  refine V_blk C (pc' := 1) (σ' := σ) (L' := [some (.ref 0), some (.int (nI t)), some (.int i), some (.int v)]) (st' := [.int (nI t)]) (g_c dX7_cell_0 g_n) rfl rfl ?_
  refine V_callSI C cs_X7_262 (c_X7_isSheet σ (nI t)) (by decide) (by decide) (fun _ h => h) (As := [.int (nI t)]) (rest := []) rfl rfl (Nat.le_of_ble_eq_true rfl) dX7_cell_1 ?_
  refine V_if_ne_b C (tgt := 10) dX7_cell_4 (by decide) (fun h4 => ?_) (fun h4 => absurd hin h4)
  refine V_blk C (pc' := 15) (σ' := σ) (L' := [some (.ref 0), some (.int (nI t)), some (.int i), some (.int v)]) (st' := [.int (nI t), .ref 22]) (g_c dX7_cell_10 (g_c dX7_cell_11 (g_c dX7_cell_14 g_n))) rfl rfl ?_
  refine V_aldS C (i := t) (by omega) (by rfl) dX7_cell_15 ?_
  refine V_get4i C (t := t) (j := 0) ht (by decide) fl_X7_267 (kX_lt (by omega)) dX7_cell_16 ?_
  refine V_blk C (pc' := 20) (σ' := σ) (L' := [some (.ref 0), some (.int (nI t)), some (.int i), some (.int v)]) (st' := [.int (-1), .int (σ (37 + 2 * t) 0)]) (g_c dX7_cell_19 g_n) rfl rfl ?_
  refine V_icmp_ne C (tgt := 26) dX7_cell_20 (by decide) (fun h20 => ?_) (fun h20 => ?_)
  · skip
    refine V_blk C (pc' := 31) (σ' := σ) (L' := [some (.ref 0), some (.int (nI t)), some (.int i), some (.int v)]) (st' := [.int (nI t), .ref 22]) (g_c dX7_cell_26 (g_c dX7_cell_27 (g_c dX7_cell_30 g_n))) rfl rfl ?_
    refine V_aldS C (i := t) (by omega) (by rfl) dX7_cell_31 ?_
    refine V_blk C (pc' := 34) (σ' := σ) (L' := [some (.ref 0), some (.int (nI t)), some (.int i), some (.int v)]) (st' := [.int v, .int i, .ref (37 + 2 * t)]) (g_c dX7_cell_32 (g_c dX7_cell_33 g_n)) rfl rfl ?_
    refine V_callVI C cv_X7_268 (c_X4_take σ ht i v hz hz40) ⟨4, _, _, _, sh_sheet ht, rfl⟩ (kX_lt (by omega)) (by decide) (by decide) (fun _ h => h) (As := [.int i, .int v]) (rest := []) rfl rfl (Nat.le_of_ble_eq_true rfl) dX7_cell_34 ?_
    refine V_if_eq_b C (tgt := 44) dX7_cell_37 (by decide) (fun h37 => ?_) (fun h37 => ?_)
    · skip
      refine V_blk C (pc' := 46) (σ' := (if g_in i 0 ((σ (37 + 2 * t) 1) - 1) then (if (σ (37 + 2 * t) 0) = 0 then (g_up σ (38 + 2 * t) (ix i) (Int8.toInt32 (Int32.toInt8 v))) else (if (σ (37 + 2 * t) 0) = 1 then (g_up σ (38 + 2 * t) (ix i) (Int16.toInt32 (Int32.toInt16 v))) else (g_up σ (38 + 2 * t) (ix i) v))) else σ)) (L' := [some (.ref 0), some (.int (nI t)), some (.int i), some (.int v)]) (st' := [.int (-12)]) (g_c dX7_cell_44 g_n) rfl rfl ?_
      refine V_iret C dX7_cell_46 ?_
      exact ⟨by rw [if_neg (fun z => h20 z), if_neg (fun z => h37 z)], by rw [if_neg (fun z => h20 z)]⟩
    · skip
      refine V_blk C (pc' := 41) (σ' := (if g_in i 0 ((σ (37 + 2 * t) 1) - 1) then (if (σ (37 + 2 * t) 0) = 0 then (g_up σ (38 + 2 * t) (ix i) (Int8.toInt32 (Int32.toInt8 v))) else (if (σ (37 + 2 * t) 0) = 1 then (g_up σ (38 + 2 * t) (ix i) (Int16.toInt32 (Int32.toInt16 v))) else (g_up σ (38 + 2 * t) (ix i) v))) else σ)) (L' := [some (.ref 0), some (.int (nI t)), some (.int i), some (.int v)]) (st' := [.int 1]) (g_c dX7_cell_40 g_n) rfl rfl ?_
      refine V_goto C (tgt := 46) dX7_cell_41 (by decide) ?_
      refine V_iret C dX7_cell_46 ?_
      exact ⟨by rw [if_neg (fun z => h20 z), if_pos h37], by rw [if_neg (fun z => h20 z)]⟩
  · skip
    refine V_blk C (pc' := 25) (σ' := σ) (L' := [some (.ref 0), some (.int (nI t)), some (.int i), some (.int v)]) (st' := [.int (-11)]) (g_c dX7_cell_23 g_n) rfl rfl ?_
    refine V_iret C dX7_cell_25 ?_
    exact ⟨by rw [if_pos h20], by rw [if_pos h20]⟩
set_option maxHeartbeats 4000000 in
set_option maxRecDepth 100000 in
theorem c_X7_cellOut (σ : gS) (t i v : Int32) (hin : ¬ g_in t 0 3) : g_Met yX7_cell cX7_cell 4 (some .int) 4 kX [.ref 0, .int t, .int i, .int v] σ (fun rv s => rv = some (.int (-2)) ∧ s = σ) := by
  refine g_Met.of (own := 7) (L := [some (.ref 0), some (.int t), some (.int i), some (.int v)]) (by decide) rfl rfl (fun ad => Nat.le_of_ble_eq_true rfl) (fun ad => rfl) (fun X G K C => ?_)
  refine V_blk C (pc' := 1) (σ' := σ) (L' := [some (.ref 0), some (.int t), some (.int i), some (.int v)]) (st' := [.int t]) (g_c dX7_cell_0 g_n) rfl rfl ?_
  refine V_callSI C cs_X7_262 (c_X7_isSheet σ t) (by decide) (by decide) (fun _ h => h) (As := [.int t]) (rest := []) rfl rfl (Nat.le_of_ble_eq_true rfl) dX7_cell_1 ?_
  refine V_if_ne_b C (tgt := 10) dX7_cell_4 (by decide) (fun h4 => absurd h4 hin) (fun h4 => ?_)
  refine V_blk C (pc' := 9) (σ' := σ) (L' := [some (.ref 0), some (.int t), some (.int i), some (.int v)]) (st' := [.int (-2)]) (g_c dX7_cell_7 g_n) rfl rfl ?_
  refine V_iret C dX7_cell_9 ?_
  exact ⟨rfl, rfl⟩
set_option maxHeartbeats 4000000 in
set_option maxRecDepth 100000 in
theorem c_X8_cell (σ : gS) {t : Nat} (ht : t < 4) (i v : Int32) {z : Nat} (hz : σ 88 t = nI z) (hz40 : z ≤ 40) : g_Met yX8_cell cX8_cell 4 (some .int) 4 kM [.ref 63, .int (nI t), .int i, .int v] σ (fun rv s => rv = some (.int (if (σ 86 t) = 0 then (-11) else (if g_in i 0 ((σ 88 t) - 1) then 1 else (-12)))) ∧ s = (if (σ 86 t) = 0 then σ else (if g_in i 0 ((σ 88 t) - 1) then (if (σ 87 t) = 0 then (g_up σ 89 (ix ((40 * (nI t)) + i)) (Int8.toInt32 (Int32.toInt8 v))) else (if (σ 87 t) = 1 then (g_up σ 89 (ix ((40 * (nI t)) + i)) (Int16.toInt32 (Int32.toInt16 v))) else (g_up σ 89 (ix ((40 * (nI t)) + i)) v))) else σ))) := by
  have hin : g_in (nI t) 0 3 := g_inI (by have h3 : (3 : Int32).toInt = 3 := rfl; omega) (by omega)
  refine g_Met.of (own := 8) (L := [some (.ref 63), some (.int (nI t)), some (.int i), some (.int v)]) (by decide) rfl rfl (fun ad => Nat.le_of_ble_eq_true rfl) (fun ad => rfl) (fun X G K C => ?_)
  refine V_blk C (pc' := 1) (σ' := σ) (L' := [some (.ref 63), some (.int (nI t)), some (.int i), some (.int v)]) (st' := [.int (nI t)]) (g_c dX8_cell_0 g_n) rfl rfl ?_
  refine V_callSI C cs_X8_354 (c_X8_isSheet σ (nI t)) (by decide) (by decide) (fun _ h => h) (As := [.int (nI t)]) (rest := []) rfl rfl (Nat.le_of_ble_eq_true rfl) dX8_cell_1 ?_
  refine V_if_ne_b C (tgt := 10) dX8_cell_4 (by decide) (fun h4 => ?_) (fun h4 => absurd hin h4)
  refine V_blk C (pc' := 15) (σ' := σ) (L' := [some (.ref 63), some (.int (nI t)), some (.int i), some (.int v)]) (st' := [.int (nI t), .ref 86]) (g_c dX8_cell_10 (g_c dX8_cell_11 (g_c dX8_cell_14 g_n))) rfl rfl ?_
  refine V_zaldJ C (j := t) (k := 86) (n := 4) (by rfl) (by rfl) rfl (by omega) dX8_cell_15 ?_
  refine V_if_ne C (tgt := 22) dX8_cell_16 (by decide) (fun h16 => ?_) (fun h16 => ?_)
  · skip
    refine V_blk C (pc' := 30) (σ' := σ) (L' := [some (.ref 63), some (.int (nI t)), some (.int i), some (.int v)]) (st' := [.int (nI t), .ref 88, .long 0, .long (Int32.toInt64 i)]) (g_c dX8_cell_22 (g_c dX8_cell_23 (g_c dX8_cell_24 (g_c dX8_cell_25 (g_c dX8_cell_26 (g_c dX8_cell_29 g_n)))))) rfl rfl ?_
    refine V_ialdJ C (j := t) (k := 88) (n := 4) (by rfl) (by rfl) rfl (by omega) dX8_cell_30 ?_
    refine V_blk C (pc' := 34) (σ' := σ) (L' := [some (.ref 63), some (.int (nI t)), some (.int i), some (.int v)]) (st' := [.long (Int32.toInt64 ((σ 88 t) - 1)), .long 0, .long (Int32.toInt64 i)]) (g_c dX8_cell_31 (g_c dX8_cell_32 (g_c dX8_cell_33 g_n))) rfl rfl ?_
    refine V_callSI C cs_X8_110 (c_X8_in32 σ i 0 ((σ 88 t) - 1) (by decide) rfl) (by decide) (by decide) (fun _ h => h) (As := [.long (Int32.toInt64 i), .long 0, .long (Int32.toInt64 ((σ 88 t) - 1))]) (rest := []) rfl rfl (Nat.le_of_ble_eq_true rfl) dX8_cell_34 ?_
    refine V_if_ne_b C (tgt := 43) dX8_cell_37 (by decide) (fun h37 => ?_) (fun h37 => ?_)
    · skip
      refine V_blk C (pc' := 58) (σ' := σ) (L' := [some (.ref 63), some (.int (nI t)), some (.int i), some (.int v)]) (st' := [.int (nI t), .ref 87, .int ((40 * (nI t)) + i), .ref 89]) (g_c dX8_cell_43 (g_c dX8_cell_44 (g_c dX8_cell_47 (g_c dX8_cell_49 (g_c dX8_cell_50 (g_c dX8_cell_51 (g_c dX8_cell_52 (g_c dX8_cell_53 (g_c dX8_cell_54 (g_c dX8_cell_57 g_n)))))))))) rfl rfl ?_
      refine V_ialdJ C (j := t) (k := 87) (n := 4) (by rfl) (by rfl) rfl (by omega) dX8_cell_58 ?_
      refine V_if_ne C (tgt := 67) dX8_cell_59 (by decide) (fun h59 => ?_) (fun h59 => ?_)
      · skip
        refine V_blk C (pc' := 72) (σ' := σ) (L' := [some (.ref 63), some (.int (nI t)), some (.int i), some (.int v)]) (st' := [.int (nI t), .ref 87, .int ((40 * (nI t)) + i), .ref 89]) (g_c dX8_cell_67 (g_c dX8_cell_68 (g_c dX8_cell_71 g_n))) rfl rfl ?_
        refine V_ialdJ C (j := t) (k := 87) (n := 4) (by rfl) (by rfl) rfl (by omega) dX8_cell_72 ?_
        refine V_blk C (pc' := 74) (σ' := σ) (L' := [some (.ref 63), some (.int (nI t)), some (.int i), some (.int v)]) (st' := [.int 1, .int (σ 87 t), .int ((40 * (nI t)) + i), .ref 89]) (g_c dX8_cell_73 g_n) rfl rfl ?_
        refine V_icmp_ne C (tgt := 82) dX8_cell_74 (by decide) (fun h74 => ?_) (fun h74 => ?_)
        · skip
          refine V_blk C (pc' := 83) (σ' := σ) (L' := [some (.ref 63), some (.int (nI t)), some (.int i), some (.int v)]) (st' := [.int v, .int ((40 * (nI t)) + i), .ref 89]) (g_c dX8_cell_82 g_n) rfl rfl ?_
          refine V_iast C (k := 89) (n := 160) (by rfl) (by rfl) (g_vpm ht h37 hz hz40) dX8_cell_83 ?_
          refine V_blk C (pc' := 85) (σ' := (g_up σ 89 (Int32.toNatClampNeg ((40 * (nI t)) + i)) v)) (L' := [some (.ref 63), some (.int (nI t)), some (.int i), some (.int v)]) (st' := [.int 1]) (g_c dX8_cell_84 g_n) rfl rfl ?_
          refine V_iret C dX8_cell_85 ?_
          exact ⟨by rw [if_neg (fun z => h16 z), if_pos h37], by rw [if_neg (fun z => h16 z), if_pos h37, if_neg (fun z => h59 z), if_neg (fun z => h74 z)]⟩
        · skip
          refine V_blk C (pc' := 79) (σ' := σ) (L' := [some (.ref 63), some (.int (nI t)), some (.int i), some (.int v)]) (st' := [.int (Int16.toInt32 (Int32.toInt16 v)), .int ((40 * (nI t)) + i), .ref 89]) (g_c dX8_cell_77 (g_c dX8_cell_78 g_n)) rfl rfl ?_
          refine V_goto C (tgt := 83) dX8_cell_79 (by decide) ?_
          refine V_iast C (k := 89) (n := 160) (by rfl) (by rfl) (g_vpm ht h37 hz hz40) dX8_cell_83 ?_
          refine V_blk C (pc' := 85) (σ' := (g_up σ 89 (Int32.toNatClampNeg ((40 * (nI t)) + i)) (Int16.toInt32 (Int32.toInt16 v)))) (L' := [some (.ref 63), some (.int (nI t)), some (.int i), some (.int v)]) (st' := [.int 1]) (g_c dX8_cell_84 g_n) rfl rfl ?_
          refine V_iret C dX8_cell_85 ?_
          exact ⟨by rw [if_neg (fun z => h16 z), if_pos h37], by rw [if_neg (fun z => h16 z), if_pos h37, if_neg (fun z => h59 z), if_pos h74]⟩
      · skip
        refine V_blk C (pc' := 64) (σ' := σ) (L' := [some (.ref 63), some (.int (nI t)), some (.int i), some (.int v)]) (st' := [.int (Int8.toInt32 (Int32.toInt8 v)), .int ((40 * (nI t)) + i), .ref 89]) (g_c dX8_cell_62 (g_c dX8_cell_63 g_n)) rfl rfl ?_
        refine V_goto C (tgt := 83) dX8_cell_64 (by decide) ?_
        refine V_iast C (k := 89) (n := 160) (by rfl) (by rfl) (g_vpm ht h37 hz hz40) dX8_cell_83 ?_
        refine V_blk C (pc' := 85) (σ' := (g_up σ 89 (Int32.toNatClampNeg ((40 * (nI t)) + i)) (Int8.toInt32 (Int32.toInt8 v)))) (L' := [some (.ref 63), some (.int (nI t)), some (.int i), some (.int v)]) (st' := [.int 1]) (g_c dX8_cell_84 g_n) rfl rfl ?_
        refine V_iret C dX8_cell_85 ?_
        exact ⟨by rw [if_neg (fun z => h16 z), if_pos h37], by rw [if_neg (fun z => h16 z), if_pos h37, if_pos h59]⟩
    · skip
      refine V_blk C (pc' := 42) (σ' := σ) (L' := [some (.ref 63), some (.int (nI t)), some (.int i), some (.int v)]) (st' := [.int (-12)]) (g_c dX8_cell_40 g_n) rfl rfl ?_
      refine V_iret C dX8_cell_42 ?_
      exact ⟨by rw [if_neg (fun z => h16 z), if_neg (fun z => h37 z)], by rw [if_neg (fun z => h16 z), if_neg (fun z => h37 z)]⟩
  · skip
    refine V_blk C (pc' := 21) (σ' := σ) (L' := [some (.ref 63), some (.int (nI t)), some (.int i), some (.int v)]) (st' := [.int (-11)]) (g_c dX8_cell_19 g_n) rfl rfl ?_
    refine V_iret C dX8_cell_21 ?_
    exact ⟨by rw [if_pos h16], by rw [if_pos h16]⟩
set_option maxHeartbeats 4000000 in
set_option maxRecDepth 100000 in
theorem c_X8_cellOut (σ : gS) (t i v : Int32) (hin : ¬ g_in t 0 3) : g_Met yX8_cell cX8_cell 4 (some .int) 4 kM [.ref 63, .int t, .int i, .int v] σ (fun rv s => rv = some (.int (-2)) ∧ s = σ) := by
  refine g_Met.of (own := 8) (L := [some (.ref 63), some (.int t), some (.int i), some (.int v)]) (by decide) rfl rfl (fun ad => Nat.le_of_ble_eq_true rfl) (fun ad => rfl) (fun X G K C => ?_)
  refine V_blk C (pc' := 1) (σ' := σ) (L' := [some (.ref 63), some (.int t), some (.int i), some (.int v)]) (st' := [.int t]) (g_c dX8_cell_0 g_n) rfl rfl ?_
  refine V_callSI C cs_X8_354 (c_X8_isSheet σ t) (by decide) (by decide) (fun _ h => h) (As := [.int t]) (rest := []) rfl rfl (Nat.le_of_ble_eq_true rfl) dX8_cell_1 ?_
  refine V_if_ne_b C (tgt := 10) dX8_cell_4 (by decide) (fun h4 => absurd h4 hin) (fun h4 => ?_)
  refine V_blk C (pc' := 9) (σ' := σ) (L' := [some (.ref 63), some (.int t), some (.int i), some (.int v)]) (st' := [.int (-2)]) (g_c dX8_cell_7 g_n) rfl rfl ?_
  refine V_iret C dX8_cell_9 ?_
  exact ⟨rfl, rfl⟩
set_option maxHeartbeats 4000000 in
set_option maxRecDepth 100000 in
theorem lp_become {X : gX} {G : gG} {K : List Nat} {t : Nat} (ht : t < 4) {so sz : Int32} {σ : gS}  (C : gC X G K kX 4 cX4_become (g_RX 4) none 2) : ∀ (k : Nat) (v : Nat) (s : gS), (v + k = 40) → ((∀ a, a ≠ (38 + 2 * t) → s a = σ a) ∧ ∀ b, b < v → s (38 + 2 * t) b = 0) → gV X G K 4 (fun rv s => rv = none ∧ (∀ a, a ≠ (38 + 2 * t) → s a = σ a) ∧ ∀ b, b < 40 → s (38 + 2 * t) b = 0) s [some (.ref (37 + 2 * t)), some (.int so), some (.int sz), some (.int (nI v))] [] 12 := by
  intro k
  induction k with
  | zero =>
    intro v s hk hs
    have hlt : ¬ nI v < 40 := nI_nltL (a := v) (b := 40) (by omega) (by omega)
    refine V_blk C (pc' := 15) (σ' := s) (L' := [some (.ref (37 + 2 * t)), some (.int so), some (.int sz), some (.int (nI v))]) (st' := [.int 40, .int (nI v)]) (g_c dX4_become_12 (g_c dX4_become_13 g_n)) rfl rfl ?_
    refine V_icmp_ge2 C (tgt := 31) dX4_become_15 (by decide) (fun h15 => ?_) (fun h15 => absurd h15 hlt)
    refine V_vret C dX4_become_31 ?_
    exact ⟨rfl, hs.1, fun b hb => hs.2 b (by omega)⟩
  | succ k ih =>
    intro v s hk hs
    have hlt : nI v < 40 := nI_ltL (b := 40) (by omega) (by omega)
    refine V_blk C (pc' := 15) (σ' := s) (L' := [some (.ref (37 + 2 * t)), some (.int so), some (.int sz), some (.int (nI v))]) (st' := [.int 40, .int (nI v)]) (g_c dX4_become_12 (g_c dX4_become_13 g_n)) rfl rfl ?_
    refine V_icmp_ge2 C (tgt := 31) dX4_become_15 (by decide) (fun h15 => absurd hlt h15) (fun h15 => ?_)
    refine V_blk C (pc' := 19) (σ' := s) (L' := [some (.ref (37 + 2 * t)), some (.int so), some (.int sz), some (.int (nI v))]) (st' := [.ref (37 + 2 * t)]) (g_c dX4_become_18 g_n) rfl rfl ?_
    refine V_get4r C (t := t) ht fl_X4_15 (kX_lt (by omega)) dX4_become_19 ?_
    refine V_blk C (pc' := 24) (σ' := s) (L' := [some (.ref (37 + 2 * t)), some (.int so), some (.int sz), some (.int (nI v))]) (st' := [.int 0, .int (nI v), .ref (38 + 2 * t)]) (g_c dX4_become_22 (g_c dX4_become_23 g_n)) rfl rfl ?_
    refine V_iastJ C (j := v) (k := (38 + 2 * t)) (n := 40) (sh_items ht) (kX_lt (by omega)) rfl (by omega) dX4_become_24 ?_
    refine V_blk C (pc' := 28) (σ' := (g_up s (38 + 2 * t) v 0)) (L' := [some (.ref (37 + 2 * t)), some (.int so), some (.int sz), some (.int ((nI v) + 1))]) (st' := []) (g_c dX4_become_25 g_n) rfl rfl ?_
    refine V_goto C (tgt := 12) dX4_become_28 (by decide) ?_
    refine V_eq rfl (by rw [nI_1]) rfl (ih (v + 1) (g_up s (38 + 2 * t) v 0) (by omega) ⟨fun a ha => (g_up_ne ha).trans (hs.1 a ha), fun b hb => ?_⟩)
    rw [g_up_same]
    by_cases hbv : b = v
    · simp [hbv]
    · simp only [if_neg hbv]; exact hs.2 b (by omega)
set_option maxHeartbeats 4000000 in
set_option maxRecDepth 100000 in
theorem c_X4_become (σ : gS) {t : Nat} (ht : t < 4) (so sz : Int32) : g_Met yX4_become cX4_become 4 none 2 kX [.ref (37 + 2 * t), .int so, .int sz] σ (fun rv s => rv = none ∧ (∀ a, a ≠ (38 + 2 * t) → s a = (g_up (g_up σ (37 + 2 * t) 0 so) (37 + 2 * t) 1 sz) a) ∧ ∀ b, b < 40 → s (38 + 2 * t) b = 0) := by
  refine g_Met.of (own := 4) (L := [some (.ref (37 + 2 * t)), some (.int so), some (.int sz), none]) (by decide) rfl rfl (fun ad => Nat.le_of_ble_eq_true rfl) (fun ad => rfl) (fun X G K C => ?_)
  refine V_blk C (pc' := 2) (σ' := σ) (L' := [some (.ref (37 + 2 * t)), some (.int so), some (.int sz), none]) (st' := [.int so, .ref (37 + 2 * t)]) (g_c dX4_become_0 (g_c dX4_become_1 g_n)) rfl rfl ?_
  refine V_put4 C (t := t) (j := 0) ht (by decide) fl_X4_9 (kX_lt (by omega)) dX4_become_2 ?_
  refine V_blk C (pc' := 7) (σ' := (g_up σ (37 + 2 * t) 0 so)) (L' := [some (.ref (37 + 2 * t)), some (.int so), some (.int sz), none]) (st' := [.int sz, .ref (37 + 2 * t)]) (g_c dX4_become_5 (g_c dX4_become_6 g_n)) rfl rfl ?_
  refine V_put4 C (t := t) (j := 1) ht (by decide) fl_X4_19 (kX_lt (by omega)) dX4_become_7 ?_
  refine V_blk C (pc' := 12) (σ' := (g_up (g_up σ (37 + 2 * t) 0 so) (37 + 2 * t) 1 sz)) (L' := [some (.ref (37 + 2 * t)), some (.int so), some (.int sz), some (.int 0)]) (st' := []) (g_c dX4_become_10 (g_c dX4_become_11 g_n)) rfl rfl ?_
  exact lp_become ht C 40 0 _ (by omega) ⟨fun _ _ => rfl, fun b hb => absurd hb (by omega)⟩
set_option maxHeartbeats 4000000 in
set_option maxRecDepth 100000 in
theorem c_X7_sheet (σ : gS) {t : Nat} (ht : t < 4) (so n : Int32) : g_Met yX7_sheet cX7_sheet 4 (some .int) 3 kX [.ref 0, .int (nI t), .int so, .int n] σ (fun rv s => ∃ r : Int32, rv = some (.int r) ∧ r = (if g_in so (-1) 2 then (if so = (-1) then 1 else (if 40 < n then (-2) else (if n < 0 then (-14) else 1))) else (-2)) ∧ (if r = 1 then (∀ a, a ≠ (38 + 2 * t) → s a = (g_up (g_up σ (37 + 2 * t) 0 so) (37 + 2 * t) 1 (if so = (-1) then 0 else n)) a) ∧ ∀ b, b < 40 → s (38 + 2 * t) b = 0 else s = σ)) := by
  have hin : g_in (nI t) 0 3 := g_inI (by have h3 : (3 : Int32).toInt = 3 := rfl; omega) (by omega)
  refine g_Met.of (own := 7) (L := [some (.ref 0), some (.int (nI t)), some (.int so), some (.int n)]) (by decide) rfl rfl (fun ad => Nat.le_of_ble_eq_true rfl) (fun ad => rfl) (fun X G K C => ?_)
  refine V_blk C (pc' := 1) (σ' := σ) (L' := [some (.ref 0), some (.int (nI t)), some (.int so), some (.int n)]) (st' := [.int (nI t)]) (g_c dX7_sheet_0 g_n) rfl rfl ?_
  refine V_callSI C cs_X7_262 (c_X7_isSheet σ (nI t)) (by decide) (by decide) (fun _ h => h) (As := [.int (nI t)]) (rest := []) rfl rfl (Nat.le_of_ble_eq_true rfl) dX7_sheet_1 ?_
  refine V_if_eq_b C (tgt := 27) dX7_sheet_4 (by decide) (fun h4 => absurd hin h4) (fun h4 => ?_)
  refine V_blk C (pc' := 10) (σ' := σ) (L' := [some (.ref 0), some (.int (nI t)), some (.int so), some (.int n)]) (st' := [.int 2, .int (-1), .int so]) (g_c dX7_sheet_7 (g_c dX7_sheet_8 (g_c dX7_sheet_9 g_n))) rfl rfl ?_
  refine V_callSI C cs_X7_85 (c_X7_isIn σ so (-1) 2) (by decide) (by decide) (fun _ h => h) (As := [.int so, .int (-1), .int 2]) (rest := []) rfl rfl (Nat.le_of_ble_eq_true rfl) dX7_sheet_10 ?_
  refine V_if_eq_b C (tgt := 27) dX7_sheet_13 (by decide) (fun h13 => ?_) (fun h13 => ?_)
  · skip
    refine V_blk C (pc' := 29) (σ' := σ) (L' := [some (.ref 0), some (.int (nI t)), some (.int so), some (.int n)]) (st' := [.int (-2)]) (g_c dX7_sheet_27 g_n) rfl rfl ?_
    refine V_iret C dX7_sheet_29 ?_
    refine ⟨(-2), rfl, by rw [if_neg (fun z => h13 z)], ?_⟩
    rw [if_neg (by decide)]
  · skip
    refine V_blk C (pc' := 18) (σ' := σ) (L' := [some (.ref 0), some (.int (nI t)), some (.int so), some (.int n)]) (st' := [.int (-1), .int so]) (g_c dX7_sheet_16 (g_c dX7_sheet_17 g_n)) rfl rfl ?_
    refine V_icmp_eq C (tgt := 30) dX7_sheet_18 (by decide) (fun h18 => ?_) (fun h18 => ?_)
    · skip
      refine V_blk C (pc' := 32) (σ' := σ) (L' := [some (.ref 0), some (.int (nI t)), some (.int so), some (.int n)]) (st' := [.int (-1), .int so]) (g_c dX7_sheet_30 (g_c dX7_sheet_31 g_n)) rfl rfl ?_
      refine V_icmp_eq C (tgt := 42) dX7_sheet_32 (by decide) (fun h32 => ?_) (fun h32 => absurd h18 h32)
      refine V_blk C (pc' := 47) (σ' := σ) (L' := [some (.ref 0), some (.int (nI t)), some (.int so), some (.int n)]) (st' := [.int (nI t), .ref 22]) (g_c dX7_sheet_42 (g_c dX7_sheet_43 (g_c dX7_sheet_46 g_n))) rfl rfl ?_
      refine V_aldS C (i := t) (by omega) (by rfl) dX7_sheet_47 ?_
      refine V_blk C (pc' := 51) (σ' := σ) (L' := [some (.ref 0), some (.int (nI t)), some (.int so), some (.int n)]) (st' := [.int (-1), .int so, .int so, .ref (37 + 2 * t)]) (g_c dX7_sheet_48 (g_c dX7_sheet_49 (g_c dX7_sheet_50 g_n))) rfl rfl ?_
      refine V_icmp_ne C (tgt := 58) dX7_sheet_51 (by decide) (fun h51 => absurd h18 h51) (fun h51 => ?_)
      refine V_blk C (pc' := 55) (σ' := σ) (L' := [some (.ref 0), some (.int (nI t)), some (.int so), some (.int n)]) (st' := [.int 0, .int so, .ref (37 + 2 * t)]) (g_c dX7_sheet_54 g_n) rfl rfl ?_
      refine V_goto C (tgt := 59) dX7_sheet_55 (by decide) ?_
      refine V_callV C cv_X7_265 (c_X4_become σ ht so 0) ⟨4, _, _, _, sh_sheet ht, rfl⟩ (kX_lt (by omega)) (by decide) (by decide) (fun _ h => h) (As := [.int so, .int 0]) (rest := []) rfl rfl (Nat.le_of_ble_eq_true rfl) dX7_sheet_59 (fun rv s1 hq => ?_)
      obtain ⟨rfl, hs1, hz1⟩ := hq
      refine V_blk C (pc' := 63) (σ' := s1) (L' := [some (.ref 0), some (.int (nI t)), some (.int so), some (.int n)]) (st' := [.int 1]) (g_c dX7_sheet_62 g_n) rfl rfl ?_
      refine V_iret C dX7_sheet_63 ?_
      refine ⟨1, rfl, by rw [if_pos h13, if_pos h18], ?_⟩
      rw [if_pos rfl]
      refine ⟨fun a ha => (hs1 a ha).trans ?_, hz1⟩
      rw [if_pos h18]
    · skip
      refine V_blk C (pc' := 24) (σ' := σ) (L' := [some (.ref 0), some (.int (nI t)), some (.int so), some (.int n)]) (st' := [.int 40, .int n]) (g_c dX7_sheet_21 (g_c dX7_sheet_22 g_n)) rfl rfl ?_
      refine V_icmp_le2 C (tgt := 30) dX7_sheet_24 (by decide) (fun h24 => ?_) (fun h24 => ?_)
      · skip
        refine V_blk C (pc' := 32) (σ' := σ) (L' := [some (.ref 0), some (.int (nI t)), some (.int so), some (.int n)]) (st' := [.int (-1), .int so]) (g_c dX7_sheet_30 (g_c dX7_sheet_31 g_n)) rfl rfl ?_
        refine V_icmp_eq C (tgt := 42) dX7_sheet_32 (by decide) (fun h32 => absurd h32 h18) (fun h32 => ?_)
        refine V_blk C (pc' := 36) (σ' := σ) (L' := [some (.ref 0), some (.int (nI t)), some (.int so), some (.int n)]) (st' := [.int n]) (g_c dX7_sheet_35 g_n) rfl rfl ?_
        refine V_if_ge2 C (tgt := 42) dX7_sheet_36 (by decide) (fun h36 => ?_) (fun h36 => ?_)
        · skip
          refine V_blk C (pc' := 47) (σ' := σ) (L' := [some (.ref 0), some (.int (nI t)), some (.int so), some (.int n)]) (st' := [.int (nI t), .ref 22]) (g_c dX7_sheet_42 (g_c dX7_sheet_43 (g_c dX7_sheet_46 g_n))) rfl rfl ?_
          refine V_aldS C (i := t) (by omega) (by rfl) dX7_sheet_47 ?_
          refine V_blk C (pc' := 51) (σ' := σ) (L' := [some (.ref 0), some (.int (nI t)), some (.int so), some (.int n)]) (st' := [.int (-1), .int so, .int so, .ref (37 + 2 * t)]) (g_c dX7_sheet_48 (g_c dX7_sheet_49 (g_c dX7_sheet_50 g_n))) rfl rfl ?_
          refine V_icmp_ne C (tgt := 58) dX7_sheet_51 (by decide) (fun h51 => ?_) (fun h51 => absurd h51 h18)
          refine V_blk C (pc' := 59) (σ' := σ) (L' := [some (.ref 0), some (.int (nI t)), some (.int so), some (.int n)]) (st' := [.int n, .int so, .ref (37 + 2 * t)]) (g_c dX7_sheet_58 g_n) rfl rfl ?_
          refine V_callV C cv_X7_265 (c_X4_become σ ht so n) ⟨4, _, _, _, sh_sheet ht, rfl⟩ (kX_lt (by omega)) (by decide) (by decide) (fun _ h => h) (As := [.int so, .int n]) (rest := []) rfl rfl (Nat.le_of_ble_eq_true rfl) dX7_sheet_59 (fun rv s1 hq => ?_)
          obtain ⟨rfl, hs1, hz1⟩ := hq
          refine V_blk C (pc' := 63) (σ' := s1) (L' := [some (.ref 0), some (.int (nI t)), some (.int so), some (.int n)]) (st' := [.int 1]) (g_c dX7_sheet_62 g_n) rfl rfl ?_
          refine V_iret C dX7_sheet_63 ?_
          refine ⟨1, rfl, by rw [if_pos h13, if_neg (fun z => h18 z), if_neg (fun z => h24 z), if_neg (fun z => h36 z)], ?_⟩
          rw [if_pos rfl]
          refine ⟨fun a ha => (hs1 a ha).trans ?_, hz1⟩
          rw [if_neg (fun z => h18 z)]
        · skip
          refine V_blk C (pc' := 41) (σ' := σ) (L' := [some (.ref 0), some (.int (nI t)), some (.int so), some (.int n)]) (st' := [.int (-14)]) (g_c dX7_sheet_39 g_n) rfl rfl ?_
          refine V_iret C dX7_sheet_41 ?_
          refine ⟨(-14), rfl, by rw [if_pos h13, if_neg (fun z => h18 z), if_neg (fun z => h24 z), if_pos h36], ?_⟩
          rw [if_neg (by decide)]
      · skip
        refine V_blk C (pc' := 29) (σ' := σ) (L' := [some (.ref 0), some (.int (nI t)), some (.int so), some (.int n)]) (st' := [.int (-2)]) (g_c dX7_sheet_27 g_n) rfl rfl ?_
        refine V_iret C dX7_sheet_29 ?_
        refine ⟨(-2), rfl, by rw [if_pos h13, if_neg (fun z => h18 z), if_pos h24], ?_⟩
        rw [if_neg (by decide)]
set_option maxHeartbeats 4000000 in
set_option maxRecDepth 100000 in
theorem c_X7_sheetOut (σ : gS) (t so n : Int32) (hin : ¬ g_in t 0 3) : g_Met yX7_sheet cX7_sheet 4 (some .int) 3 kX [.ref 0, .int t, .int so, .int n] σ (fun rv s => rv = some (.int (-2)) ∧ s = σ) := by
  refine g_Met.of (own := 7) (L := [some (.ref 0), some (.int t), some (.int so), some (.int n)]) (by decide) rfl rfl (fun ad => Nat.le_of_ble_eq_true rfl) (fun ad => rfl) (fun X G K C => ?_)
  refine V_blk C (pc' := 1) (σ' := σ) (L' := [some (.ref 0), some (.int t), some (.int so), some (.int n)]) (st' := [.int t]) (g_c dX7_sheet_0 g_n) rfl rfl ?_
  refine V_callSI C cs_X7_262 (c_X7_isSheet σ t) (by decide) (by decide) (fun _ h => h) (As := [.int t]) (rest := []) rfl rfl (Nat.le_of_ble_eq_true rfl) dX7_sheet_1 ?_
  refine V_if_eq_b C (tgt := 27) dX7_sheet_4 (by decide) (fun h4 => ?_) (fun h4 => absurd h4 hin)
  refine V_blk C (pc' := 29) (σ' := σ) (L' := [some (.ref 0), some (.int t), some (.int so), some (.int n)]) (st' := [.int (-2)]) (g_c dX7_sheet_27 g_n) rfl rfl ?_
  refine V_iret C dX7_sheet_29 ?_
  exact ⟨rfl, rfl⟩
set_option maxHeartbeats 4000000 in
set_option maxRecDepth 100000 in
theorem c_X8_sheetOut (σ : gS) (t so n : Int32) (hin : ¬ g_in t 0 3) : g_Met yX8_sheet cX8_sheet 5 (some .int) 3 kM [.ref 63, .int t, .int so, .int n] σ (fun rv s => rv = some (.int (-2)) ∧ s = σ) := by
  refine g_Met.of (own := 8) (L := [some (.ref 63), some (.int t), some (.int so), some (.int n), none]) (by decide) rfl rfl (fun ad => Nat.le_of_ble_eq_true rfl) (fun ad => rfl) (fun X G K C => ?_)
  refine V_blk C (pc' := 1) (σ' := σ) (L' := [some (.ref 63), some (.int t), some (.int so), some (.int n), none]) (st' := [.int t]) (g_c dX8_sheet_0 g_n) rfl rfl ?_
  refine V_callSI C cs_X8_354 (c_X8_isSheet σ t) (by decide) (by decide) (fun _ h => h) (As := [.int t]) (rest := []) rfl rfl (Nat.le_of_ble_eq_true rfl) dX8_sheet_1 ?_
  refine V_if_eq_b C (tgt := 31) dX8_sheet_4 (by decide) (fun h4 => ?_) (fun h4 => absurd h4 hin)
  refine V_blk C (pc' := 33) (σ' := σ) (L' := [some (.ref 63), some (.int t), some (.int so), some (.int n), none]) (st' := [.int (-2)]) (g_c dX8_sheet_31 g_n) rfl rfl ?_
  refine V_iret C dX8_sheet_33 ?_
  exact ⟨rfl, rfl⟩
set_option maxHeartbeats 4000000 in
set_option maxRecDepth 100000 in
theorem c_X8_sheetBad (σ : gS) {t : Nat} (ht : t < 4) (so n : Int32) (hso : ¬ g_in so (-1) 2) : g_Met yX8_sheet cX8_sheet 5 (some .int) 3 kM [.ref 63, .int (nI t), .int so, .int n] σ (fun rv s => rv = some (.int (-2)) ∧ s = σ) := by
  have hin : g_in (nI t) 0 3 := g_inI (by have h3 : (3 : Int32).toInt = 3 := rfl; omega) (by omega)
  refine g_Met.of (own := 8) (L := [some (.ref 63), some (.int (nI t)), some (.int so), some (.int n), none]) (by decide) rfl rfl (fun ad => Nat.le_of_ble_eq_true rfl) (fun ad => rfl) (fun X G K C => ?_)
  refine V_blk C (pc' := 1) (σ' := σ) (L' := [some (.ref 63), some (.int (nI t)), some (.int so), some (.int n), none]) (st' := [.int (nI t)]) (g_c dX8_sheet_0 g_n) rfl rfl ?_
  refine V_callSI C cs_X8_354 (c_X8_isSheet σ (nI t)) (by decide) (by decide) (fun _ h => h) (As := [.int (nI t)]) (rest := []) rfl rfl (Nat.le_of_ble_eq_true rfl) dX8_sheet_1 ?_
  refine V_if_eq_b C (tgt := 31) dX8_sheet_4 (by decide) (fun h4 => absurd hin h4) (fun h4 => ?_)
  refine V_blk C (pc' := 15) (σ' := σ) (L' := [some (.ref 63), some (.int (nI t)), some (.int so), some (.int n), none]) (st' := [.long 2, .long (-1), .long (Int32.toInt64 so)]) (g_c dX8_sheet_7 (g_c dX8_sheet_8 (g_c dX8_sheet_9 (g_c dX8_sheet_12 g_n)))) rfl rfl ?_
  refine V_callSI C cs_X8_110 (c_X8_in32 σ so (-1) 2 (by decide) (by decide)) (by decide) (by decide) (fun _ h => h) (As := [.long (Int32.toInt64 so), .long (-1), .long 2]) (rest := []) rfl rfl (Nat.le_of_ble_eq_true rfl) dX8_sheet_15 ?_
  refine V_if_eq_b C (tgt := 31) dX8_sheet_18 (by decide) (fun h18 => ?_) (fun h18 => absurd h18 hso)
  refine V_blk C (pc' := 33) (σ' := σ) (L' := [some (.ref 63), some (.int (nI t)), some (.int so), some (.int n), none]) (st' := [.int (-2)]) (g_c dX8_sheet_31 g_n) rfl rfl ?_
  refine V_iret C dX8_sheet_33 ?_
  exact ⟨rfl, rfl⟩
set_option maxHeartbeats 4000000 in
set_option maxRecDepth 100000 in
theorem c_X8_sheetNone (σ : gS) {t : Nat} (ht : t < 4) (n : Int32) : g_Met yX8_sheet cX8_sheet 5 (some .int) 3 kM [.ref 63, .int (nI t), .int (-1), .int n] σ (fun rv s => rv = some (.int 1) ∧ s = (g_up (g_up (g_up σ 86 t 0) 87 t (-1)) 88 t n)) := by
  have hin : g_in (nI t) 0 3 := g_inI (by have h3 : (3 : Int32).toInt = 3 := rfl; omega) (by omega)
  refine g_Met.of (own := 8) (L := [some (.ref 63), some (.int (nI t)), some (.int (-1)), some (.int n), none]) (by decide) rfl rfl (fun ad => Nat.le_of_ble_eq_true rfl) (fun ad => rfl) (fun X G K C => ?_)
  refine V_blk C (pc' := 1) (σ' := σ) (L' := [some (.ref 63), some (.int (nI t)), some (.int (-1)), some (.int n), none]) (st' := [.int (nI t)]) (g_c dX8_sheet_0 g_n) rfl rfl ?_
  refine V_callSI C cs_X8_354 (c_X8_isSheet σ (nI t)) (by decide) (by decide) (fun _ h => h) (As := [.int (nI t)]) (rest := []) rfl rfl (Nat.le_of_ble_eq_true rfl) dX8_sheet_1 ?_
  refine V_if_eq_b C (tgt := 31) dX8_sheet_4 (by decide) (fun h4 => absurd hin h4) (fun h4 => ?_)
  refine V_blk C (pc' := 15) (σ' := σ) (L' := [some (.ref 63), some (.int (nI t)), some (.int (-1)), some (.int n), none]) (st' := [.long 2, .long (-1), .long (Int32.toInt64 (-1))]) (g_c dX8_sheet_7 (g_c dX8_sheet_8 (g_c dX8_sheet_9 (g_c dX8_sheet_12 g_n)))) rfl rfl ?_
  refine V_callSI C cs_X8_110 (c_X8_in32 σ (-1) (-1) 2 (by decide) (by decide)) (by decide) (by decide) (fun _ h => h) (As := [.long (Int32.toInt64 (-1)), .long (-1), .long 2]) (rest := []) rfl rfl (Nat.le_of_ble_eq_true rfl) dX8_sheet_15 ?_
  refine V_if_eq_b C (tgt := 31) dX8_sheet_18 (by decide) (fun z => absurd (by decide) z) (fun _ => ?_)
  refine V_blk C (pc' := 22) (σ' := σ) (L' := [some (.ref 63), some (.int (nI t)), some (.int (-1)), some (.int n), none]) (st' := [.int (-1)]) (g_c dX8_sheet_21 g_n) rfl rfl ?_
  refine V_if_lt C (tgt := 34) dX8_sheet_22 (by decide) (fun _ => ?_) (fun z => absurd z (by decide))
  refine V_blk C (pc' := 35) (σ' := σ) (L' := [some (.ref 63), some (.int (nI t)), some (.int (-1)), some (.int n), none]) (st' := [.int (-1)]) (g_c dX8_sheet_34 g_n) rfl rfl ?_
  refine V_if_lt C (tgt := 45) dX8_sheet_35 (by decide) (fun _ => ?_) (fun z => absurd z (by decide))
  refine V_blk C (pc' := 51) (σ' := σ) (L' := [some (.ref 63), some (.int (nI t)), some (.int (-1)), some (.int n), none]) (st' := [.int (-1), .int (nI t), .ref 86]) (g_c dX8_sheet_45 (g_c dX8_sheet_46 (g_c dX8_sheet_49 (g_c dX8_sheet_50 g_n)))) rfl rfl ?_
  refine V_if_lt C (tgt := 58) dX8_sheet_51 (by decide) (fun _ => ?_) (fun z => absurd z (by decide))
  refine V_blk C (pc' := 59) (σ' := σ) (L' := [some (.ref 63), some (.int (nI t)), some (.int (-1)), some (.int n), none]) (st' := [.int 0, .int (nI t), .ref 86]) (g_c dX8_sheet_58 g_n) rfl rfl ?_
  refine V_zastJ C (j := t) (k := 86) (n := 4) (by decide) (by rfl) (by rfl) rfl (by omega) dX8_sheet_59 ?_
  refine V_blk C (pc' := 66) (σ' := (g_up σ 86 t 0)) (L' := [some (.ref 63), some (.int (nI t)), some (.int (-1)), some (.int n), none]) (st' := [.int (-1), .int (nI t), .ref 87]) (g_c dX8_sheet_60 (g_c dX8_sheet_61 (g_c dX8_sheet_64 (g_c dX8_sheet_65 g_n)))) rfl rfl ?_
  refine V_iastJ C (j := t) (k := 87) (n := 4) (by rfl) (by rfl) rfl (by omega) dX8_sheet_66 ?_
  refine V_blk C (pc' := 73) (σ' := (g_up (g_up σ 86 t 0) 87 t (-1))) (L' := [some (.ref 63), some (.int (nI t)), some (.int (-1)), some (.int n), none]) (st' := [.int n, .int (nI t), .ref 88]) (g_c dX8_sheet_67 (g_c dX8_sheet_68 (g_c dX8_sheet_71 (g_c dX8_sheet_72 g_n)))) rfl rfl ?_
  refine V_iastJ C (j := t) (k := 88) (n := 4) (by rfl) (by rfl) rfl (by omega) dX8_sheet_73 ?_
  refine V_blk C (pc' := 80) (σ' := (g_up (g_up (g_up σ 86 t 0) 87 t (-1)) 88 t n)) (L' := [some (.ref 63), some (.int (nI t)), some (.int (-1)), some (.int n), some (.int 0)]) (st' := [.int n, .int 0]) (g_c dX8_sheet_74 (g_c dX8_sheet_75 (g_c dX8_sheet_77 (g_c dX8_sheet_79 g_n)))) rfl rfl ?_
  refine V_icmp_ge2 C (tgt := 106) dX8_sheet_80 (by decide) (fun h80 => ?_) (fun h80 => ?_)
  · skip
    refine V_blk C (pc' := 107) (σ' := (g_up (g_up (g_up σ 86 t 0) 87 t (-1)) 88 t n)) (L' := [some (.ref 63), some (.int (nI t)), some (.int (-1)), some (.int n), some (.int 0)]) (st' := [.int 1]) (g_c dX8_sheet_106 g_n) rfl rfl ?_
    refine V_iret C dX8_sheet_107 ?_
    exact ⟨rfl, rfl⟩
  · skip
    refine V_blk C (pc' := 84) (σ' := (g_up (g_up (g_up σ 86 t 0) 87 t (-1)) 88 t n)) (L' := [some (.ref 63), some (.int (nI t)), some (.int (-1)), some (.int n), some (.int 0)]) (st' := [.int (-1)]) (g_c dX8_sheet_83 g_n) rfl rfl ?_
    refine V_if_lt C (tgt := 106) dX8_sheet_84 (by decide) (fun _ => ?_) (fun z => absurd z (by decide))
    refine V_blk C (pc' := 107) (σ' := (g_up (g_up (g_up σ 86 t 0) 87 t (-1)) 88 t n)) (L' := [some (.ref 63), some (.int (nI t)), some (.int (-1)), some (.int n), some (.int 0)]) (st' := [.int 1]) (g_c dX8_sheet_106 g_n) rfl rfl ?_
    refine V_iret C dX8_sheet_107 ?_
    exact ⟨rfl, rfl⟩
set_option maxHeartbeats 4000000 in
set_option maxRecDepth 100000 in
theorem c_X8_sheetBig (σ : gS) {t : Nat} (ht : t < 4) (so n : Int32) (hso : g_in so (-1) 2) (h0 : ¬ so < 0) (hn : 40 < n ∨ n < 0) : g_Met yX8_sheet cX8_sheet 5 (some .int) 3 kM [.ref 63, .int (nI t), .int so, .int n] σ (fun rv s => rv = some (.int (if 40 < n then (-2) else (-14))) ∧ s = σ) := by
  have hin : g_in (nI t) 0 3 := g_inI (by have h3 : (3 : Int32).toInt = 3 := rfl; omega) (by omega)
  refine g_Met.of (own := 8) (L := [some (.ref 63), some (.int (nI t)), some (.int so), some (.int n), none]) (by decide) rfl rfl (fun ad => Nat.le_of_ble_eq_true rfl) (fun ad => rfl) (fun X G K C => ?_)
  refine V_blk C (pc' := 1) (σ' := σ) (L' := [some (.ref 63), some (.int (nI t)), some (.int so), some (.int n), none]) (st' := [.int (nI t)]) (g_c dX8_sheet_0 g_n) rfl rfl ?_
  refine V_callSI C cs_X8_354 (c_X8_isSheet σ (nI t)) (by decide) (by decide) (fun _ h => h) (As := [.int (nI t)]) (rest := []) rfl rfl (Nat.le_of_ble_eq_true rfl) dX8_sheet_1 ?_
  refine V_if_eq_b C (tgt := 31) dX8_sheet_4 (by decide) (fun h4 => absurd hin h4) (fun h4 => ?_)
  refine V_blk C (pc' := 15) (σ' := σ) (L' := [some (.ref 63), some (.int (nI t)), some (.int so), some (.int n), none]) (st' := [.long 2, .long (-1), .long (Int32.toInt64 so)]) (g_c dX8_sheet_7 (g_c dX8_sheet_8 (g_c dX8_sheet_9 (g_c dX8_sheet_12 g_n)))) rfl rfl ?_
  refine V_callSI C cs_X8_110 (c_X8_in32 σ so (-1) 2 (by decide) (by decide)) (by decide) (by decide) (fun _ h => h) (As := [.long (Int32.toInt64 so), .long (-1), .long 2]) (rest := []) rfl rfl (Nat.le_of_ble_eq_true rfl) dX8_sheet_15 ?_
  refine V_if_eq_b C (tgt := 31) dX8_sheet_18 (by decide) (fun h18 => absurd hso h18) (fun h18 => ?_)
  refine V_blk C (pc' := 22) (σ' := σ) (L' := [some (.ref 63), some (.int (nI t)), some (.int so), some (.int n), none]) (st' := [.int so]) (g_c dX8_sheet_21 g_n) rfl rfl ?_
  refine V_if_lt C (tgt := 34) dX8_sheet_22 (by decide) (fun h22 => absurd h22 h0) (fun h22 => ?_)
  refine V_blk C (pc' := 28) (σ' := σ) (L' := [some (.ref 63), some (.int (nI t)), some (.int so), some (.int n), none]) (st' := [.int 40, .int n]) (g_c dX8_sheet_25 (g_c dX8_sheet_26 g_n)) rfl rfl ?_
  refine V_icmp_le2 C (tgt := 34) dX8_sheet_28 (by decide) (fun h28 => ?_) (fun h28 => ?_)
  · skip
    refine V_blk C (pc' := 35) (σ' := σ) (L' := [some (.ref 63), some (.int (nI t)), some (.int so), some (.int n), none]) (st' := [.int so]) (g_c dX8_sheet_34 g_n) rfl rfl ?_
    refine V_if_lt C (tgt := 45) dX8_sheet_35 (by decide) (fun h35 => absurd h35 h0) (fun h35 => ?_)
    refine V_blk C (pc' := 39) (σ' := σ) (L' := [some (.ref 63), some (.int (nI t)), some (.int so), some (.int n), none]) (st' := [.int n]) (g_c dX8_sheet_38 g_n) rfl rfl ?_
    refine V_if_ge2 C (tgt := 45) dX8_sheet_39 (by decide) (fun h39 => ?_) (fun h39 => ?_)
    · skip
      exact absurd hn (fun z => z.elim h28 h39)
    · skip
      refine V_blk C (pc' := 44) (σ' := σ) (L' := [some (.ref 63), some (.int (nI t)), some (.int so), some (.int n), none]) (st' := [.int (-14)]) (g_c dX8_sheet_42 g_n) rfl rfl ?_
      refine V_iret C dX8_sheet_44 ?_
      exact ⟨by rw [if_neg (fun z => h28 z)], rfl⟩
  · skip
    refine V_blk C (pc' := 33) (σ' := σ) (L' := [some (.ref 63), some (.int (nI t)), some (.int so), some (.int n), none]) (st' := [.int (-2)]) (g_c dX8_sheet_31 g_n) rfl rfl ?_
    refine V_iret C dX8_sheet_33 ?_
    exact ⟨by rw [if_pos h28], rfl⟩
theorem g_im {t v m : Nat} (ht : t < 4) (hv : v < m) (hm : m ≤ 40) : vp_in (40 * nI t + nI v) 160 ∧ ((40 : Int32) * nI t + nI v).toNatClampNeg = 40 * t + v := by
  have e : (40 : Int32) * nI t = nI (40 * t) := pk_mul 40 t
  rw [e, nI_add]
  exact ⟨vp_in_nI (by omega) (by omega), nI_clamp (by omega)⟩
set_option maxHeartbeats 4000000 in
set_option maxRecDepth 100000 in
theorem lp_sheet {X : gX} {G : gG} {K : List Nat} {σ : gS} {t m : Nat} (ht : t < 4) (hm : m ≤ 40) {so : Int32} (h0 : ¬ so < 0)  (C : gC X G K kM 5 cX8_sheet (g_RX 8) (some .int) 3) : ∀ (k : Nat) (v : Nat) (s : gS), (v + k = m) → ((∀ a, a ≠ 89 → s a = σ a) ∧ (∀ j, (j < 40 * t ∨ 40 * t + m ≤ j) → s 89 j = σ 89 j) ∧ ∀ b, b < v → s 89 (40 * t + b) = 0) → gV X G K 5 (fun rv s => rv = some (.int 1) ∧ (∀ a, a ≠ 89 → s a = σ a) ∧ (∀ j, (j < 40 * t ∨ 40 * t + m ≤ j) → s 89 j = σ 89 j) ∧ ∀ b, b < m → s 89 (40 * t + b) = 0) s [some (.ref 63), some (.int (nI t)), some (.int so), some (.int (nI m)), some (.int (nI v))] [] 77 := by
  intro k
  induction k with
  | zero =>
    intro v s hk hs
    have hlt : ¬ nI v < nI m := nI_nltL (by omega) (by omega)
    refine V_blk C (pc' := 80) (σ' := s) (L' := [some (.ref 63), some (.int (nI t)), some (.int so), some (.int (nI m)), some (.int (nI v))]) (st' := [.int (nI m), .int (nI v)]) (g_c dX8_sheet_77 (g_c dX8_sheet_79 g_n)) rfl rfl ?_
    refine V_icmp_ge2 C (tgt := 106) dX8_sheet_80 (by decide) (fun h80 => ?_) (fun h80 => absurd h80 hlt)
    refine V_blk C (pc' := 107) (σ' := s) (L' := [some (.ref 63), some (.int (nI t)), some (.int so), some (.int (nI m)), some (.int (nI v))]) (st' := [.int 1]) (g_c dX8_sheet_106 g_n) rfl rfl ?_
    refine V_iret C dX8_sheet_107 ?_
    exact ⟨rfl, hs.1, hs.2.1, fun b hb => hs.2.2 b (by omega)⟩
  | succ k ih =>
    intro v s hk hs
    have hlt : nI v < nI m := nI_ltL (by omega) (by omega)
    have hg := g_im (t := t) (v := v) (m := m) ht (by omega) hm
    refine V_blk C (pc' := 80) (σ' := s) (L' := [some (.ref 63), some (.int (nI t)), some (.int so), some (.int (nI m)), some (.int (nI v))]) (st' := [.int (nI m), .int (nI v)]) (g_c dX8_sheet_77 (g_c dX8_sheet_79 g_n)) rfl rfl ?_
    refine V_icmp_ge2 C (tgt := 106) dX8_sheet_80 (by decide) (fun h80 => absurd hlt h80) (fun h80 => ?_)
    refine V_blk C (pc' := 84) (σ' := s) (L' := [some (.ref 63), some (.int (nI t)), some (.int so), some (.int (nI m)), some (.int (nI v))]) (st' := [.int so]) (g_c dX8_sheet_83 g_n) rfl rfl ?_
    refine V_if_lt C (tgt := 106) dX8_sheet_84 (by decide) (fun h84 => absurd h84 h0) (fun h84 => ?_)
    refine V_blk C (pc' := 99) (σ' := s) (L' := [some (.ref 63), some (.int (nI t)), some (.int so), some (.int (nI m)), some (.int (nI v))]) (st' := [.int 0, .int ((40 * (nI t)) + (nI v)), .ref 89]) (g_c dX8_sheet_87 (g_c dX8_sheet_88 (g_c dX8_sheet_91 (g_c dX8_sheet_93 (g_c dX8_sheet_94 (g_c dX8_sheet_95 (g_c dX8_sheet_97 (g_c dX8_sheet_98 g_n)))))))) rfl rfl ?_
    refine V_iast C (k := 89) (n := 160) (by rfl) (by rfl) hg.1 dX8_sheet_99 ?_
    refine V_blk C (pc' := 103) (σ' := (g_up s 89 (Int32.toNatClampNeg ((40 * (nI t)) + (nI v))) 0)) (L' := [some (.ref 63), some (.int (nI t)), some (.int so), some (.int (nI m)), some (.int ((nI v) + 1))]) (st' := []) (g_c dX8_sheet_100 g_n) rfl rfl ?_
    refine V_goto C (tgt := 77) dX8_sheet_103 (by decide) ?_
    refine V_eq rfl (by rw [nI_1]) rfl (ih (v + 1) (g_up s 89 (Int32.toNatClampNeg ((40 * (nI t)) + (nI v))) 0) (by omega) ⟨fun a ha => (g_up_ne ha).trans (hs.1 a ha), fun j hj => ?_, fun b hb => ?_⟩)
    · rw [g_up_same]; simp only [hg.2]; rw [if_neg (by omega)]; exact hs.2.1 j hj
    · rw [g_up_same]; simp only [hg.2]
      by_cases hbv : b = v
      · simp [hbv]
      · rw [if_neg (by omega)]; exact hs.2.2 b (by omega)
set_option maxHeartbeats 4000000 in
set_option maxRecDepth 100000 in
theorem c_X8_sheetOk (σ : gS) {t m : Nat} (ht : t < 4) (hm : m ≤ 40) (so : Int32) (hso : g_in so (-1) 2) (h0 : ¬ so < 0) : g_Met yX8_sheet cX8_sheet 5 (some .int) 3 kM [.ref 63, .int (nI t), .int so, .int (nI m)] σ (fun rv s => rv = some (.int 1) ∧ (∀ a, a ≠ 89 → s a = (g_up (g_up (g_up σ 86 t 1) 87 t so) 88 t (nI m)) a) ∧ (∀ j, (j < 40 * t ∨ 40 * t + m ≤ j) → s 89 j = σ 89 j) ∧ ∀ b, b < m → s 89 (40 * t + b) = 0) := by
  have hin : g_in (nI t) 0 3 := g_inI (by have h3 : (3 : Int32).toInt = 3 := rfl; omega) (by omega)
  have hm40 : ¬ 40 < nI m := nI_nltL (a := 40) (b := m) (by omega) (by omega)
  have hm0 : ¬ nI m < 0 := nI_pos (by omega)
  refine g_Met.of (own := 8) (L := [some (.ref 63), some (.int (nI t)), some (.int so), some (.int (nI m)), none]) (by decide) rfl rfl (fun ad => Nat.le_of_ble_eq_true rfl) (fun ad => rfl) (fun X G K C => ?_)
  refine V_blk C (pc' := 1) (σ' := σ) (L' := [some (.ref 63), some (.int (nI t)), some (.int so), some (.int (nI m)), none]) (st' := [.int (nI t)]) (g_c dX8_sheet_0 g_n) rfl rfl ?_
  refine V_callSI C cs_X8_354 (c_X8_isSheet σ (nI t)) (by decide) (by decide) (fun _ h => h) (As := [.int (nI t)]) (rest := []) rfl rfl (Nat.le_of_ble_eq_true rfl) dX8_sheet_1 ?_
  refine V_if_eq_b C (tgt := 31) dX8_sheet_4 (by decide) (fun h4 => absurd hin h4) (fun h4 => ?_)
  refine V_blk C (pc' := 15) (σ' := σ) (L' := [some (.ref 63), some (.int (nI t)), some (.int so), some (.int (nI m)), none]) (st' := [.long 2, .long (-1), .long (Int32.toInt64 so)]) (g_c dX8_sheet_7 (g_c dX8_sheet_8 (g_c dX8_sheet_9 (g_c dX8_sheet_12 g_n)))) rfl rfl ?_
  refine V_callSI C cs_X8_110 (c_X8_in32 σ so (-1) 2 (by decide) (by decide)) (by decide) (by decide) (fun _ h => h) (As := [.long (Int32.toInt64 so), .long (-1), .long 2]) (rest := []) rfl rfl (Nat.le_of_ble_eq_true rfl) dX8_sheet_15 ?_
  refine V_if_eq_b C (tgt := 31) dX8_sheet_18 (by decide) (fun h18 => absurd hso h18) (fun h18 => ?_)
  refine V_blk C (pc' := 22) (σ' := σ) (L' := [some (.ref 63), some (.int (nI t)), some (.int so), some (.int (nI m)), none]) (st' := [.int so]) (g_c dX8_sheet_21 g_n) rfl rfl ?_
  refine V_if_lt C (tgt := 34) dX8_sheet_22 (by decide) (fun h22 => absurd h22 h0) (fun h22 => ?_)
  refine V_blk C (pc' := 28) (σ' := σ) (L' := [some (.ref 63), some (.int (nI t)), some (.int so), some (.int (nI m)), none]) (st' := [.int 40, .int (nI m)]) (g_c dX8_sheet_25 (g_c dX8_sheet_26 g_n)) rfl rfl ?_
  refine V_icmp_le2 C (tgt := 34) dX8_sheet_28 (by decide) (fun h28 => ?_) (fun h28 => absurd h28 hm40)
  refine V_blk C (pc' := 35) (σ' := σ) (L' := [some (.ref 63), some (.int (nI t)), some (.int so), some (.int (nI m)), none]) (st' := [.int so]) (g_c dX8_sheet_34 g_n) rfl rfl ?_
  refine V_if_lt C (tgt := 45) dX8_sheet_35 (by decide) (fun h35 => absurd h35 h0) (fun h35 => ?_)
  refine V_blk C (pc' := 39) (σ' := σ) (L' := [some (.ref 63), some (.int (nI t)), some (.int so), some (.int (nI m)), none]) (st' := [.int (nI m)]) (g_c dX8_sheet_38 g_n) rfl rfl ?_
  refine V_if_ge2 C (tgt := 45) dX8_sheet_39 (by decide) (fun h39 => ?_) (fun h39 => absurd h39 hm0)
  refine V_blk C (pc' := 51) (σ' := σ) (L' := [some (.ref 63), some (.int (nI t)), some (.int so), some (.int (nI m)), none]) (st' := [.int so, .int (nI t), .ref 86]) (g_c dX8_sheet_45 (g_c dX8_sheet_46 (g_c dX8_sheet_49 (g_c dX8_sheet_50 g_n)))) rfl rfl ?_
  refine V_if_lt C (tgt := 58) dX8_sheet_51 (by decide) (fun h51 => absurd h51 h0) (fun h51 => ?_)
  refine V_blk C (pc' := 55) (σ' := σ) (L' := [some (.ref 63), some (.int (nI t)), some (.int so), some (.int (nI m)), none]) (st' := [.int 1, .int (nI t), .ref 86]) (g_c dX8_sheet_54 g_n) rfl rfl ?_
  refine V_goto C (tgt := 59) dX8_sheet_55 (by decide) ?_
  refine V_zastJ C (j := t) (k := 86) (n := 4) (by decide) (by rfl) (by rfl) rfl (by omega) dX8_sheet_59 ?_
  refine V_blk C (pc' := 66) (σ' := (g_up σ 86 t 1)) (L' := [some (.ref 63), some (.int (nI t)), some (.int so), some (.int (nI m)), none]) (st' := [.int so, .int (nI t), .ref 87]) (g_c dX8_sheet_60 (g_c dX8_sheet_61 (g_c dX8_sheet_64 (g_c dX8_sheet_65 g_n)))) rfl rfl ?_
  refine V_iastJ C (j := t) (k := 87) (n := 4) (by rfl) (by rfl) rfl (by omega) dX8_sheet_66 ?_
  refine V_blk C (pc' := 73) (σ' := (g_up (g_up σ 86 t 1) 87 t so)) (L' := [some (.ref 63), some (.int (nI t)), some (.int so), some (.int (nI m)), none]) (st' := [.int (nI m), .int (nI t), .ref 88]) (g_c dX8_sheet_67 (g_c dX8_sheet_68 (g_c dX8_sheet_71 (g_c dX8_sheet_72 g_n)))) rfl rfl ?_
  refine V_iastJ C (j := t) (k := 88) (n := 4) (by rfl) (by rfl) rfl (by omega) dX8_sheet_73 ?_
  refine V_blk C (pc' := 77) (σ' := (g_up (g_up (g_up σ 86 t 1) 87 t so) 88 t (nI m))) (L' := [some (.ref 63), some (.int (nI t)), some (.int so), some (.int (nI m)), some (.int 0)]) (st' := []) (g_c dX8_sheet_74 (g_c dX8_sheet_75 g_n)) rfl rfl ?_
  exact lp_sheet (σ := (g_up (g_up (g_up σ 86 t 1) 87 t so) 88 t (nI m))) ht hm h0 C m 0 _ (by omega) ⟨fun _ _ => rfl, fun _ _ => rfl, fun b hb => absurd hb (by omega)⟩
