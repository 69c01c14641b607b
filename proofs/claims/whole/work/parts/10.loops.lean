/-! LOOPS: vesselOn, put, the sheets, copies -/
def g_fd (P : Nat → Bool) : Nat → Nat → Int32
  | 0, _ => -1
  | k + 1, i => if P i = true then nI i else g_fd P k (i + 1)
def g_ex (P : Nat → Bool) : Nat → Nat → Bool
  | 0, _ => false
  | k + 1, i => P i || g_ex P k (i + 1)
theorem nI_ltL {a b : Nat} (h : a < b) (hb : b ≤ 1000000) : nI a < nI b := nI_lt h (by omega)
theorem nI_nltL {a b : Nat} (h : b ≤ a) (ha : a ≤ 1000000) : ¬ nI a < nI b := nI_nlt h (by omega)
set_option maxHeartbeats 4000000 in
set_option maxRecDepth 100000 in
theorem lp_vesselOn {X : gX} {G : gG} {K : List Nat} {σ : gS} {place : Int32} {nv : Nat} (hv : σ 63 19 = nI nv) (hv5 : nv ≤ 5) {R : Int32}  (C : gC X G K kM 3 cX8_vesselOn (g_RX 8) (some .int) 3) : ∀ (k : Nat) (v : Nat), v + k = nv → g_fd (fun j => decide (σ 73 j = place)) k v = R → gV X G K 3 (fun rv s => rv = some (.int R) ∧ s = σ) σ [some (.ref 63), some (.int place), some (.int (nI v))] [] 2 := by
  intro k
  induction k with
  | zero =>
    intro v hk hR
    have hlt : ¬ nI v < σ 63 19 := by rw [hv]; exact nI_nltL (by omega) (by omega)
    refine V_blk C (pc' := 7) (σ' := σ) (L' := [some (.ref 63), some (.int place), some (.int (nI v))]) (st' := [.int (σ 63 19), .int (nI v)]) (g_c dX8_vesselOn_2 (g_c dX8_vesselOn_3 (g_c dX8_vesselOn_4 g_n))) rfl rfl ?_
    refine V_icmp_ge2 C (tgt := 28) dX8_vesselOn_7 (by decide) (fun h7 => ?_) (fun h7 => absurd h7 hlt)
    refine V_blk C (pc' := 29) (σ' := σ) (L' := [some (.ref 63), some (.int place), some (.int (nI v))]) (st' := [.int (-1)]) (g_c dX8_vesselOn_28 g_n) rfl rfl ?_
    refine V_iret C dX8_vesselOn_29 ?_
    exact ⟨by rw [← hR]; rfl, rfl⟩
  | succ k ih =>
    intro v hk hR
    have hlt : nI v < σ 63 19 := by rw [hv]; exact nI_ltL (by omega) (by omega)
    refine V_blk C (pc' := 7) (σ' := σ) (L' := [some (.ref 63), some (.int place), some (.int (nI v))]) (st' := [.int (σ 63 19), .int (nI v)]) (g_c dX8_vesselOn_2 (g_c dX8_vesselOn_3 (g_c dX8_vesselOn_4 g_n))) rfl rfl ?_
    refine V_icmp_ge2 C (tgt := 28) dX8_vesselOn_7 (by decide) (fun h7 => absurd hlt h7) (fun h7 => ?_)
    refine V_blk C (pc' := 15) (σ' := σ) (L' := [some (.ref 63), some (.int place), some (.int (nI v))]) (st' := [.int (nI v), .ref 73]) (g_c dX8_vesselOn_10 (g_c dX8_vesselOn_11 (g_c dX8_vesselOn_14 g_n))) rfl rfl ?_
    refine V_ialdJ C (j := v) (k := 73) (n := 5) (by rfl) (by rfl) rfl (by omega) dX8_vesselOn_15 ?_
    refine V_blk C (pc' := 17) (σ' := σ) (L' := [some (.ref 63), some (.int place), some (.int (nI v))]) (st' := [.int place, .int (σ 73 v)]) (g_c dX8_vesselOn_16 g_n) rfl rfl ?_
    refine V_icmp_ne C (tgt := 22) dX8_vesselOn_17 (by decide) (fun h17 => ?_) (fun h17 => ?_)
    · skip
      refine V_blk C (pc' := 25) (σ' := σ) (L' := [some (.ref 63), some (.int place), some (.int ((nI v) + 1))]) (st' := []) (g_c dX8_vesselOn_22 g_n) rfl rfl ?_
      refine V_goto C (tgt := 2) dX8_vesselOn_25 (by decide) ?_
      refine V_eq rfl (by rw [nI_1]) rfl (ih (v + 1) (by omega) (by rw [← hR, g_fd, if_neg (by simpa using h17)]))
    · skip
      refine V_blk C (pc' := 21) (σ' := σ) (L' := [some (.ref 63), some (.int place), some (.int (nI v))]) (st' := [.int (nI v)]) (g_c dX8_vesselOn_20 g_n) rfl rfl ?_
      refine V_iret C dX8_vesselOn_21 ?_
      exact ⟨by rw [← hR, g_fd, if_pos (by simpa using h17)], rfl⟩
set_option maxHeartbeats 4000000 in
set_option maxRecDepth 100000 in
theorem c_X8_vesselOn (σ : gS) (place : Int32) {nv : Nat} (hv : σ 63 19 = nI nv) (hv5 : nv ≤ 5) : g_Met yX8_vesselOn cX8_vesselOn 3 (some .int) 3 kM [.ref 63, .int place] σ (fun rv s => rv = some (.int (g_fd (fun j => decide (σ 73 j = place)) nv 0)) ∧ s = σ) := by
  refine g_Met.of (own := 8) (L := [some (.ref 63), some (.int place), none]) (by decide) rfl rfl (fun ad => Nat.le_of_ble_eq_true rfl) (fun ad => rfl) (fun X G K C => ?_)
  refine V_blk C (pc' := 2) (σ' := σ) (L' := [some (.ref 63), some (.int place), some (.int 0)]) (st' := []) (g_c dX8_vesselOn_0 (g_c dX8_vesselOn_1 g_n)) rfl rfl ?_
  exact lp_vesselOn hv hv5 C nv 0 (by omega) rfl
set_option maxHeartbeats 4000000 in
set_option maxRecDepth 100000 in
theorem lp_put {X : gX} {G : gG} {K : List Nat} {σ : gS} {vessel place : Int32} (hvs : vp_in vessel 5) {nv : Nat} (hv : σ 1 9 = nI nv) (hv5 : nv ≤ 5) {R : Bool}  (C : gC X G K kX 4 cX7_put (g_RX 7) (some .int) 4) : ∀ (k : Nat) (v : Nat), v + k = nv → g_ex (fun j => decide (¬ nI j = vessel) && (decide (¬ place = -1) && decide (σ 8 j = place))) k v = R → gV X G K 4 (fun rv s => rv = some (.int (if R = true then -3 else σ 8 (ix vessel))) ∧ s = if R = true then σ else g_up σ 8 (ix vessel) place) σ [some (.ref 0), some (.int vessel), some (.int place), some (.int (nI v))] [] 25 := by
  intro k
  induction k with
  | zero =>
    intro v hk hR
    have hlt : ¬ nI v < σ 1 9 := by rw [hv]; exact nI_nltL (by omega) (by omega)
    refine V_blk C (pc' := 33) (σ' := σ) (L' := [some (.ref 0), some (.int vessel), some (.int place), some (.int (nI v))]) (st' := [.int (σ 1 9), .int (nI v)]) (g_c dX7_put_25 (g_c dX7_put_26 (g_c dX7_put_27 (g_c dX7_put_30 g_n)))) rfl rfl ?_
    refine V_icmp_ge2 C (tgt := 73) dX7_put_33 (by decide) (fun h33 => ?_) (fun h33 => absurd h33 hlt)
    refine V_blk C (pc' := 82) (σ' := σ) (L' := [some (.ref 0), some (.int vessel), some (.int place), some (.int (nI v))]) (st' := [.int place, .int vessel, .ref 8]) (g_c dX7_put_73 (g_c dX7_put_74 (g_c dX7_put_77 (g_c dX7_put_80 (g_c dX7_put_81 g_n))))) rfl rfl ?_
    refine V_callSI C cs_X7_95 (c_X7_swapped_8 σ vessel place hvs) (by decide) (by decide) (fun _ h => h) (As := [.ref 8, .int vessel, .int place]) (rest := []) rfl rfl (by decide) dX7_put_82 ?_
    refine V_iret C dX7_put_85 ?_
    have hR2 : R = false := hR.symm
    subst hR2
    exact ⟨rfl, rfl⟩
  | succ k ih =>
    intro v hk hR
    have hlt : nI v < σ 1 9 := by rw [hv]; exact nI_ltL (by omega) (by omega)
    have hl5 : nI v < 5 := nI_ltL (b := 5) (by omega) (by omega)
    refine V_blk C (pc' := 33) (σ' := σ) (L' := [some (.ref 0), some (.int vessel), some (.int place), some (.int (nI v))]) (st' := [.int (σ 1 9), .int (nI v)]) (g_c dX7_put_25 (g_c dX7_put_26 (g_c dX7_put_27 (g_c dX7_put_30 g_n)))) rfl rfl ?_
    refine V_icmp_ge2 C (tgt := 73) dX7_put_33 (by decide) (fun h33 => absurd hlt h33) (fun h33 => ?_)
    refine V_blk C (pc' := 38) (σ' := σ) (L' := [some (.ref 0), some (.int vessel), some (.int place), some (.int (nI v))]) (st' := [.int 5, .int (nI v)]) (g_c dX7_put_36 (g_c dX7_put_37 g_n)) rfl rfl ?_
    refine V_icmp_ge2 C (tgt := 73) dX7_put_38 (by decide) (fun h38 => absurd hl5 h38) (fun h38 => ?_)
    refine V_blk C (pc' := 43) (σ' := σ) (L' := [some (.ref 0), some (.int vessel), some (.int place), some (.int (nI v))]) (st' := [.int vessel, .int (nI v)]) (g_c dX7_put_41 (g_c dX7_put_42 g_n)) rfl rfl ?_
    refine V_icmp_eq C (tgt := 67) dX7_put_43 (by decide) (fun h43 => ?_) (fun h43 => ?_)
    · skip
      refine V_blk C (pc' := 70) (σ' := σ) (L' := [some (.ref 0), some (.int vessel), some (.int place), some (.int ((nI v) + 1))]) (st' := []) (g_c dX7_put_67 g_n) rfl rfl ?_
      refine V_goto C (tgt := 25) dX7_put_70 (by decide) ?_
      refine V_eq rfl (by rw [nI_1]) rfl (ih (v + 1) (by omega) ?_)
      rw [← hR, g_ex]
      simp [*]
    · skip
      refine V_blk C (pc' := 48) (σ' := σ) (L' := [some (.ref 0), some (.int vessel), some (.int place), some (.int (nI v))]) (st' := [.int (-1), .int place]) (g_c dX7_put_46 (g_c dX7_put_47 g_n)) rfl rfl ?_
      refine V_icmp_eq C (tgt := 67) dX7_put_48 (by decide) (fun h48 => ?_) (fun h48 => ?_)
      · skip
        refine V_blk C (pc' := 70) (σ' := σ) (L' := [some (.ref 0), some (.int vessel), some (.int place), some (.int ((nI v) + 1))]) (st' := []) (g_c dX7_put_67 g_n) rfl rfl ?_
        refine V_goto C (tgt := 25) dX7_put_70 (by decide) ?_
        refine V_eq rfl (by rw [nI_1]) rfl (ih (v + 1) (by omega) ?_)
        rw [← hR, g_ex]
        simp [*]
      · skip
        refine V_blk C (pc' := 59) (σ' := σ) (L' := [some (.ref 0), some (.int vessel), some (.int place), some (.int (nI v))]) (st' := [.int (nI v), .ref 8]) (g_c dX7_put_51 (g_c dX7_put_52 (g_c dX7_put_55 (g_c dX7_put_58 g_n)))) rfl rfl ?_
        refine V_ialdJ C (j := v) (k := 8) (n := 5) (by rfl) (by rfl) rfl (by omega) dX7_put_59 ?_
        refine V_blk C (pc' := 61) (σ' := σ) (L' := [some (.ref 0), some (.int vessel), some (.int place), some (.int (nI v))]) (st' := [.int place, .int (σ 8 v)]) (g_c dX7_put_60 g_n) rfl rfl ?_
        refine V_icmp_ne C (tgt := 67) dX7_put_61 (by decide) (fun h61 => ?_) (fun h61 => ?_)
        · skip
          refine V_blk C (pc' := 70) (σ' := σ) (L' := [some (.ref 0), some (.int vessel), some (.int place), some (.int ((nI v) + 1))]) (st' := []) (g_c dX7_put_67 g_n) rfl rfl ?_
          refine V_goto C (tgt := 25) dX7_put_70 (by decide) ?_
          refine V_eq rfl (by rw [nI_1]) rfl (ih (v + 1) (by omega) ?_)
          rw [← hR, g_ex]
          simp [*]
        · skip
          refine V_blk C (pc' := 66) (σ' := σ) (L' := [some (.ref 0), some (.int vessel), some (.int place), some (.int (nI v))]) (st' := [.int (-3)]) (g_c dX7_put_64 g_n) rfl rfl ?_
          refine V_iret C dX7_put_66 ?_
          have hR2 : R = true := by rw [← hR, g_ex]; simp [*]
          subst hR2
          exact ⟨rfl, rfl⟩
set_option maxHeartbeats 4000000 in
set_option maxRecDepth 100000 in
theorem c_X7_put (σ : gS) (vessel place : Int32) {nv : Nat} (hv : σ 1 9 = nI nv) (hv5 : nv ≤ 5) : g_Met yX7_put cX7_put 4 (some .int) 4 kX [.ref 0, .int vessel, .int place] σ (fun rv s => rv = some (.int (if g_in vessel 0 ((σ 1 9) - 1) then (if place = -1 ∨ g_in place 0 7 then (if g_ex (fun j => decide (¬ nI j = vessel) && (decide (¬ place = -1) && decide (σ 8 j = place))) nv 0 = true then -3 else σ 8 (ix vessel)) else -2) else -2)) ∧ s = (if g_in vessel 0 ((σ 1 9) - 1) then (if place = -1 ∨ g_in place 0 7 then (if g_ex (fun j => decide (¬ nI j = vessel) && (decide (¬ place = -1) && decide (σ 8 j = place))) nv 0 = true then σ else g_up σ 8 (ix vessel) place) else σ) else σ)) := by
  refine g_Met.of (own := 7) (L := [some (.ref 0), some (.int vessel), some (.int place), none]) (by decide) rfl rfl (fun ad => Nat.le_of_ble_eq_true rfl) (fun ad => rfl) (fun X G K C => ?_)
  refine V_blk C (pc' := 2) (σ' := σ) (L' := [some (.ref 0), some (.int vessel), some (.int place), none]) (st' := [.int vessel, .ref 0]) (g_c dX7_put_0 (g_c dX7_put_1 g_n)) rfl rfl ?_
  refine V_callVI C cv_X7_139 (c_X7_isVessel σ vessel) ⟨_, _, _, _, rfl, rfl⟩ (by rfl) (by decide) (by decide) (fun _ h => h) (As := [.int vessel]) (rest := []) rfl rfl (by decide) dX7_put_2 ?_
  refine V_if_eq_b C (tgt := 20) dX7_put_5 (by decide) (fun h5 => ?_) (fun h5 => ?_)
  · skip
    refine V_blk C (pc' := 22) (σ' := σ) (L' := [some (.ref 0), some (.int vessel), some (.int place), none]) (st' := [.int (-2)]) (g_c dX7_put_20 g_n) rfl rfl ?_
    refine V_iret C dX7_put_22 ?_
    first | exact ⟨by rw [if_neg h5], by rw [if_neg h5]⟩ | exact ⟨by rw [if_pos h5, if_neg (fun z => z.elim h10 h17)], by rw [if_pos h5, if_neg (fun z => z.elim h10 h17)]⟩
  · skip
    refine V_blk C (pc' := 10) (σ' := σ) (L' := [some (.ref 0), some (.int vessel), some (.int place), none]) (st' := [.int (-1), .int place]) (g_c dX7_put_8 (g_c dX7_put_9 g_n)) rfl rfl ?_
    refine V_icmp_eq C (tgt := 23) dX7_put_10 (by decide) (fun h10 => ?_) (fun h10 => ?_)
    · skip
      refine V_blk C (pc' := 25) (σ' := σ) (L' := [some (.ref 0), some (.int vessel), some (.int place), some (.int 0)]) (st' := []) (g_c dX7_put_23 (g_c dX7_put_24 g_n)) rfl rfl ?_
      have hOr : place = -1 ∨ g_in place 0 7 := by first | exact Or.inl h10 | exact Or.inr h17
      have hl := lp_put (σ := σ) (vessel := vessel) (place := place) (g_vp h5 hv hv5 (by decide)) hv hv5 C nv 0 (by omega) rfl
      simp only [if_pos h5, if_pos hOr]
      exact hl
    · skip
      refine V_blk C (pc' := 14) (σ' := σ) (L' := [some (.ref 0), some (.int vessel), some (.int place), none]) (st' := [.int place]) (g_c dX7_put_13 g_n) rfl rfl ?_
      refine V_callSI C cs_X7_112 (c_X7_isPlace σ place) (by decide) (by decide) (fun _ h => h) (As := [.int place]) (rest := []) rfl rfl (by decide) dX7_put_14 ?_
      refine V_if_ne_b C (tgt := 23) dX7_put_17 (by decide) (fun h17 => ?_) (fun h17 => ?_)
      · skip
        refine V_blk C (pc' := 25) (σ' := σ) (L' := [some (.ref 0), some (.int vessel), some (.int place), some (.int 0)]) (st' := []) (g_c dX7_put_23 (g_c dX7_put_24 g_n)) rfl rfl ?_
        have hOr : place = -1 ∨ g_in place 0 7 := by first | exact Or.inl h10 | exact Or.inr h17
        have hl := lp_put (σ := σ) (vessel := vessel) (place := place) (g_vp h5 hv hv5 (by decide)) hv hv5 C nv 0 (by omega) rfl
        simp only [if_pos h5, if_pos hOr]
        exact hl
      · skip
        refine V_blk C (pc' := 22) (σ' := σ) (L' := [some (.ref 0), some (.int vessel), some (.int place), none]) (st' := [.int (-2)]) (g_c dX7_put_20 g_n) rfl rfl ?_
        refine V_iret C dX7_put_22 ?_
        first | exact ⟨by rw [if_neg h5], by rw [if_neg h5]⟩ | exact ⟨by rw [if_pos h5, if_neg (fun z => z.elim h10 h17)], by rw [if_pos h5, if_neg (fun z => z.elim h10 h17)]⟩
