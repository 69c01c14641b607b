/-! THE CLASS'S LEXER -/
theorem g_up_up (σ : gS) {k i j : Nat} (hij : i ≠ j) (x y x' y' : Int32) : g_up (g_up (g_up (g_up σ k i x) k j y) k i x') k j y' = g_up (g_up σ k i x') k j y' := by
  funext a b
  simp only [g_up]
  by_cases ha : a = k
  · subst ha
    simp only [if_true]
    by_cases hb : b = j
    · simp only [if_pos hb]
    · simp only [if_neg hb]
      by_cases hc : b = i
      · simp only [if_pos hc]
      · simp only [if_neg hc]
  · simp only [if_neg ha]
theorem g_up_id {σ : gS} {k j : Nat} {x : Int32} (h : σ k j = x) : g_up σ k j x = σ := by
  funext a b
  simp only [g_up]
  by_cases ha : a = k
  · subst ha
    simp only [if_true]
    by_cases hb : b = j
    · subst hb; simp [h]
    · simp only [if_neg hb]
  · simp only [if_neg ha]
theorem g_up_tw (σ : gS) (k j : Nat) (x y : Int32) : g_up (g_up σ k j x) k j y = g_up σ k j y := by
  funext a b
  simp only [g_up]
  by_cases ha : a = k
  · subst ha
    simp only [if_true]
    by_cases hb : b = j
    · simp only [if_pos hb]
    · simp only [if_neg hb]
  · simp only [if_neg ha]
set_option maxHeartbeats 4000000 in
set_option maxRecDepth 100000 in
theorem lp_nextNumber {X : gX} {G : gG} {K : List Nat} {Qp : Option Value → gS → Prop} {σ : gS} {n : Nat} (hn : σ 19 1 = nI n) (hn160 : n ≤ 160) {E : Nat} {R : Int32} (hx : gV X G K 2 Qp (g_up (g_up σ 19 7 R) 19 4 (nI E)) [some (.ref 19), none] [] 71) (C : gC X G K kR 2 cX2_nextNumber (g_RX 2) none 3) : ∀ (k : Nat) (v : Nat) (a : Nat) (V : Int32), (v + k = 160) → (a ≤ n) → (q_run (q_dig (q_l (σ 20) n)) k a = E) → (q_val (q_l (σ 20) n) (E - a) a V = R) → gV X G K 2 (Qp) (g_up (g_up σ 19 7 V) 19 4 (nI a)) [some (.ref 19), some (.int (nI v))] [] 7 := by
  intro k
  induction k with
  | zero =>
    intro v a V hk ha hE hR
    have hvn : v = 160 := by omega
    have hlt : ¬ nI v < 160 := by rw [hvn]; decide
    have hEa : a = E := hE
    subst hEa
    rw [Nat.sub_self, q_val] at hR
    subst hR
    refine V_blk C (pc' := 11) (σ' := (g_up (g_up σ 19 7 V) 19 4 (nI a))) (L' := [some (.ref 19), some (.int (nI v))]) (st' := [.int 160, .int (nI v)]) (g_c dX2_nextNumber_7 (g_c dX2_nextNumber_8 g_n)) rfl rfl ?_
    refine V_icmp_ge2 C (tgt := 71) dX2_nextNumber_11 (by decide) (fun h11 => ?_) (fun h11 => absurd h11 hlt)
    exact V_less (L' := [some (.ref 19), none]) (by simp [g_subL]) hx
  | succ k ih =>
    intro v a V hk ha hE hR
    have hlt : nI v < 160 := nI_ltL (b := 160) (by omega) (by omega)
    refine V_blk C (pc' := 11) (σ' := (g_up (g_up σ 19 7 V) 19 4 (nI a))) (L' := [some (.ref 19), some (.int (nI v))]) (st' := [.int 160, .int (nI v)]) (g_c dX2_nextNumber_7 (g_c dX2_nextNumber_8 g_n)) rfl rfl ?_
    refine V_icmp_ge2 C (tgt := 71) dX2_nextNumber_11 (by decide) (fun h11 => absurd hlt h11) (fun h11 => ?_)
    refine V_blk C (pc' := 19) (σ' := (g_up (g_up σ 19 7 V) 19 4 (nI a))) (L' := [some (.ref 19), some (.int (nI v))]) (st' := [.int (nI a), .ref 19]) (g_c dX2_nextNumber_14 (g_c dX2_nextNumber_15 (g_c dX2_nextNumber_16 g_n))) rfl rfl ?_
    refine V_callVI C cv_X2_91 (c_X2_letterAt (g_up (g_up σ 19 7 V) 19 4 (nI a)) (i := a) (by omega) hn hn160) ⟨_, _, _, _, rfl, rfl⟩ (by rfl) (by decide) (by decide) (fun _ h => h) (As := [.int (nI a)]) (rest := []) rfl rfl (Nat.le_of_ble_eq_true rfl) dX2_nextNumber_19 ?_
    refine V_blk C (pc' := 26) (σ' := (g_up (g_up σ 19 7 V) 19 4 (nI a))) (L' := [some (.ref 19), some (.int (nI v))]) (st' := [.int 57, .int 48, .int (q_l (σ 20) n a)]) (g_c dX2_nextNumber_22 (g_c dX2_nextNumber_24 g_n)) rfl rfl ?_
    refine V_callNI C cn_X2_21 (c_X7_isIn (g_up (g_up σ 19 7 V) 19 4 (nI a)) (q_l (σ 20) n a) 48 57) (by decide) (by decide) (fun _ h => h) (As := [.int (q_l (σ 20) n a), .int 48, .int 57]) (rest := []) rfl rfl (Nat.le_of_ble_eq_true rfl) dX2_nextNumber_26 ?_
    refine V_if_eq_b C (tgt := 71) dX2_nextNumber_29 (by decide) (fun h29 => ?_) (fun h29 => ?_)
    · skip
      have hd : q_dig (q_l (σ 20) n) a = false := decide_eq_false h29
      rw [q_run, if_neg (by rw [hd]; decide)] at hE
      subst hE
      rw [Nat.sub_self, q_val] at hR
      subst hR
      exact V_less (L' := [some (.ref 19), none]) (by simp [g_subL]) hx
    · skip
      refine V_blk C (pc' := 45) (σ' := (g_up (g_up σ 19 7 V) 19 4 (nI a))) (L' := [some (.ref 19), some (.int (nI v))]) (st' := [.int (nI a), .ref 19, .int (V * 10), .ref 19]) (g_c dX2_nextNumber_32 (g_c dX2_nextNumber_33 (g_c dX2_nextNumber_34 (g_c dX2_nextNumber_37 (g_c dX2_nextNumber_39 (g_c dX2_nextNumber_40 (g_c dX2_nextNumber_41 (g_c dX2_nextNumber_42 g_n)))))))) rfl rfl ?_
      refine V_callVI C cv_X2_91 (c_X2_letterAt (g_up (g_up σ 19 7 V) 19 4 (nI a)) (i := a) (by omega) hn hn160) ⟨_, _, _, _, rfl, rfl⟩ (by rfl) (by decide) (by decide) (fun _ h => h) (As := [.int (nI a)]) (rest := [.int (V * 10), .ref 19]) rfl rfl (Nat.le_of_ble_eq_true rfl) dX2_nextNumber_45 ?_
      refine V_blk C (pc' := 68) (σ' := (g_up (g_up (g_up (g_up σ 19 7 V) 19 4 (nI a)) 19 7 (((V * 10) + (q_l (σ 20) n a)) - 48)) 19 4 ((nI a) + 1))) (L' := [some (.ref 19), some (.int ((nI v) + 1))]) (st' := []) (g_c dX2_nextNumber_48 (g_c dX2_nextNumber_49 (g_c dX2_nextNumber_51 (g_c dX2_nextNumber_52 (g_c dX2_nextNumber_55 (g_c dX2_nextNumber_56 (g_c dX2_nextNumber_57 (g_c dX2_nextNumber_60 (g_c dX2_nextNumber_61 (g_c dX2_nextNumber_62 (g_c dX2_nextNumber_65 g_n))))))))))) rfl rfl ?_
      refine V_goto C (tgt := 7) dX2_nextNumber_68 (by decide) ?_
      have hd : q_dig (q_l (σ 20) n) a = true := decide_eq_true h29
      have han : a < n := by
        rcases Nat.lt_or_ge a n with q | q
        · exact q
        · rw [q_dig_out q] at hd; cases hd
      rw [q_run, if_pos hd] at hE
      have hge := q_run_ge (q_dig (q_l (σ 20) n)) k (a + 1)
      rw [hE] at hge
      rw [show E - a = (E - (a + 1)) + 1 by omega, q_val] at hR
      refine V_eq ((g_up_up σ (by decide) _ _ _ _).trans (by rw [nI_1])) (by rw [nI_1]) rfl (ih (v + 1) (a + 1) _ (by omega) (by omega) hE hR)
set_option maxHeartbeats 4000000 in
set_option maxRecDepth 100000 in
theorem c_X2_nextNumber (σ : gS) {n : Nat} (hn : σ 19 1 = nI n) (hn160 : n ≤ 160) {i : Nat} (hi : i ≤ n) (h4 : σ 19 4 = nI i) (h6 : σ 19 6 = nI i) : g_Met yX2_nextNumber cX2_nextNumber 2 none 3 kR [.ref 19] σ (fun rv s => rv = none ∧ s = g_up (g_up (g_up σ 19 7 (q_val (q_l (σ 20) n) ((q_run (q_dig (q_l (σ 20) n)) 160 i) - i) i 0)) 19 4 (nI (q_run (q_dig (q_l (σ 20) n)) 160 i))) 19 5 (if (q_run (q_dig (q_l (σ 20) n)) 160 i) - i ≤ 4 then 3 else 2)) := by
  refine g_Met.of (own := 2) (L := [some (.ref 19), none]) (by decide) rfl rfl (fun ad => Nat.le_of_ble_eq_true rfl) (fun ad => rfl) (fun X G K C => ?_)
  refine V_blk C (pc' := 7) (σ' := (g_up σ 19 7 0)) (L' := [some (.ref 19), some (.int 0)]) (st' := []) (g_c dX2_nextNumber_0 (g_c dX2_nextNumber_1 (g_c dX2_nextNumber_2 (g_c dX2_nextNumber_5 (g_c dX2_nextNumber_6 g_n))))) rfl rfl ?_
  have hle : (q_run (q_dig (q_l (σ 20) n)) 160 i) ≤ n := q_run_le (fun j => q_dig_out) 160 i hi
  have hge := q_run_ge (q_dig (q_l (σ 20) n)) 160 i
  have hsub : nI (q_run (q_dig (q_l (σ 20) n)) 160 i) - σ 19 6 = nI ((q_run (q_dig (q_l (σ 20) n)) 160 i) - i) := by rw [h6]; exact pk_sub hge
  refine V_eq (σ' := g_up (g_up σ 19 7 0) 19 4 (nI i)) (g_up_id (σ := g_up σ 19 7 0) (k := 19) (j := 4) (x := nI i) h4).symm rfl rfl (lp_nextNumber hn hn160 ?_ C 160 0 i 0 (by omega) hi rfl rfl)
  refine V_blk C (pc' := 82) (σ' := (g_up (g_up σ 19 7 (q_val (q_l (σ 20) n) ((q_run (q_dig (q_l (σ 20) n)) 160 i) - i) i 0)) 19 4 (nI (q_run (q_dig (q_l (σ 20) n)) 160 i)))) (L' := [some (.ref 19), none]) (st' := [.int 4, .int ((nI (q_run (q_dig (q_l (σ 20) n)) 160 i)) - (σ 19 6)), .ref 19]) (g_c dX2_nextNumber_71 (g_c dX2_nextNumber_72 (g_c dX2_nextNumber_73 (g_c dX2_nextNumber_76 (g_c dX2_nextNumber_77 (g_c dX2_nextNumber_80 (g_c dX2_nextNumber_81 g_n))))))) rfl rfl ?_
  refine V_icmp_gt C (tgt := 89) dX2_nextNumber_82 (by decide) (fun h82 => ?_) (fun h82 => ?_)
  · skip
    have hcmp : ¬ (q_run (q_dig (q_l (σ 20) n)) 160 i) - i ≤ 4 := fun z => by rw [hsub] at h82; exact nI_nltL (a := 4) z (by omega) h82
    refine V_blk C (pc' := 93) (σ' := (g_up (g_up (g_up σ 19 7 (q_val (q_l (σ 20) n) ((q_run (q_dig (q_l (σ 20) n)) 160 i) - i) i 0)) 19 4 (nI (q_run (q_dig (q_l (σ 20) n)) 160 i))) 19 5 2)) (L' := [some (.ref 19), none]) (st' := []) (g_c dX2_nextNumber_89 (g_c dX2_nextNumber_90 g_n)) rfl rfl ?_
    refine V_vret C dX2_nextNumber_93 ?_
    exact ⟨rfl, by rw [if_neg hcmp]⟩
  · skip
    have hcmp : (q_run (q_dig (q_l (σ 20) n)) 160 i) - i ≤ 4 := by
      rw [hsub] at h82
      rcases Nat.lt_or_ge 4 ((q_run (q_dig (q_l (σ 20) n)) 160 i) - i) with q | q
      · exact absurd (nI_ltL (a := 4) q (by omega)) h82
      · exact q
    refine V_blk C (pc' := 86) (σ' := (g_up (g_up σ 19 7 (q_val (q_l (σ 20) n) ((q_run (q_dig (q_l (σ 20) n)) 160 i) - i) i 0)) 19 4 (nI (q_run (q_dig (q_l (σ 20) n)) 160 i)))) (L' := [some (.ref 19), none]) (st' := [.int 3, .ref 19]) (g_c dX2_nextNumber_85 g_n) rfl rfl ?_
    refine V_goto C (tgt := 90) dX2_nextNumber_86 (by decide) ?_
    refine V_blk C (pc' := 93) (σ' := (g_up (g_up (g_up σ 19 7 (q_val (q_l (σ 20) n) ((q_run (q_dig (q_l (σ 20) n)) 160 i) - i) i 0)) 19 4 (nI (q_run (q_dig (q_l (σ 20) n)) 160 i))) 19 5 3)) (L' := [some (.ref 19), none]) (st' := []) (g_c dX2_nextNumber_90 g_n) rfl rfl ?_
    refine V_vret C dX2_nextNumber_93 ?_
    exact ⟨rfl, by rw [if_pos hcmp]⟩
