/-! THE CLASS'S LEXER -/
theorem g_up_up (σ : gS) {k i j : Nat} (hij : i ≠ j) (x y x' y' : Int32) : g_up (g_up (g_up (g_up σ k i x) k j y) k i x') k j y' = g_up (g_up σ k i x') k j y' := by
  funext a b
  simp only [g_up]
  by_cases ha : a = k
  · subst ha
    simp only [if_true]
    by_cases hb : b = j
    · simp only [if_pos hb]
    · simp only [if_neg hb]
      by_cases hc : b = i
      · simp only [if_pos hc]
      · simp only [if_neg hc]
  · simp only [if_neg ha]
theorem g_up_id {σ : gS} {k j : Nat} {x : Int32} (h : σ k j = x) : g_up σ k j x = σ := by
  funext a b
  simp only [g_up]
  by_cases ha : a = k
  · subst ha
    simp only [if_true]
    by_cases hb : b = j
    · subst hb; simp [h]
    · simp only [if_neg hb]
  · simp only [if_neg ha]
theorem g_up_tw (σ : gS) (k j : Nat) (x y : Int32) : g_up (g_up σ k j x) k j y = g_up σ k j y := by
  funext a b
  simp only [g_up]
  by_cases ha : a = k
  · subst ha
    simp only [if_true]
    by_cases hb : b = j
    · simp only [if_pos hb]
    · simp only [if_neg hb]
  · simp only [if_neg ha]
set_option maxHeartbeats 4000000 in
set_option maxRecDepth 100000 in
theorem lp_nextNumber {X : gX} {G : gG} {K : List Nat} {Qp : Option Value → gS → Prop} {σ : gS} {n : Nat} (hn : σ 19 1 = nI n) (hn160 : n ≤ 160) {E : Nat} {R : Int32} (hx : gV X G K 2 Qp (g_up (g_up σ 19 7 R) 19 4 (nI E)) [some (.ref 19), none] [] 71) (C : gC X G K kR 2 cX2_nextNumber (g_RX 2) none 3) : ∀ (k : Nat) (v : Nat) (a : Nat) (V : Int32), (v + k = 160) → (a ≤ n) → (q_run (q_dig (q_l (σ 20) n)) k a = E) → (q_val (q_l (σ 20) n) (E - a) a V = R) → gV X G K 2 (Qp) (g_up (g_up σ 19 7 V) 19 4 (nI a)) [some (.ref 19), some (.int (nI v))] [] 7 := by
  intro k
  induction k with
  | zero =>
    intro v a V hk ha hE hR
    have hvn : v = 160 := by omega
    have hlt : ¬ nI v < 160 := by rw [hvn]; decide
    have hEa : a = E := hE
    subst hEa
    rw [Nat.sub_self, q_val] at hR
    subst hR
    refine V_blk C (pc' := 11) (σ' := (g_up (g_up σ 19 7 V) 19 4 (nI a))) (L' := [some (.ref 19), some (.int (nI v))]) (st' := [.int 160, .int (nI v)]) (g_c dX2_nextNumber_7 (g_c dX2_nextNumber_8 g_n)) rfl rfl ?_
    refine V_icmp_ge2 C (tgt := 71) dX2_nextNumber_11 (by decide) (fun h11 => ?_) (fun h11 => absurd h11 hlt)
    exact V_less (L' := [some (.ref 19), none]) (by simp [g_subL]) hx
  | succ k ih =>
    intro v a V hk ha hE hR
    have hlt : nI v < 160 := nI_ltL (b := 160) (by omega) (by omega)
    refine V_blk C (pc' := 11) (σ' := (g_up (g_up σ 19 7 V) 19 4 (nI a))) (L' := [some (.ref 19), some (.int (nI v))]) (st' := [.int 160, .int (nI v)]) (g_c dX2_nextNumber_7 (g_c dX2_nextNumber_8 g_n)) rfl rfl ?_
    refine V_icmp_ge2 C (tgt := 71) dX2_nextNumber_11 (by decide) (fun h11 => absurd hlt h11) (fun h11 => ?_)
    refine V_blk C (pc' := 19) (σ' := (g_up (g_up σ 19 7 V) 19 4 (nI a))) (L' := [some (.ref 19), some (.int (nI v))]) (st' := [.int (nI a), .ref 19]) (g_c dX2_nextNumber_14 (g_c dX2_nextNumber_15 (g_c dX2_nextNumber_16 g_n))) rfl rfl ?_
    refine V_callVI C cv_X2_91 (c_X2_letterAt (g_up (g_up σ 19 7 V) 19 4 (nI a)) (i := a) (by omega) hn hn160) ⟨_, _, _, _, rfl, rfl⟩ (by rfl) (by decide) (by decide) (fun _ h => h) (As := [.int (nI a)]) (rest := []) rfl rfl (Nat.le_of_ble_eq_true rfl) dX2_nextNumber_19 ?_
    refine V_blk C (pc' := 26) (σ' := (g_up (g_up σ 19 7 V) 19 4 (nI a))) (L' := [some (.ref 19), some (.int (nI v))]) (st' := [.int 57, .int 48, .int (q_l (σ 20) n a)]) (g_c dX2_nextNumber_22 (g_c dX2_nextNumber_24 g_n)) rfl rfl ?_
    refine V_callNI C cn_X2_21 (c_X7_isIn (g_up (g_up σ 19 7 V) 19 4 (nI a)) (q_l (σ 20) n a) 48 57) (by decide) (by decide) (fun _ h => h) (As := [.int (q_l (σ 20) n a), .int 48, .int 57]) (rest := []) rfl rfl (Nat.le_of_ble_eq_true rfl) dX2_nextNumber_26 ?_
    refine V_if_eq_b C (tgt := 71) dX2_nextNumber_29 (by decide) (fun h29 => ?_) (fun h29 => ?_)
    · skip
      have hd : q_dig (q_l (σ 20) n) a = false := decide_eq_false h29
      rw [q_run, if_neg (by rw [hd]; decide)] at hE
      subst hE
      rw [Nat.sub_self, q_val] at hR
      subst hR
      exact V_less (L' := [some (.ref 19), none]) (by simp [g_subL]) hx
    · skip
      refine V_blk C (pc' := 45) (σ' := (g_up (g_up σ 19 7 V) 19 4 (nI a))) (L' := [some (.ref 19), some (.int (nI v))]) (st' := [.int (nI a), .ref 19, .int (V * 10), .ref 19]) (g_c dX2_nextNumber_32 (g_c dX2_nextNumber_33 (g_c dX2_nextNumber_34 (g_c dX2_nextNumber_37 (g_c dX2_nextNumber_39 (g_c dX2_nextNumber_40 (g_c dX2_nextNumber_41 (g_c dX2_nextNumber_42 g_n)))))))) rfl rfl ?_
      refine V_callVI C cv_X2_91 (c_X2_letterAt (g_up (g_up σ 19 7 V) 19 4 (nI a)) (i := a) (by omega) hn hn160) ⟨_, _, _, _, rfl, rfl⟩ (by rfl) (by decide) (by decide) (fun _ h => h) (As := [.int (nI a)]) (rest := [.int (V * 10), .ref 19]) rfl rfl (Nat.le_of_ble_eq_true rfl) dX2_nextNumber_45 ?_
      refine V_blk C (pc' := 68) (σ' := (g_up (g_up (g_up (g_up σ 19 7 V) 19 4 (nI a)) 19 7 (((V * 10) + (q_l (σ 20) n a)) - 48)) 19 4 ((nI a) + 1))) (L' := [some (.ref 19), some (.int ((nI v) + 1))]) (st' := []) (g_c dX2_nextNumber_48 (g_c dX2_nextNumber_49 (g_c dX2_nextNumber_51 (g_c dX2_nextNumber_52 (g_c dX2_nextNumber_55 (g_c dX2_nextNumber_56 (g_c dX2_nextNumber_57 (g_c dX2_nextNumber_60 (g_c dX2_nextNumber_61 (g_c dX2_nextNumber_62 (g_c dX2_nextNumber_65 g_n))))))))))) rfl rfl ?_
      refine V_goto C (tgt := 7) dX2_nextNumber_68 (by decide) ?_
      have hd : q_dig (q_l (σ 20) n) a = true := decide_eq_true h29
      have han : a < n := by
        rcases Nat.lt_or_ge a n with q | q
        · exact q
        · rw [q_dig_out q] at hd; cases hd
      rw [q_run, if_pos hd] at hE
      have hge := q_run_ge (q_dig (q_l (σ 20) n)) k (a + 1)
      rw [hE] at hge
      rw [show E - a = (E - (a + 1)) + 1 by omega, q_val] at hR
      refine V_eq ((g_up_up σ (by decide) _ _ _ _).trans (by rw [nI_1])) (by rw [nI_1]) rfl (ih (v + 1) (a + 1) _ (by omega) (by omega) hE hR)
set_option maxHeartbeats 4000000 in
set_option maxRecDepth 100000 in
theorem c_X2_nextNumber (σ : gS) {n : Nat} (hn : σ 19 1 = nI n) (hn160 : n ≤ 160) {i : Nat} (hi : i ≤ n) (h4 : σ 19 4 = nI i) (h6 : σ 19 6 = nI i) : g_Met yX2_nextNumber cX2_nextNumber 2 none 3 kR [.ref 19] σ (fun rv s => rv = none ∧ s = g_up (g_up (g_up σ 19 7 (q_val (q_l (σ 20) n) ((q_run (q_dig (q_l (σ 20) n)) 160 i) - i) i 0)) 19 4 (nI (q_run (q_dig (q_l (σ 20) n)) 160 i))) 19 5 (if (q_run (q_dig (q_l (σ 20) n)) 160 i) - i ≤ 4 then 3 else 2)) := by
  refine g_Met.of (own := 2) (L := [some (.ref 19), none]) (by decide) rfl rfl (fun ad => Nat.le_of_ble_eq_true rfl) (fun ad => rfl) (fun X G K C => ?_)
  refine V_blk C (pc' := 7) (σ' := (g_up σ 19 7 0)) (L' := [some (.ref 19), some (.int 0)]) (st' := []) (g_c dX2_nextNumber_0 (g_c dX2_nextNumber_1 (g_c dX2_nextNumber_2 (g_c dX2_nextNumber_5 (g_c dX2_nextNumber_6 g_n))))) rfl rfl ?_
  have hle : (q_run (q_dig (q_l (σ 20) n)) 160 i) ≤ n := q_run_le (fun j => q_dig_out) 160 i hi
  have hge := q_run_ge (q_dig (q_l (σ 20) n)) 160 i
  have hsub : nI (q_run (q_dig (q_l (σ 20) n)) 160 i) - σ 19 6 = nI ((q_run (q_dig (q_l (σ 20) n)) 160 i) - i) := by rw [h6]; exact pk_sub hge
  refine V_eq (σ' := g_up (g_up σ 19 7 0) 19 4 (nI i)) (g_up_id (σ := g_up σ 19 7 0) (k := 19) (j := 4) (x := nI i) h4).symm rfl rfl (lp_nextNumber hn hn160 ?_ C 160 0 i 0 (by omega) hi rfl rfl)
  refine V_blk C (pc' := 82) (σ' := (g_up (g_up σ 19 7 (q_val (q_l (σ 20) n) ((q_run (q_dig (q_l (σ 20) n)) 160 i) - i) i 0)) 19 4 (nI (q_run (q_dig (q_l (σ 20) n)) 160 i)))) (L' := [some (.ref 19), none]) (st' := [.int 4, .int ((nI (q_run (q_dig (q_l (σ 20) n)) 160 i)) - (σ 19 6)), .ref 19]) (g_c dX2_nextNumber_71 (g_c dX2_nextNumber_72 (g_c dX2_nextNumber_73 (g_c dX2_nextNumber_76 (g_c dX2_nextNumber_77 (g_c dX2_nextNumber_80 (g_c dX2_nextNumber_81 g_n))))))) rfl rfl ?_
  refine V_icmp_gt C (tgt := 89) dX2_nextNumber_82 (by decide) (fun h82 => ?_) (fun h82 => ?_)
  · skip
    have hcmp : ¬ (q_run (q_dig (q_l (σ 20) n)) 160 i) - i ≤ 4 := fun z => by rw [hsub] at h82; exact nI_nltL (a := 4) z (by omega) h82
    refine V_blk C (pc' := 93) (σ' := (g_up (g_up (g_up σ 19 7 (q_val (q_l (σ 20) n) ((q_run (q_dig (q_l (σ 20) n)) 160 i) - i) i 0)) 19 4 (nI (q_run (q_dig (q_l (σ 20) n)) 160 i))) 19 5 2)) (L' := [some (.ref 19), none]) (st' := []) (g_c dX2_nextNumber_89 (g_c dX2_nextNumber_90 g_n)) rfl rfl ?_
    refine V_vret C dX2_nextNumber_93 ?_
    exact ⟨rfl, by rw [if_neg hcmp]⟩
  · skip
    have hcmp : (q_run (q_dig (q_l (σ 20) n)) 160 i) - i ≤ 4 := by
      rw [hsub] at h82
      rcases Nat.lt_or_ge 4 ((q_run (q_dig (q_l (σ 20) n)) 160 i) - i) with q | q
      · exact absurd (nI_ltL (a := 4) q (by omega)) h82
      · exact q
    refine V_blk C (pc' := 86) (σ' := (g_up (g_up σ 19 7 (q_val (q_l (σ 20) n) ((q_run (q_dig (q_l (σ 20) n)) 160 i) - i) i 0)) 19 4 (nI (q_run (q_dig (q_l (σ 20) n)) 160 i)))) (L' := [some (.ref 19), none]) (st' := [.int 3, .ref 19]) (g_c dX2_nextNumber_85 g_n) rfl rfl ?_
    refine V_goto C (tgt := 90) dX2_nextNumber_86 (by decide) ?_
    refine V_blk C (pc' := 93) (σ' := (g_up (g_up (g_up σ 19 7 (q_val (q_l (σ 20) n) ((q_run (q_dig (q_l (σ 20) n)) 160 i) - i) i 0)) 19 4 (nI (q_run (q_dig (q_l (σ 20) n)) 160 i))) 19 5 3)) (L' := [some (.ref 19), none]) (st' := []) (g_c dX2_nextNumber_90 g_n) rfl rfl ?_
    refine V_vret C dX2_nextNumber_93 ?_
    exact ⟨rfl, by rw [if_pos hcmp]⟩
theorem c_chW {KR : Nat → Bool} (σ : gS) {k : Nat} {c : Int32} (hk : k < 60) (hc : (g_sbyt.getD 1 []).getD k 0 &&& 255 = c) : g_Met yJ0_charAt_5068e cJ0_charAt_5068e 2 (some .char) 4 KR [.ref (100 + 1), .int (nI k)] σ (fun rv s => rv = some (.int c) ∧ s = σ) := by
  subst hc
  exact c_charAt σ (i := 1) (by decide) hk
theorem c_lenW {KR : Nat → Bool} (σ : gS) : g_Met yJ0_length_8abf5 cJ0_length_8abf5 1 (some .int) 2 KR [.ref (100 + 1)] σ (fun rv s => rv = some (.int 60) ∧ s = σ) := c_length σ (i := 1) (by decide)
theorem g_wpos {x : Int32} {i a f k : Nat} (hx : x = nI i) (h : a = f + k) : x + nI a - nI f = nI (i + k) := by
  subst hx h
  rw [nI_add, pk_sub (by omega), show i + (f + k) - f = i + k by omega]
set_option maxHeartbeats 4000000 in
set_option maxRecDepth 100000 in
theorem c_X2_isWord0 (σ : gS) {n : Nat} (hn : σ 19 1 = nI n) (hn160 : n ≤ 160) {i e : Nat} (hie : i ≤ e) (he : e ≤ n) (h4 : σ 19 4 = nI e) (h6 : σ 19 6 = nI i) : g_Met yX2_isWord cX2_isWord 4 (some .boolean) 5 kR [.ref 19, .int 0, .int 4] σ (fun rv s => rv = some (.int (if q_is (q_l (σ 20) n) i e [114, 97, 105, 110] = true then 1 else 0)) ∧ s = σ) := by
  have hsub : σ 19 4 - σ 19 6 = 4 ↔ e - i = 4 := by
    rw [h4, h6, pk_sub hie]
    exact nI_eq (a := e - i) (b := 4) (by omega) (by omega)
  refine g_Met.of (own := 2) (L := [some (.ref 19), some (.int 0), some (.int 4), none]) (by decide) rfl rfl (fun ad => Nat.le_of_ble_eq_true rfl) (fun ad => rfl) (fun X G K C => ?_)
  refine V_blk C (pc' := 12) (σ' := σ) (L' := [some (.ref 19), some (.int 0), some (.int 4), none]) (st' := [.int ((σ 19 4) - (σ 19 6)), .int 4]) (g_c dX2_isWord_0 (g_c dX2_isWord_1 (g_c dX2_isWord_2 (g_c dX2_isWord_3 (g_c dX2_isWord_4 (g_c dX2_isWord_7 (g_c dX2_isWord_8 (g_c dX2_isWord_11 g_n)))))))) rfl rfl ?_
  refine V_icmp_ne C (tgt := 28) dX2_isWord_12 (by decide) (fun h12 => ?_) (fun h12 => ?_)
  · skip
    refine V_blk C (pc' := 29) (σ' := σ) (L' := [some (.ref 19), some (.int 0), some (.int 4), none]) (st' := [.int 0]) (g_c dX2_isWord_28 g_n) rfl rfl ?_
    refine V_zret C (by decide) dX2_isWord_29 ?_
    have hlen : ¬ e - i = 4 := fun z => h12 (hsub.mpr z).symm
    exact ⟨by rw [if_neg (by simp [q_is, hlen])], rfl⟩
  · skip
    refine V_blk C (pc' := 16) (σ' := σ) (L' := [some (.ref 19), some (.int 0), some (.int 4), none]) (st' := [.int 0]) (g_c dX2_isWord_15 g_n) rfl rfl ?_
    refine V_if_lt C (tgt := 28) dX2_isWord_16 (by decide) (fun z => absurd z (by decide)) (fun _ => ?_)
    refine V_blk C (pc' := 20) (σ' := σ) (L' := [some (.ref 19), some (.int 0), some (.int 4), none]) (st' := [.int 4]) (g_c dX2_isWord_19 g_n) rfl rfl ?_
    refine V_ldcS1 C dX2_isWord_20 ?_
    refine V_eq rfl rfl (st' := [.ref (100 + 1), .int 4]) rfl ?_
    refine V_callVs C (i := 1) cv_X2_110 (c_lenW σ) (by decide) rfl (by decide) (by decide) (fun _ h => h) (As := []) (rest := [.int 4]) rfl rfl (Nat.le_of_ble_eq_true rfl) dX2_isWord_22 ?_
    refine V_icmp_le2 C (tgt := 30) dX2_isWord_25 (by decide) (fun _ => ?_) (fun z => absurd z (by decide))
    refine V_blk C (pc' := 34) (σ' := σ) (L' := [some (.ref 19), some (.int 0), some (.int 4), some (.int 0)]) (st' := [.int 4, .int 0]) (g_c dX2_isWord_30 (g_c dX2_isWord_31 (g_c dX2_isWord_32 (g_c dX2_isWord_33 g_n)))) rfl rfl ?_
    refine V_icmp_ge2 C (tgt := 66) dX2_isWord_34 (by decide) (fun z => absurd z (by decide)) (fun _ => ?_)
    refine V_ldcS1 C dX2_isWord_37 ?_
    refine V_eq rfl rfl (st' := [.ref (100 + 1)]) rfl ?_
    refine V_blk C (pc' := 40) (σ' := σ) (L' := [some (.ref 19), some (.int 0), some (.int 4), some (.int 0)]) (st' := [.int 0, .ref (100 + 1)]) (g_c dX2_isWord_39 g_n) rfl rfl ?_
    refine V_callVs C (i := 1) cv_X2_113 (c_chW σ (k := 0) (c := 114) (by decide) (by decide)) (by decide) rfl (by decide) (by decide) (fun _ h => h) (As := [.int 0]) (rest := []) rfl rfl (Nat.le_of_ble_eq_true rfl) dX2_isWord_40 ?_
    refine V_blk C (pc' := 52) (σ' := σ) (L' := [some (.ref 19), some (.int 0), some (.int 4), some (.int 0)]) (st' := [.int (((σ 19 6) + 0) - 0), .ref 19, .int 114]) (g_c dX2_isWord_43 (g_c dX2_isWord_44 (g_c dX2_isWord_45 (g_c dX2_isWord_48 (g_c dX2_isWord_49 (g_c dX2_isWord_50 (g_c dX2_isWord_51 g_n))))))) rfl rfl ?_
    refine V_eq (st' := [.int (nI i), .ref 19, .int 114]) rfl rfl (by rw [show (((σ 19 6) + 0) - 0) = nI i from g_wpos (a := 0) (f := 0) (k := 0) h6 (by decide)]) ?_
    refine V_callVI C cv_X2_91 (c_X2_letterAt σ (i := i) (by omega) hn hn160) ⟨_, _, _, _, rfl, rfl⟩ (by rfl) (by decide) (by decide) (fun _ h => h) (As := [.int (nI i)]) (rest := [.int 114]) rfl rfl (Nat.le_of_ble_eq_true rfl) dX2_isWord_52 ?_
    refine V_icmp_eq C (tgt := 60) dX2_isWord_55 (by decide) (fun h55 => ?_) (fun h55 => ?_)
    · skip
      refine V_blk C (pc' := 63) (σ' := σ) (L' := [some (.ref 19), some (.int 0), some (.int 4), some (.int 1)]) (st' := []) (g_c dX2_isWord_60 g_n) rfl rfl ?_
      refine V_goto C (tgt := 32) dX2_isWord_63 (by decide) ?_
      refine V_blk C (pc' := 34) (σ' := σ) (L' := [some (.ref 19), some (.int 0), some (.int 4), some (.int 1)]) (st' := [.int 4, .int 1]) (g_c dX2_isWord_32 (g_c dX2_isWord_33 g_n)) rfl rfl ?_
      refine V_icmp_ge2 C (tgt := 66) dX2_isWord_34 (by decide) (fun z => absurd z (by decide)) (fun _ => ?_)
      refine V_ldcS1 C dX2_isWord_37 ?_
      refine V_eq rfl rfl (st' := [.ref (100 + 1)]) rfl ?_
      refine V_blk C (pc' := 40) (σ' := σ) (L' := [some (.ref 19), some (.int 0), some (.int 4), some (.int 1)]) (st' := [.int 1, .ref (100 + 1)]) (g_c dX2_isWord_39 g_n) rfl rfl ?_
      refine V_callVs C (i := 1) cv_X2_113 (c_chW σ (k := 1) (c := 97) (by decide) (by decide)) (by decide) rfl (by decide) (by decide) (fun _ h => h) (As := [.int 1]) (rest := []) rfl rfl (Nat.le_of_ble_eq_true rfl) dX2_isWord_40 ?_
      refine V_blk C (pc' := 52) (σ' := σ) (L' := [some (.ref 19), some (.int 0), some (.int 4), some (.int 1)]) (st' := [.int (((σ 19 6) + 1) - 0), .ref 19, .int 97]) (g_c dX2_isWord_43 (g_c dX2_isWord_44 (g_c dX2_isWord_45 (g_c dX2_isWord_48 (g_c dX2_isWord_49 (g_c dX2_isWord_50 (g_c dX2_isWord_51 g_n))))))) rfl rfl ?_
      refine V_eq (st' := [.int (nI (i + 1)), .ref 19, .int 97]) rfl rfl (by rw [show (((σ 19 6) + 1) - 0) = nI (i + 1) from g_wpos (a := 1) (f := 0) (k := 1) h6 (by decide)]) ?_
      refine V_callVI C cv_X2_91 (c_X2_letterAt σ (i := (i + 1)) (by omega) hn hn160) ⟨_, _, _, _, rfl, rfl⟩ (by rfl) (by decide) (by decide) (fun _ h => h) (As := [.int (nI (i + 1))]) (rest := [.int 97]) rfl rfl (Nat.le_of_ble_eq_true rfl) dX2_isWord_52 ?_
      refine V_icmp_eq C (tgt := 60) dX2_isWord_55 (by decide) (fun h55_1 => ?_) (fun h55_1 => ?_)
      · skip
        refine V_blk C (pc' := 63) (σ' := σ) (L' := [some (.ref 19), some (.int 0), some (.int 4), some (.int 2)]) (st' := []) (g_c dX2_isWord_60 g_n) rfl rfl ?_
        refine V_goto C (tgt := 32) dX2_isWord_63 (by decide) ?_
        refine V_blk C (pc' := 34) (σ' := σ) (L' := [some (.ref 19), some (.int 0), some (.int 4), some (.int 2)]) (st' := [.int 4, .int 2]) (g_c dX2_isWord_32 (g_c dX2_isWord_33 g_n)) rfl rfl ?_
        refine V_icmp_ge2 C (tgt := 66) dX2_isWord_34 (by decide) (fun z => absurd z (by decide)) (fun _ => ?_)
        refine V_ldcS1 C dX2_isWord_37 ?_
        refine V_eq rfl rfl (st' := [.ref (100 + 1)]) rfl ?_
        refine V_blk C (pc' := 40) (σ' := σ) (L' := [some (.ref 19), some (.int 0), some (.int 4), some (.int 2)]) (st' := [.int 2, .ref (100 + 1)]) (g_c dX2_isWord_39 g_n) rfl rfl ?_
        refine V_callVs C (i := 1) cv_X2_113 (c_chW σ (k := 2) (c := 105) (by decide) (by decide)) (by decide) rfl (by decide) (by decide) (fun _ h => h) (As := [.int 2]) (rest := []) rfl rfl (Nat.le_of_ble_eq_true rfl) dX2_isWord_40 ?_
        refine V_blk C (pc' := 52) (σ' := σ) (L' := [some (.ref 19), some (.int 0), some (.int 4), some (.int 2)]) (st' := [.int (((σ 19 6) + 2) - 0), .ref 19, .int 105]) (g_c dX2_isWord_43 (g_c dX2_isWord_44 (g_c dX2_isWord_45 (g_c dX2_isWord_48 (g_c dX2_isWord_49 (g_c dX2_isWord_50 (g_c dX2_isWord_51 g_n))))))) rfl rfl ?_
        refine V_eq (st' := [.int (nI ((i + 1) + 1)), .ref 19, .int 105]) rfl rfl (by rw [show (((σ 19 6) + 2) - 0) = nI ((i + 1) + 1) from g_wpos (a := 2) (f := 0) (k := 2) h6 (by decide)]) ?_
        refine V_callVI C cv_X2_91 (c_X2_letterAt σ (i := ((i + 1) + 1)) (by omega) hn hn160) ⟨_, _, _, _, rfl, rfl⟩ (by rfl) (by decide) (by decide) (fun _ h => h) (As := [.int (nI ((i + 1) + 1))]) (rest := [.int 105]) rfl rfl (Nat.le_of_ble_eq_true rfl) dX2_isWord_52 ?_
        refine V_icmp_eq C (tgt := 60) dX2_isWord_55 (by decide) (fun h55_2 => ?_) (fun h55_2 => ?_)
        · skip
          refine V_blk C (pc' := 63) (σ' := σ) (L' := [some (.ref 19), some (.int 0), some (.int 4), some (.int 3)]) (st' := []) (g_c dX2_isWord_60 g_n) rfl rfl ?_
          refine V_goto C (tgt := 32) dX2_isWord_63 (by decide) ?_
          refine V_blk C (pc' := 34) (σ' := σ) (L' := [some (.ref 19), some (.int 0), some (.int 4), some (.int 3)]) (st' := [.int 4, .int 3]) (g_c dX2_isWord_32 (g_c dX2_isWord_33 g_n)) rfl rfl ?_
          refine V_icmp_ge2 C (tgt := 66) dX2_isWord_34 (by decide) (fun z => absurd z (by decide)) (fun _ => ?_)
          refine V_ldcS1 C dX2_isWord_37 ?_
          refine V_eq rfl rfl (st' := [.ref (100 + 1)]) rfl ?_
          refine V_blk C (pc' := 40) (σ' := σ) (L' := [some (.ref 19), some (.int 0), some (.int 4), some (.int 3)]) (st' := [.int 3, .ref (100 + 1)]) (g_c dX2_isWord_39 g_n) rfl rfl ?_
          refine V_callVs C (i := 1) cv_X2_113 (c_chW σ (k := 3) (c := 110) (by decide) (by decide)) (by decide) rfl (by decide) (by decide) (fun _ h => h) (As := [.int 3]) (rest := []) rfl rfl (Nat.le_of_ble_eq_true rfl) dX2_isWord_40 ?_
          refine V_blk C (pc' := 52) (σ' := σ) (L' := [some (.ref 19), some (.int 0), some (.int 4), some (.int 3)]) (st' := [.int (((σ 19 6) + 3) - 0), .ref 19, .int 110]) (g_c dX2_isWord_43 (g_c dX2_isWord_44 (g_c dX2_isWord_45 (g_c dX2_isWord_48 (g_c dX2_isWord_49 (g_c dX2_isWord_50 (g_c dX2_isWord_51 g_n))))))) rfl rfl ?_
          refine V_eq (st' := [.int (nI (((i + 1) + 1) + 1)), .ref 19, .int 110]) rfl rfl (by rw [show (((σ 19 6) + 3) - 0) = nI (((i + 1) + 1) + 1) from g_wpos (a := 3) (f := 0) (k := 3) h6 (by decide)]) ?_
          refine V_callVI C cv_X2_91 (c_X2_letterAt σ (i := (((i + 1) + 1) + 1)) (by omega) hn hn160) ⟨_, _, _, _, rfl, rfl⟩ (by rfl) (by decide) (by decide) (fun _ h => h) (As := [.int (nI (((i + 1) + 1) + 1))]) (rest := [.int 110]) rfl rfl (Nat.le_of_ble_eq_true rfl) dX2_isWord_52 ?_
          refine V_icmp_eq C (tgt := 60) dX2_isWord_55 (by decide) (fun h55_3 => ?_) (fun h55_3 => ?_)
          · skip
            refine V_blk C (pc' := 63) (σ' := σ) (L' := [some (.ref 19), some (.int 0), some (.int 4), some (.int 4)]) (st' := []) (g_c dX2_isWord_60 g_n) rfl rfl ?_
            refine V_goto C (tgt := 32) dX2_isWord_63 (by decide) ?_
            refine V_blk C (pc' := 34) (σ' := σ) (L' := [some (.ref 19), some (.int 0), some (.int 4), some (.int 4)]) (st' := [.int 4, .int 4]) (g_c dX2_isWord_32 (g_c dX2_isWord_33 g_n)) rfl rfl ?_
            refine V_icmp_ge2 C (tgt := 66) dX2_isWord_34 (by decide) (fun _ => ?_) (fun z => absurd z (by decide))
            refine V_blk C (pc' := 67) (σ' := σ) (L' := [some (.ref 19), some (.int 0), some (.int 4), some (.int 4)]) (st' := [.int 1]) (g_c dX2_isWord_66 g_n) rfl rfl ?_
            refine V_zret C (by decide) dX2_isWord_67 ?_
            have hlen : e - i = 4 := hsub.mp h12.symm
            exact ⟨by rw [if_pos (by simp [q_is, q_at, hlen, ← h55, ← h55_1, ← h55_2, ← h55_3])], rfl⟩
          · skip
            refine V_blk C (pc' := 59) (σ' := σ) (L' := [some (.ref 19), some (.int 0), some (.int 4), some (.int 3)]) (st' := [.int 0]) (g_c dX2_isWord_58 g_n) rfl rfl ?_
            refine V_zret C (by decide) dX2_isWord_59 ?_
            exact ⟨by rw [if_neg (by simp [q_is, q_at, ← h55, ← h55_1, ← h55_2]; exact fun _ z => absurd z.symm h55_3)], rfl⟩
        · skip
          refine V_blk C (pc' := 59) (σ' := σ) (L' := [some (.ref 19), some (.int 0), some (.int 4), some (.int 2)]) (st' := [.int 0]) (g_c dX2_isWord_58 g_n) rfl rfl ?_
          refine V_zret C (by decide) dX2_isWord_59 ?_
          exact ⟨by rw [if_neg (by simp [q_is, q_at, ← h55, ← h55_1]; exact fun _ z => absurd z.symm h55_2)], rfl⟩
      · skip
        refine V_blk C (pc' := 59) (σ' := σ) (L' := [some (.ref 19), some (.int 0), some (.int 4), some (.int 1)]) (st' := [.int 0]) (g_c dX2_isWord_58 g_n) rfl rfl ?_
        refine V_zret C (by decide) dX2_isWord_59 ?_
        exact ⟨by rw [if_neg (by simp [q_is, q_at, ← h55]; exact fun _ z => absurd z.symm h55_1)], rfl⟩
    · skip
      refine V_blk C (pc' := 59) (σ' := σ) (L' := [some (.ref 19), some (.int 0), some (.int 4), some (.int 0)]) (st' := [.int 0]) (g_c dX2_isWord_58 g_n) rfl rfl ?_
      refine V_zret C (by decide) dX2_isWord_59 ?_
      exact ⟨by rw [if_neg (by simp [q_is, q_at]; exact fun _ z => absurd z.symm h55)], rfl⟩
set_option maxHeartbeats 4000000 in
set_option maxRecDepth 100000 in
theorem c_X2_isWord1 (σ : gS) {n : Nat} (hn : σ 19 1 = nI n) (hn160 : n ≤ 160) {i e : Nat} (hie : i ≤ e) (he : e ≤ n) (h4 : σ 19 4 = nI e) (h6 : σ 19 6 = nI i) : g_Met yX2_isWord cX2_isWord 4 (some .boolean) 5 kR [.ref 19, .int 5, .int 9] σ (fun rv s => rv = some (.int (if q_is (q_l (σ 20) n) i e [104, 111, 117, 114] = true then 1 else 0)) ∧ s = σ) := by
  have hsub : σ 19 4 - σ 19 6 = 4 ↔ e - i = 4 := by
    rw [h4, h6, pk_sub hie]
    exact nI_eq (a := e - i) (b := 4) (by omega) (by omega)
  refine g_Met.of (own := 2) (L := [some (.ref 19), some (.int 5), some (.int 9), none]) (by decide) rfl rfl (fun ad => Nat.le_of_ble_eq_true rfl) (fun ad => rfl) (fun X G K C => ?_)
  refine V_blk C (pc' := 12) (σ' := σ) (L' := [some (.ref 19), some (.int 5), some (.int 9), none]) (st' := [.int ((σ 19 4) - (σ 19 6)), .int 4]) (g_c dX2_isWord_0 (g_c dX2_isWord_1 (g_c dX2_isWord_2 (g_c dX2_isWord_3 (g_c dX2_isWord_4 (g_c dX2_isWord_7 (g_c dX2_isWord_8 (g_c dX2_isWord_11 g_n)))))))) rfl rfl ?_
  refine V_icmp_ne C (tgt := 28) dX2_isWord_12 (by decide) (fun h12 => ?_) (fun h12 => ?_)
  · skip
    refine V_blk C (pc' := 29) (σ' := σ) (L' := [some (.ref 19), some (.int 5), some (.int 9), none]) (st' := [.int 0]) (g_c dX2_isWord_28 g_n) rfl rfl ?_
    refine V_zret C (by decide) dX2_isWord_29 ?_
    have hlen : ¬ e - i = 4 := fun z => h12 (hsub.mpr z).symm
    exact ⟨by rw [if_neg (by simp [q_is, hlen])], rfl⟩
  · skip
    refine V_blk C (pc' := 16) (σ' := σ) (L' := [some (.ref 19), some (.int 5), some (.int 9), none]) (st' := [.int 5]) (g_c dX2_isWord_15 g_n) rfl rfl ?_
    refine V_if_lt C (tgt := 28) dX2_isWord_16 (by decide) (fun z => absurd z (by decide)) (fun _ => ?_)
    refine V_blk C (pc' := 20) (σ' := σ) (L' := [some (.ref 19), some (.int 5), some (.int 9), none]) (st' := [.int 9]) (g_c dX2_isWord_19 g_n) rfl rfl ?_
    refine V_ldcS1 C dX2_isWord_20 ?_
    refine V_eq rfl rfl (st' := [.ref (100 + 1), .int 9]) rfl ?_
    refine V_callVs C (i := 1) cv_X2_110 (c_lenW σ) (by decide) rfl (by decide) (by decide) (fun _ h => h) (As := []) (rest := [.int 9]) rfl rfl (Nat.le_of_ble_eq_true rfl) dX2_isWord_22 ?_
    refine V_icmp_le2 C (tgt := 30) dX2_isWord_25 (by decide) (fun _ => ?_) (fun z => absurd z (by decide))
    refine V_blk C (pc' := 34) (σ' := σ) (L' := [some (.ref 19), some (.int 5), some (.int 9), some (.int 5)]) (st' := [.int 9, .int 5]) (g_c dX2_isWord_30 (g_c dX2_isWord_31 (g_c dX2_isWord_32 (g_c dX2_isWord_33 g_n)))) rfl rfl ?_
    refine V_icmp_ge2 C (tgt := 66) dX2_isWord_34 (by decide) (fun z => absurd z (by decide)) (fun _ => ?_)
    refine V_ldcS1 C dX2_isWord_37 ?_
    refine V_eq rfl rfl (st' := [.ref (100 + 1)]) rfl ?_
    refine V_blk C (pc' := 40) (σ' := σ) (L' := [some (.ref 19), some (.int 5), some (.int 9), some (.int 5)]) (st' := [.int 5, .ref (100 + 1)]) (g_c dX2_isWord_39 g_n) rfl rfl ?_
    refine V_callVs C (i := 1) cv_X2_113 (c_chW σ (k := 5) (c := 104) (by decide) (by decide)) (by decide) rfl (by decide) (by decide) (fun _ h => h) (As := [.int 5]) (rest := []) rfl rfl (Nat.le_of_ble_eq_true rfl) dX2_isWord_40 ?_
    refine V_blk C (pc' := 52) (σ' := σ) (L' := [some (.ref 19), some (.int 5), some (.int 9), some (.int 5)]) (st' := [.int (((σ 19 6) + 5) - 5), .ref 19, .int 104]) (g_c dX2_isWord_43 (g_c dX2_isWord_44 (g_c dX2_isWord_45 (g_c dX2_isWord_48 (g_c dX2_isWord_49 (g_c dX2_isWord_50 (g_c dX2_isWord_51 g_n))))))) rfl rfl ?_
    refine V_eq (st' := [.int (nI i), .ref 19, .int 104]) rfl rfl (by rw [show (((σ 19 6) + 5) - 5) = nI i from g_wpos (a := 5) (f := 5) (k := 0) h6 (by decide)]) ?_
    refine V_callVI C cv_X2_91 (c_X2_letterAt σ (i := i) (by omega) hn hn160) ⟨_, _, _, _, rfl, rfl⟩ (by rfl) (by decide) (by decide) (fun _ h => h) (As := [.int (nI i)]) (rest := [.int 104]) rfl rfl (Nat.le_of_ble_eq_true rfl) dX2_isWord_52 ?_
    refine V_icmp_eq C (tgt := 60) dX2_isWord_55 (by decide) (fun h55 => ?_) (fun h55 => ?_)
    · skip
      refine V_blk C (pc' := 63) (σ' := σ) (L' := [some (.ref 19), some (.int 5), some (.int 9), some (.int 6)]) (st' := []) (g_c dX2_isWord_60 g_n) rfl rfl ?_
      refine V_goto C (tgt := 32) dX2_isWord_63 (by decide) ?_
      refine V_blk C (pc' := 34) (σ' := σ) (L' := [some (.ref 19), some (.int 5), some (.int 9), some (.int 6)]) (st' := [.int 9, .int 6]) (g_c dX2_isWord_32 (g_c dX2_isWord_33 g_n)) rfl rfl ?_
      refine V_icmp_ge2 C (tgt := 66) dX2_isWord_34 (by decide) (fun z => absurd z (by decide)) (fun _ => ?_)
      refine V_ldcS1 C dX2_isWord_37 ?_
      refine V_eq rfl rfl (st' := [.ref (100 + 1)]) rfl ?_
      refine V_blk C (pc' := 40) (σ' := σ) (L' := [some (.ref 19), some (.int 5), some (.int 9), some (.int 6)]) (st' := [.int 6, .ref (100 + 1)]) (g_c dX2_isWord_39 g_n) rfl rfl ?_
      refine V_callVs C (i := 1) cv_X2_113 (c_chW σ (k := 6) (c := 111) (by decide) (by decide)) (by decide) rfl (by decide) (by decide) (fun _ h => h) (As := [.int 6]) (rest := []) rfl rfl (Nat.le_of_ble_eq_true rfl) dX2_isWord_40 ?_
      refine V_blk C (pc' := 52) (σ' := σ) (L' := [some (.ref 19), some (.int 5), some (.int 9), some (.int 6)]) (st' := [.int (((σ 19 6) + 6) - 5), .ref 19, .int 111]) (g_c dX2_isWord_43 (g_c dX2_isWord_44 (g_c dX2_isWord_45 (g_c dX2_isWord_48 (g_c dX2_isWord_49 (g_c dX2_isWord_50 (g_c dX2_isWord_51 g_n))))))) rfl rfl ?_
      refine V_eq (st' := [.int (nI (i + 1)), .ref 19, .int 111]) rfl rfl (by rw [show (((σ 19 6) + 6) - 5) = nI (i + 1) from g_wpos (a := 6) (f := 5) (k := 1) h6 (by decide)]) ?_
      refine V_callVI C cv_X2_91 (c_X2_letterAt σ (i := (i + 1)) (by omega) hn hn160) ⟨_, _, _, _, rfl, rfl⟩ (by rfl) (by decide) (by decide) (fun _ h => h) (As := [.int (nI (i + 1))]) (rest := [.int 111]) rfl rfl (Nat.le_of_ble_eq_true rfl) dX2_isWord_52 ?_
      refine V_icmp_eq C (tgt := 60) dX2_isWord_55 (by decide) (fun h55_1 => ?_) (fun h55_1 => ?_)
      · skip
        refine V_blk C (pc' := 63) (σ' := σ) (L' := [some (.ref 19), some (.int 5), some (.int 9), some (.int 7)]) (st' := []) (g_c dX2_isWord_60 g_n) rfl rfl ?_
        refine V_goto C (tgt := 32) dX2_isWord_63 (by decide) ?_
        refine V_blk C (pc' := 34) (σ' := σ) (L' := [some (.ref 19), some (.int 5), some (.int 9), some (.int 7)]) (st' := [.int 9, .int 7]) (g_c dX2_isWord_32 (g_c dX2_isWord_33 g_n)) rfl rfl ?_
        refine V_icmp_ge2 C (tgt := 66) dX2_isWord_34 (by decide) (fun z => absurd z (by decide)) (fun _ => ?_)
        refine V_ldcS1 C dX2_isWord_37 ?_
        refine V_eq rfl rfl (st' := [.ref (100 + 1)]) rfl ?_
        refine V_blk C (pc' := 40) (σ' := σ) (L' := [some (.ref 19), some (.int 5), some (.int 9), some (.int 7)]) (st' := [.int 7, .ref (100 + 1)]) (g_c dX2_isWord_39 g_n) rfl rfl ?_
        refine V_callVs C (i := 1) cv_X2_113 (c_chW σ (k := 7) (c := 117) (by decide) (by decide)) (by decide) rfl (by decide) (by decide) (fun _ h => h) (As := [.int 7]) (rest := []) rfl rfl (Nat.le_of_ble_eq_true rfl) dX2_isWord_40 ?_
        refine V_blk C (pc' := 52) (σ' := σ) (L' := [some (.ref 19), some (.int 5), some (.int 9), some (.int 7)]) (st' := [.int (((σ 19 6) + 7) - 5), .ref 19, .int 117]) (g_c dX2_isWord_43 (g_c dX2_isWord_44 (g_c dX2_isWord_45 (g_c dX2_isWord_48 (g_c dX2_isWord_49 (g_c dX2_isWord_50 (g_c dX2_isWord_51 g_n))))))) rfl rfl ?_
        refine V_eq (st' := [.int (nI ((i + 1) + 1)), .ref 19, .int 117]) rfl rfl (by rw [show (((σ 19 6) + 7) - 5) = nI ((i + 1) + 1) from g_wpos (a := 7) (f := 5) (k := 2) h6 (by decide)]) ?_
        refine V_callVI C cv_X2_91 (c_X2_letterAt σ (i := ((i + 1) + 1)) (by omega) hn hn160) ⟨_, _, _, _, rfl, rfl⟩ (by rfl) (by decide) (by decide) (fun _ h => h) (As := [.int (nI ((i + 1) + 1))]) (rest := [.int 117]) rfl rfl (Nat.le_of_ble_eq_true rfl) dX2_isWord_52 ?_
        refine V_icmp_eq C (tgt := 60) dX2_isWord_55 (by decide) (fun h55_2 => ?_) (fun h55_2 => ?_)
        · skip
          refine V_blk C (pc' := 63) (σ' := σ) (L' := [some (.ref 19), some (.int 5), some (.int 9), some (.int 8)]) (st' := []) (g_c dX2_isWord_60 g_n) rfl rfl ?_
          refine V_goto C (tgt := 32) dX2_isWord_63 (by decide) ?_
          refine V_blk C (pc' := 34) (σ' := σ) (L' := [some (.ref 19), some (.int 5), some (.int 9), some (.int 8)]) (st' := [.int 9, .int 8]) (g_c dX2_isWord_32 (g_c dX2_isWord_33 g_n)) rfl rfl ?_
          refine V_icmp_ge2 C (tgt := 66) dX2_isWord_34 (by decide) (fun z => absurd z (by decide)) (fun _ => ?_)
          refine V_ldcS1 C dX2_isWord_37 ?_
          refine V_eq rfl rfl (st' := [.ref (100 + 1)]) rfl ?_
          refine V_blk C (pc' := 40) (σ' := σ) (L' := [some (.ref 19), some (.int 5), some (.int 9), some (.int 8)]) (st' := [.int 8, .ref (100 + 1)]) (g_c dX2_isWord_39 g_n) rfl rfl ?_
          refine V_callVs C (i := 1) cv_X2_113 (c_chW σ (k := 8) (c := 114) (by decide) (by decide)) (by decide) rfl (by decide) (by decide) (fun _ h => h) (As := [.int 8]) (rest := []) rfl rfl (Nat.le_of_ble_eq_true rfl) dX2_isWord_40 ?_
          refine V_blk C (pc' := 52) (σ' := σ) (L' := [some (.ref 19), some (.int 5), some (.int 9), some (.int 8)]) (st' := [.int (((σ 19 6) + 8) - 5), .ref 19, .int 114]) (g_c dX2_isWord_43 (g_c dX2_isWord_44 (g_c dX2_isWord_45 (g_c dX2_isWord_48 (g_c dX2_isWord_49 (g_c dX2_isWord_50 (g_c dX2_isWord_51 g_n))))))) rfl rfl ?_
          refine V_eq (st' := [.int (nI (((i + 1) + 1) + 1)), .ref 19, .int 114]) rfl rfl (by rw [show (((σ 19 6) + 8) - 5) = nI (((i + 1) + 1) + 1) from g_wpos (a := 8) (f := 5) (k := 3) h6 (by decide)]) ?_
          refine V_callVI C cv_X2_91 (c_X2_letterAt σ (i := (((i + 1) + 1) + 1)) (by omega) hn hn160) ⟨_, _, _, _, rfl, rfl⟩ (by rfl) (by decide) (by decide) (fun _ h => h) (As := [.int (nI (((i + 1) + 1) + 1))]) (rest := [.int 114]) rfl rfl (Nat.le_of_ble_eq_true rfl) dX2_isWord_52 ?_
          refine V_icmp_eq C (tgt := 60) dX2_isWord_55 (by decide) (fun h55_3 => ?_) (fun h55_3 => ?_)
          · skip
            refine V_blk C (pc' := 63) (σ' := σ) (L' := [some (.ref 19), some (.int 5), some (.int 9), some (.int 9)]) (st' := []) (g_c dX2_isWord_60 g_n) rfl rfl ?_
            refine V_goto C (tgt := 32) dX2_isWord_63 (by decide) ?_
            refine V_blk C (pc' := 34) (σ' := σ) (L' := [some (.ref 19), some (.int 5), some (.int 9), some (.int 9)]) (st' := [.int 9, .int 9]) (g_c dX2_isWord_32 (g_c dX2_isWord_33 g_n)) rfl rfl ?_
            refine V_icmp_ge2 C (tgt := 66) dX2_isWord_34 (by decide) (fun _ => ?_) (fun z => absurd z (by decide))
            refine V_blk C (pc' := 67) (σ' := σ) (L' := [some (.ref 19), some (.int 5), some (.int 9), some (.int 9)]) (st' := [.int 1]) (g_c dX2_isWord_66 g_n) rfl rfl ?_
            refine V_zret C (by decide) dX2_isWord_67 ?_
            have hlen : e - i = 4 := hsub.mp h12.symm
            exact ⟨by rw [if_pos (by simp [q_is, q_at, hlen, ← h55, ← h55_1, ← h55_2, ← h55_3])], rfl⟩
          · skip
            refine V_blk C (pc' := 59) (σ' := σ) (L' := [some (.ref 19), some (.int 5), some (.int 9), some (.int 8)]) (st' := [.int 0]) (g_c dX2_isWord_58 g_n) rfl rfl ?_
            refine V_zret C (by decide) dX2_isWord_59 ?_
            exact ⟨by rw [if_neg (by simp [q_is, q_at, ← h55, ← h55_1, ← h55_2]; exact fun _ z => absurd z.symm h55_3)], rfl⟩
        · skip
          refine V_blk C (pc' := 59) (σ' := σ) (L' := [some (.ref 19), some (.int 5), some (.int 9), some (.int 7)]) (st' := [.int 0]) (g_c dX2_isWord_58 g_n) rfl rfl ?_
          refine V_zret C (by decide) dX2_isWord_59 ?_
          exact ⟨by rw [if_neg (by simp [q_is, q_at, ← h55, ← h55_1]; exact fun _ z => absurd z.symm h55_2)], rfl⟩
      · skip
        refine V_blk C (pc' := 59) (σ' := σ) (L' := [some (.ref 19), some (.int 5), some (.int 9), some (.int 6)]) (st' := [.int 0]) (g_c dX2_isWord_58 g_n) rfl rfl ?_
        refine V_zret C (by decide) dX2_isWord_59 ?_
        exact ⟨by rw [if_neg (by simp [q_is, q_at, ← h55]; exact fun _ z => absurd z.symm h55_1)], rfl⟩
    · skip
      refine V_blk C (pc' := 59) (σ' := σ) (L' := [some (.ref 19), some (.int 5), some (.int 9), some (.int 5)]) (st' := [.int 0]) (g_c dX2_isWord_58 g_n) rfl rfl ?_
      refine V_zret C (by decide) dX2_isWord_59 ?_
      exact ⟨by rw [if_neg (by simp [q_is, q_at]; exact fun _ z => absurd z.symm h55)], rfl⟩
set_option maxHeartbeats 4000000 in
set_option maxRecDepth 100000 in
theorem c_X2_isWord2 (σ : gS) {n : Nat} (hn : σ 19 1 = nI n) (hn160 : n ≤ 160) {i e : Nat} (hie : i ≤ e) (he : e ≤ n) (h4 : σ 19 4 = nI e) (h6 : σ 19 6 = nI i) : g_Met yX2_isWord cX2_isWord 4 (some .boolean) 5 kR [.ref 19, .int 10, .int 15] σ (fun rv s => rv = some (.int (if q_is (q_l (σ 20) n) i e [112, 108, 97, 99, 101] = true then 1 else 0)) ∧ s = σ) := by
  have hsub : σ 19 4 - σ 19 6 = 5 ↔ e - i = 5 := by
    rw [h4, h6, pk_sub hie]
    exact nI_eq (a := e - i) (b := 5) (by omega) (by omega)
  refine g_Met.of (own := 2) (L := [some (.ref 19), some (.int 10), some (.int 15), none]) (by decide) rfl rfl (fun ad => Nat.le_of_ble_eq_true rfl) (fun ad => rfl) (fun X G K C => ?_)
  refine V_blk C (pc' := 12) (σ' := σ) (L' := [some (.ref 19), some (.int 10), some (.int 15), none]) (st' := [.int ((σ 19 4) - (σ 19 6)), .int 5]) (g_c dX2_isWord_0 (g_c dX2_isWord_1 (g_c dX2_isWord_2 (g_c dX2_isWord_3 (g_c dX2_isWord_4 (g_c dX2_isWord_7 (g_c dX2_isWord_8 (g_c dX2_isWord_11 g_n)))))))) rfl rfl ?_
  refine V_icmp_ne C (tgt := 28) dX2_isWord_12 (by decide) (fun h12 => ?_) (fun h12 => ?_)
  · skip
    refine V_blk C (pc' := 29) (σ' := σ) (L' := [some (.ref 19), some (.int 10), some (.int 15), none]) (st' := [.int 0]) (g_c dX2_isWord_28 g_n) rfl rfl ?_
    refine V_zret C (by decide) dX2_isWord_29 ?_
    have hlen : ¬ e - i = 5 := fun z => h12 (hsub.mpr z).symm
    exact ⟨by rw [if_neg (by simp [q_is, hlen])], rfl⟩
  · skip
    refine V_blk C (pc' := 16) (σ' := σ) (L' := [some (.ref 19), some (.int 10), some (.int 15), none]) (st' := [.int 10]) (g_c dX2_isWord_15 g_n) rfl rfl ?_
    refine V_if_lt C (tgt := 28) dX2_isWord_16 (by decide) (fun z => absurd z (by decide)) (fun _ => ?_)
    refine V_blk C (pc' := 20) (σ' := σ) (L' := [some (.ref 19), some (.int 10), some (.int 15), none]) (st' := [.int 15]) (g_c dX2_isWord_19 g_n) rfl rfl ?_
    refine V_ldcS1 C dX2_isWord_20 ?_
    refine V_eq rfl rfl (st' := [.ref (100 + 1), .int 15]) rfl ?_
    refine V_callVs C (i := 1) cv_X2_110 (c_lenW σ) (by decide) rfl (by decide) (by decide) (fun _ h => h) (As := []) (rest := [.int 15]) rfl rfl (Nat.le_of_ble_eq_true rfl) dX2_isWord_22 ?_
    refine V_icmp_le2 C (tgt := 30) dX2_isWord_25 (by decide) (fun _ => ?_) (fun z => absurd z (by decide))
    refine V_blk C (pc' := 34) (σ' := σ) (L' := [some (.ref 19), some (.int 10), some (.int 15), some (.int 10)]) (st' := [.int 15, .int 10]) (g_c dX2_isWord_30 (g_c dX2_isWord_31 (g_c dX2_isWord_32 (g_c dX2_isWord_33 g_n)))) rfl rfl ?_
    refine V_icmp_ge2 C (tgt := 66) dX2_isWord_34 (by decide) (fun z => absurd z (by decide)) (fun _ => ?_)
    refine V_ldcS1 C dX2_isWord_37 ?_
    refine V_eq rfl rfl (st' := [.ref (100 + 1)]) rfl ?_
    refine V_blk C (pc' := 40) (σ' := σ) (L' := [some (.ref 19), some (.int 10), some (.int 15), some (.int 10)]) (st' := [.int 10, .ref (100 + 1)]) (g_c dX2_isWord_39 g_n) rfl rfl ?_
    refine V_callVs C (i := 1) cv_X2_113 (c_chW σ (k := 10) (c := 112) (by decide) (by decide)) (by decide) rfl (by decide) (by decide) (fun _ h => h) (As := [.int 10]) (rest := []) rfl rfl (Nat.le_of_ble_eq_true rfl) dX2_isWord_40 ?_
    refine V_blk C (pc' := 52) (σ' := σ) (L' := [some (.ref 19), some (.int 10), some (.int 15), some (.int 10)]) (st' := [.int (((σ 19 6) + 10) - 10), .ref 19, .int 112]) (g_c dX2_isWord_43 (g_c dX2_isWord_44 (g_c dX2_isWord_45 (g_c dX2_isWord_48 (g_c dX2_isWord_49 (g_c dX2_isWord_50 (g_c dX2_isWord_51 g_n))))))) rfl rfl ?_
    refine V_eq (st' := [.int (nI i), .ref 19, .int 112]) rfl rfl (by rw [show (((σ 19 6) + 10) - 10) = nI i from g_wpos (a := 10) (f := 10) (k := 0) h6 (by decide)]) ?_
    refine V_callVI C cv_X2_91 (c_X2_letterAt σ (i := i) (by omega) hn hn160) ⟨_, _, _, _, rfl, rfl⟩ (by rfl) (by decide) (by decide) (fun _ h => h) (As := [.int (nI i)]) (rest := [.int 112]) rfl rfl (Nat.le_of_ble_eq_true rfl) dX2_isWord_52 ?_
    refine V_icmp_eq C (tgt := 60) dX2_isWord_55 (by decide) (fun h55 => ?_) (fun h55 => ?_)
    · skip
      refine V_blk C (pc' := 63) (σ' := σ) (L' := [some (.ref 19), some (.int 10), some (.int 15), some (.int 11)]) (st' := []) (g_c dX2_isWord_60 g_n) rfl rfl ?_
      refine V_goto C (tgt := 32) dX2_isWord_63 (by decide) ?_
      refine V_blk C (pc' := 34) (σ' := σ) (L' := [some (.ref 19), some (.int 10), some (.int 15), some (.int 11)]) (st' := [.int 15, .int 11]) (g_c dX2_isWord_32 (g_c dX2_isWord_33 g_n)) rfl rfl ?_
      refine V_icmp_ge2 C (tgt := 66) dX2_isWord_34 (by decide) (fun z => absurd z (by decide)) (fun _ => ?_)
      refine V_ldcS1 C dX2_isWord_37 ?_
      refine V_eq rfl rfl (st' := [.ref (100 + 1)]) rfl ?_
      refine V_blk C (pc' := 40) (σ' := σ) (L' := [some (.ref 19), some (.int 10), some (.int 15), some (.int 11)]) (st' := [.int 11, .ref (100 + 1)]) (g_c dX2_isWord_39 g_n) rfl rfl ?_
      refine V_callVs C (i := 1) cv_X2_113 (c_chW σ (k := 11) (c := 108) (by decide) (by decide)) (by decide) rfl (by decide) (by decide) (fun _ h => h) (As := [.int 11]) (rest := []) rfl rfl (Nat.le_of_ble_eq_true rfl) dX2_isWord_40 ?_
      refine V_blk C (pc' := 52) (σ' := σ) (L' := [some (.ref 19), some (.int 10), some (.int 15), some (.int 11)]) (st' := [.int (((σ 19 6) + 11) - 10), .ref 19, .int 108]) (g_c dX2_isWord_43 (g_c dX2_isWord_44 (g_c dX2_isWord_45 (g_c dX2_isWord_48 (g_c dX2_isWord_49 (g_c dX2_isWord_50 (g_c dX2_isWord_51 g_n))))))) rfl rfl ?_
      refine V_eq (st' := [.int (nI (i + 1)), .ref 19, .int 108]) rfl rfl (by rw [show (((σ 19 6) + 11) - 10) = nI (i + 1) from g_wpos (a := 11) (f := 10) (k := 1) h6 (by decide)]) ?_
      refine V_callVI C cv_X2_91 (c_X2_letterAt σ (i := (i + 1)) (by omega) hn hn160) ⟨_, _, _, _, rfl, rfl⟩ (by rfl) (by decide) (by decide) (fun _ h => h) (As := [.int (nI (i + 1))]) (rest := [.int 108]) rfl rfl (Nat.le_of_ble_eq_true rfl) dX2_isWord_52 ?_
      refine V_icmp_eq C (tgt := 60) dX2_isWord_55 (by decide) (fun h55_1 => ?_) (fun h55_1 => ?_)
      · skip
        refine V_blk C (pc' := 63) (σ' := σ) (L' := [some (.ref 19), some (.int 10), some (.int 15), some (.int 12)]) (st' := []) (g_c dX2_isWord_60 g_n) rfl rfl ?_
        refine V_goto C (tgt := 32) dX2_isWord_63 (by decide) ?_
        refine V_blk C (pc' := 34) (σ' := σ) (L' := [some (.ref 19), some (.int 10), some (.int 15), some (.int 12)]) (st' := [.int 15, .int 12]) (g_c dX2_isWord_32 (g_c dX2_isWord_33 g_n)) rfl rfl ?_
        refine V_icmp_ge2 C (tgt := 66) dX2_isWord_34 (by decide) (fun z => absurd z (by decide)) (fun _ => ?_)
        refine V_ldcS1 C dX2_isWord_37 ?_
        refine V_eq rfl rfl (st' := [.ref (100 + 1)]) rfl ?_
        refine V_blk C (pc' := 40) (σ' := σ) (L' := [some (.ref 19), some (.int 10), some (.int 15), some (.int 12)]) (st' := [.int 12, .ref (100 + 1)]) (g_c dX2_isWord_39 g_n) rfl rfl ?_
        refine V_callVs C (i := 1) cv_X2_113 (c_chW σ (k := 12) (c := 97) (by decide) (by decide)) (by decide) rfl (by decide) (by decide) (fun _ h => h) (As := [.int 12]) (rest := []) rfl rfl (Nat.le_of_ble_eq_true rfl) dX2_isWord_40 ?_
        refine V_blk C (pc' := 52) (σ' := σ) (L' := [some (.ref 19), some (.int 10), some (.int 15), some (.int 12)]) (st' := [.int (((σ 19 6) + 12) - 10), .ref 19, .int 97]) (g_c dX2_isWord_43 (g_c dX2_isWord_44 (g_c dX2_isWord_45 (g_c dX2_isWord_48 (g_c dX2_isWord_49 (g_c dX2_isWord_50 (g_c dX2_isWord_51 g_n))))))) rfl rfl ?_
        refine V_eq (st' := [.int (nI ((i + 1) + 1)), .ref 19, .int 97]) rfl rfl (by rw [show (((σ 19 6) + 12) - 10) = nI ((i + 1) + 1) from g_wpos (a := 12) (f := 10) (k := 2) h6 (by decide)]) ?_
        refine V_callVI C cv_X2_91 (c_X2_letterAt σ (i := ((i + 1) + 1)) (by omega) hn hn160) ⟨_, _, _, _, rfl, rfl⟩ (by rfl) (by decide) (by decide) (fun _ h => h) (As := [.int (nI ((i + 1) + 1))]) (rest := [.int 97]) rfl rfl (Nat.le_of_ble_eq_true rfl) dX2_isWord_52 ?_
        refine V_icmp_eq C (tgt := 60) dX2_isWord_55 (by decide) (fun h55_2 => ?_) (fun h55_2 => ?_)
        · skip
          refine V_blk C (pc' := 63) (σ' := σ) (L' := [some (.ref 19), some (.int 10), some (.int 15), some (.int 13)]) (st' := []) (g_c dX2_isWord_60 g_n) rfl rfl ?_
          refine V_goto C (tgt := 32) dX2_isWord_63 (by decide) ?_
          refine V_blk C (pc' := 34) (σ' := σ) (L' := [some (.ref 19), some (.int 10), some (.int 15), some (.int 13)]) (st' := [.int 15, .int 13]) (g_c dX2_isWord_32 (g_c dX2_isWord_33 g_n)) rfl rfl ?_
          refine V_icmp_ge2 C (tgt := 66) dX2_isWord_34 (by decide) (fun z => absurd z (by decide)) (fun _ => ?_)
          refine V_ldcS1 C dX2_isWord_37 ?_
          refine V_eq rfl rfl (st' := [.ref (100 + 1)]) rfl ?_
          refine V_blk C (pc' := 40) (σ' := σ) (L' := [some (.ref 19), some (.int 10), some (.int 15), some (.int 13)]) (st' := [.int 13, .ref (100 + 1)]) (g_c dX2_isWord_39 g_n) rfl rfl ?_
          refine V_callVs C (i := 1) cv_X2_113 (c_chW σ (k := 13) (c := 99) (by decide) (by decide)) (by decide) rfl (by decide) (by decide) (fun _ h => h) (As := [.int 13]) (rest := []) rfl rfl (Nat.le_of_ble_eq_true rfl) dX2_isWord_40 ?_
          refine V_blk C (pc' := 52) (σ' := σ) (L' := [some (.ref 19), some (.int 10), some (.int 15), some (.int 13)]) (st' := [.int (((σ 19 6) + 13) - 10), .ref 19, .int 99]) (g_c dX2_isWord_43 (g_c dX2_isWord_44 (g_c dX2_isWord_45 (g_c dX2_isWord_48 (g_c dX2_isWord_49 (g_c dX2_isWord_50 (g_c dX2_isWord_51 g_n))))))) rfl rfl ?_
          refine V_eq (st' := [.int (nI (((i + 1) + 1) + 1)), .ref 19, .int 99]) rfl rfl (by rw [show (((σ 19 6) + 13) - 10) = nI (((i + 1) + 1) + 1) from g_wpos (a := 13) (f := 10) (k := 3) h6 (by decide)]) ?_
          refine V_callVI C cv_X2_91 (c_X2_letterAt σ (i := (((i + 1) + 1) + 1)) (by omega) hn hn160) ⟨_, _, _, _, rfl, rfl⟩ (by rfl) (by decide) (by decide) (fun _ h => h) (As := [.int (nI (((i + 1) + 1) + 1))]) (rest := [.int 99]) rfl rfl (Nat.le_of_ble_eq_true rfl) dX2_isWord_52 ?_
          refine V_icmp_eq C (tgt := 60) dX2_isWord_55 (by decide) (fun h55_3 => ?_) (fun h55_3 => ?_)
          · skip
            refine V_blk C (pc' := 63) (σ' := σ) (L' := [some (.ref 19), some (.int 10), some (.int 15), some (.int 14)]) (st' := []) (g_c dX2_isWord_60 g_n) rfl rfl ?_
            refine V_goto C (tgt := 32) dX2_isWord_63 (by decide) ?_
            refine V_blk C (pc' := 34) (σ' := σ) (L' := [some (.ref 19), some (.int 10), some (.int 15), some (.int 14)]) (st' := [.int 15, .int 14]) (g_c dX2_isWord_32 (g_c dX2_isWord_33 g_n)) rfl rfl ?_
            refine V_icmp_ge2 C (tgt := 66) dX2_isWord_34 (by decide) (fun z => absurd z (by decide)) (fun _ => ?_)
            refine V_ldcS1 C dX2_isWord_37 ?_
            refine V_eq rfl rfl (st' := [.ref (100 + 1)]) rfl ?_
            refine V_blk C (pc' := 40) (σ' := σ) (L' := [some (.ref 19), some (.int 10), some (.int 15), some (.int 14)]) (st' := [.int 14, .ref (100 + 1)]) (g_c dX2_isWord_39 g_n) rfl rfl ?_
            refine V_callVs C (i := 1) cv_X2_113 (c_chW σ (k := 14) (c := 101) (by decide) (by decide)) (by decide) rfl (by decide) (by decide) (fun _ h => h) (As := [.int 14]) (rest := []) rfl rfl (Nat.le_of_ble_eq_true rfl) dX2_isWord_40 ?_
            refine V_blk C (pc' := 52) (σ' := σ) (L' := [some (.ref 19), some (.int 10), some (.int 15), some (.int 14)]) (st' := [.int (((σ 19 6) + 14) - 10), .ref 19, .int 101]) (g_c dX2_isWord_43 (g_c dX2_isWord_44 (g_c dX2_isWord_45 (g_c dX2_isWord_48 (g_c dX2_isWord_49 (g_c dX2_isWord_50 (g_c dX2_isWord_51 g_n))))))) rfl rfl ?_
            refine V_eq (st' := [.int (nI ((((i + 1) + 1) + 1) + 1)), .ref 19, .int 101]) rfl rfl (by rw [show (((σ 19 6) + 14) - 10) = nI ((((i + 1) + 1) + 1) + 1) from g_wpos (a := 14) (f := 10) (k := 4) h6 (by decide)]) ?_
            refine V_callVI C cv_X2_91 (c_X2_letterAt σ (i := ((((i + 1) + 1) + 1) + 1)) (by omega) hn hn160) ⟨_, _, _, _, rfl, rfl⟩ (by rfl) (by decide) (by decide) (fun _ h => h) (As := [.int (nI ((((i + 1) + 1) + 1) + 1))]) (rest := [.int 101]) rfl rfl (Nat.le_of_ble_eq_true rfl) dX2_isWord_52 ?_
            refine V_icmp_eq C (tgt := 60) dX2_isWord_55 (by decide) (fun h55_4 => ?_) (fun h55_4 => ?_)
            · skip
              refine V_blk C (pc' := 63) (σ' := σ) (L' := [some (.ref 19), some (.int 10), some (.int 15), some (.int 15)]) (st' := []) (g_c dX2_isWord_60 g_n) rfl rfl ?_
              refine V_goto C (tgt := 32) dX2_isWord_63 (by decide) ?_
              refine V_blk C (pc' := 34) (σ' := σ) (L' := [some (.ref 19), some (.int 10), some (.int 15), some (.int 15)]) (st' := [.int 15, .int 15]) (g_c dX2_isWord_32 (g_c dX2_isWord_33 g_n)) rfl rfl ?_
              refine V_icmp_ge2 C (tgt := 66) dX2_isWord_34 (by decide) (fun _ => ?_) (fun z => absurd z (by decide))
              refine V_blk C (pc' := 67) (σ' := σ) (L' := [some (.ref 19), some (.int 10), some (.int 15), some (.int 15)]) (st' := [.int 1]) (g_c dX2_isWord_66 g_n) rfl rfl ?_
              refine V_zret C (by decide) dX2_isWord_67 ?_
              have hlen : e - i = 5 := hsub.mp h12.symm
              exact ⟨by rw [if_pos (by simp [q_is, q_at, hlen, ← h55, ← h55_1, ← h55_2, ← h55_3, ← h55_4])], rfl⟩
            · skip
              refine V_blk C (pc' := 59) (σ' := σ) (L' := [some (.ref 19), some (.int 10), some (.int 15), some (.int 14)]) (st' := [.int 0]) (g_c dX2_isWord_58 g_n) rfl rfl ?_
              refine V_zret C (by decide) dX2_isWord_59 ?_
              exact ⟨by rw [if_neg (by simp [q_is, q_at, ← h55, ← h55_1, ← h55_2, ← h55_3]; exact fun _ z => absurd z.symm h55_4)], rfl⟩
          · skip
            refine V_blk C (pc' := 59) (σ' := σ) (L' := [some (.ref 19), some (.int 10), some (.int 15), some (.int 13)]) (st' := [.int 0]) (g_c dX2_isWord_58 g_n) rfl rfl ?_
            refine V_zret C (by decide) dX2_isWord_59 ?_
            exact ⟨by rw [if_neg (by simp [q_is, q_at, ← h55, ← h55_1, ← h55_2]; exact fun _ z => absurd z.symm h55_3)], rfl⟩
        · skip
          refine V_blk C (pc' := 59) (σ' := σ) (L' := [some (.ref 19), some (.int 10), some (.int 15), some (.int 12)]) (st' := [.int 0]) (g_c dX2_isWord_58 g_n) rfl rfl ?_
          refine V_zret C (by decide) dX2_isWord_59 ?_
          exact ⟨by rw [if_neg (by simp [q_is, q_at, ← h55, ← h55_1]; exact fun _ z => absurd z.symm h55_2)], rfl⟩
      · skip
        refine V_blk C (pc' := 59) (σ' := σ) (L' := [some (.ref 19), some (.int 10), some (.int 15), some (.int 11)]) (st' := [.int 0]) (g_c dX2_isWord_58 g_n) rfl rfl ?_
        refine V_zret C (by decide) dX2_isWord_59 ?_
        exact ⟨by rw [if_neg (by simp [q_is, q_at, ← h55]; exact fun _ z => absurd z.symm h55_1)], rfl⟩
    · skip
      refine V_blk C (pc' := 59) (σ' := σ) (L' := [some (.ref 19), some (.int 10), some (.int 15), some (.int 10)]) (st' := [.int 0]) (g_c dX2_isWord_58 g_n) rfl rfl ?_
      refine V_zret C (by decide) dX2_isWord_59 ?_
      exact ⟨by rw [if_neg (by simp [q_is, q_at]; exact fun _ z => absurd z.symm h55)], rfl⟩
set_option maxHeartbeats 4000000 in
set_option maxRecDepth 100000 in
theorem c_X2_isWord3 (σ : gS) {n : Nat} (hn : σ 19 1 = nI n) (hn160 : n ≤ 160) {i e : Nat} (hie : i ≤ e) (he : e ≤ n) (h4 : σ 19 4 = nI e) (h6 : σ 19 6 = nI i) : g_Met yX2_isWord cX2_isWord 4 (some .boolean) 5 kR [.ref 19, .int 16, .int 20] σ (fun rv s => rv = some (.int (if q_is (q_l (σ 20) n) i e [114, 97, 116, 101] = true then 1 else 0)) ∧ s = σ) := by
  have hsub : σ 19 4 - σ 19 6 = 4 ↔ e - i = 4 := by
    rw [h4, h6, pk_sub hie]
    exact nI_eq (a := e - i) (b := 4) (by omega) (by omega)
  refine g_Met.of (own := 2) (L := [some (.ref 19), some (.int 16), some (.int 20), none]) (by decide) rfl rfl (fun ad => Nat.le_of_ble_eq_true rfl) (fun ad => rfl) (fun X G K C => ?_)
  refine V_blk C (pc' := 12) (σ' := σ) (L' := [some (.ref 19), some (.int 16), some (.int 20), none]) (st' := [.int ((σ 19 4) - (σ 19 6)), .int 4]) (g_c dX2_isWord_0 (g_c dX2_isWord_1 (g_c dX2_isWord_2 (g_c dX2_isWord_3 (g_c dX2_isWord_4 (g_c dX2_isWord_7 (g_c dX2_isWord_8 (g_c dX2_isWord_11 g_n)))))))) rfl rfl ?_
  refine V_icmp_ne C (tgt := 28) dX2_isWord_12 (by decide) (fun h12 => ?_) (fun h12 => ?_)
  · skip
    refine V_blk C (pc' := 29) (σ' := σ) (L' := [some (.ref 19), some (.int 16), some (.int 20), none]) (st' := [.int 0]) (g_c dX2_isWord_28 g_n) rfl rfl ?_
    refine V_zret C (by decide) dX2_isWord_29 ?_
    have hlen : ¬ e - i = 4 := fun z => h12 (hsub.mpr z).symm
    exact ⟨by rw [if_neg (by simp [q_is, hlen])], rfl⟩
  · skip
    refine V_blk C (pc' := 16) (σ' := σ) (L' := [some (.ref 19), some (.int 16), some (.int 20), none]) (st' := [.int 16]) (g_c dX2_isWord_15 g_n) rfl rfl ?_
    refine V_if_lt C (tgt := 28) dX2_isWord_16 (by decide) (fun z => absurd z (by decide)) (fun _ => ?_)
    refine V_blk C (pc' := 20) (σ' := σ) (L' := [some (.ref 19), some (.int 16), some (.int 20), none]) (st' := [.int 20]) (g_c dX2_isWord_19 g_n) rfl rfl ?_
    refine V_ldcS1 C dX2_isWord_20 ?_
    refine V_eq rfl rfl (st' := [.ref (100 + 1), .int 20]) rfl ?_
    refine V_callVs C (i := 1) cv_X2_110 (c_lenW σ) (by decide) rfl (by decide) (by decide) (fun _ h => h) (As := []) (rest := [.int 20]) rfl rfl (Nat.le_of_ble_eq_true rfl) dX2_isWord_22 ?_
    refine V_icmp_le2 C (tgt := 30) dX2_isWord_25 (by decide) (fun _ => ?_) (fun z => absurd z (by decide))
    refine V_blk C (pc' := 34) (σ' := σ) (L' := [some (.ref 19), some (.int 16), some (.int 20), some (.int 16)]) (st' := [.int 20, .int 16]) (g_c dX2_isWord_30 (g_c dX2_isWord_31 (g_c dX2_isWord_32 (g_c dX2_isWord_33 g_n)))) rfl rfl ?_
    refine V_icmp_ge2 C (tgt := 66) dX2_isWord_34 (by decide) (fun z => absurd z (by decide)) (fun _ => ?_)
    refine V_ldcS1 C dX2_isWord_37 ?_
    refine V_eq rfl rfl (st' := [.ref (100 + 1)]) rfl ?_
    refine V_blk C (pc' := 40) (σ' := σ) (L' := [some (.ref 19), some (.int 16), some (.int 20), some (.int 16)]) (st' := [.int 16, .ref (100 + 1)]) (g_c dX2_isWord_39 g_n) rfl rfl ?_
    refine V_callVs C (i := 1) cv_X2_113 (c_chW σ (k := 16) (c := 114) (by decide) (by decide)) (by decide) rfl (by decide) (by decide) (fun _ h => h) (As := [.int 16]) (rest := []) rfl rfl (Nat.le_of_ble_eq_true rfl) dX2_isWord_40 ?_
    refine V_blk C (pc' := 52) (σ' := σ) (L' := [some (.ref 19), some (.int 16), some (.int 20), some (.int 16)]) (st' := [.int (((σ 19 6) + 16) - 16), .ref 19, .int 114]) (g_c dX2_isWord_43 (g_c dX2_isWord_44 (g_c dX2_isWord_45 (g_c dX2_isWord_48 (g_c dX2_isWord_49 (g_c dX2_isWord_50 (g_c dX2_isWord_51 g_n))))))) rfl rfl ?_
    refine V_eq (st' := [.int (nI i), .ref 19, .int 114]) rfl rfl (by rw [show (((σ 19 6) + 16) - 16) = nI i from g_wpos (a := 16) (f := 16) (k := 0) h6 (by decide)]) ?_
    refine V_callVI C cv_X2_91 (c_X2_letterAt σ (i := i) (by omega) hn hn160) ⟨_, _, _, _, rfl, rfl⟩ (by rfl) (by decide) (by decide) (fun _ h => h) (As := [.int (nI i)]) (rest := [.int 114]) rfl rfl (Nat.le_of_ble_eq_true rfl) dX2_isWord_52 ?_
    refine V_icmp_eq C (tgt := 60) dX2_isWord_55 (by decide) (fun h55 => ?_) (fun h55 => ?_)
    · skip
      refine V_blk C (pc' := 63) (σ' := σ) (L' := [some (.ref 19), some (.int 16), some (.int 20), some (.int 17)]) (st' := []) (g_c dX2_isWord_60 g_n) rfl rfl ?_
      refine V_goto C (tgt := 32) dX2_isWord_63 (by decide) ?_
      refine V_blk C (pc' := 34) (σ' := σ) (L' := [some (.ref 19), some (.int 16), some (.int 20), some (.int 17)]) (st' := [.int 20, .int 17]) (g_c dX2_isWord_32 (g_c dX2_isWord_33 g_n)) rfl rfl ?_
      refine V_icmp_ge2 C (tgt := 66) dX2_isWord_34 (by decide) (fun z => absurd z (by decide)) (fun _ => ?_)
      refine V_ldcS1 C dX2_isWord_37 ?_
      refine V_eq rfl rfl (st' := [.ref (100 + 1)]) rfl ?_
      refine V_blk C (pc' := 40) (σ' := σ) (L' := [some (.ref 19), some (.int 16), some (.int 20), some (.int 17)]) (st' := [.int 17, .ref (100 + 1)]) (g_c dX2_isWord_39 g_n) rfl rfl ?_
      refine V_callVs C (i := 1) cv_X2_113 (c_chW σ (k := 17) (c := 97) (by decide) (by decide)) (by decide) rfl (by decide) (by decide) (fun _ h => h) (As := [.int 17]) (rest := []) rfl rfl (Nat.le_of_ble_eq_true rfl) dX2_isWord_40 ?_
      refine V_blk C (pc' := 52) (σ' := σ) (L' := [some (.ref 19), some (.int 16), some (.int 20), some (.int 17)]) (st' := [.int (((σ 19 6) + 17) - 16), .ref 19, .int 97]) (g_c dX2_isWord_43 (g_c dX2_isWord_44 (g_c dX2_isWord_45 (g_c dX2_isWord_48 (g_c dX2_isWord_49 (g_c dX2_isWord_50 (g_c dX2_isWord_51 g_n))))))) rfl rfl ?_
      refine V_eq (st' := [.int (nI (i + 1)), .ref 19, .int 97]) rfl rfl (by rw [show (((σ 19 6) + 17) - 16) = nI (i + 1) from g_wpos (a := 17) (f := 16) (k := 1) h6 (by decide)]) ?_
      refine V_callVI C cv_X2_91 (c_X2_letterAt σ (i := (i + 1)) (by omega) hn hn160) ⟨_, _, _, _, rfl, rfl⟩ (by rfl) (by decide) (by decide) (fun _ h => h) (As := [.int (nI (i + 1))]) (rest := [.int 97]) rfl rfl (Nat.le_of_ble_eq_true rfl) dX2_isWord_52 ?_
      refine V_icmp_eq C (tgt := 60) dX2_isWord_55 (by decide) (fun h55_1 => ?_) (fun h55_1 => ?_)
      · skip
        refine V_blk C (pc' := 63) (σ' := σ) (L' := [some (.ref 19), some (.int 16), some (.int 20), some (.int 18)]) (st' := []) (g_c dX2_isWord_60 g_n) rfl rfl ?_
        refine V_goto C (tgt := 32) dX2_isWord_63 (by decide) ?_
        refine V_blk C (pc' := 34) (σ' := σ) (L' := [some (.ref 19), some (.int 16), some (.int 20), some (.int 18)]) (st' := [.int 20, .int 18]) (g_c dX2_isWord_32 (g_c dX2_isWord_33 g_n)) rfl rfl ?_
        refine V_icmp_ge2 C (tgt := 66) dX2_isWord_34 (by decide) (fun z => absurd z (by decide)) (fun _ => ?_)
        refine V_ldcS1 C dX2_isWord_37 ?_
        refine V_eq rfl rfl (st' := [.ref (100 + 1)]) rfl ?_
        refine V_blk C (pc' := 40) (σ' := σ) (L' := [some (.ref 19), some (.int 16), some (.int 20), some (.int 18)]) (st' := [.int 18, .ref (100 + 1)]) (g_c dX2_isWord_39 g_n) rfl rfl ?_
        refine V_callVs C (i := 1) cv_X2_113 (c_chW σ (k := 18) (c := 116) (by decide) (by decide)) (by decide) rfl (by decide) (by decide) (fun _ h => h) (As := [.int 18]) (rest := []) rfl rfl (Nat.le_of_ble_eq_true rfl) dX2_isWord_40 ?_
        refine V_blk C (pc' := 52) (σ' := σ) (L' := [some (.ref 19), some (.int 16), some (.int 20), some (.int 18)]) (st' := [.int (((σ 19 6) + 18) - 16), .ref 19, .int 116]) (g_c dX2_isWord_43 (g_c dX2_isWord_44 (g_c dX2_isWord_45 (g_c dX2_isWord_48 (g_c dX2_isWord_49 (g_c dX2_isWord_50 (g_c dX2_isWord_51 g_n))))))) rfl rfl ?_
        refine V_eq (st' := [.int (nI ((i + 1) + 1)), .ref 19, .int 116]) rfl rfl (by rw [show (((σ 19 6) + 18) - 16) = nI ((i + 1) + 1) from g_wpos (a := 18) (f := 16) (k := 2) h6 (by decide)]) ?_
        refine V_callVI C cv_X2_91 (c_X2_letterAt σ (i := ((i + 1) + 1)) (by omega) hn hn160) ⟨_, _, _, _, rfl, rfl⟩ (by rfl) (by decide) (by decide) (fun _ h => h) (As := [.int (nI ((i + 1) + 1))]) (rest := [.int 116]) rfl rfl (Nat.le_of_ble_eq_true rfl) dX2_isWord_52 ?_
        refine V_icmp_eq C (tgt := 60) dX2_isWord_55 (by decide) (fun h55_2 => ?_) (fun h55_2 => ?_)
        · skip
          refine V_blk C (pc' := 63) (σ' := σ) (L' := [some (.ref 19), some (.int 16), some (.int 20), some (.int 19)]) (st' := []) (g_c dX2_isWord_60 g_n) rfl rfl ?_
          refine V_goto C (tgt := 32) dX2_isWord_63 (by decide) ?_
          refine V_blk C (pc' := 34) (σ' := σ) (L' := [some (.ref 19), some (.int 16), some (.int 20), some (.int 19)]) (st' := [.int 20, .int 19]) (g_c dX2_isWord_32 (g_c dX2_isWord_33 g_n)) rfl rfl ?_
          refine V_icmp_ge2 C (tgt := 66) dX2_isWord_34 (by decide) (fun z => absurd z (by decide)) (fun _ => ?_)
          refine V_ldcS1 C dX2_isWord_37 ?_
          refine V_eq rfl rfl (st' := [.ref (100 + 1)]) rfl ?_
          refine V_blk C (pc' := 40) (σ' := σ) (L' := [some (.ref 19), some (.int 16), some (.int 20), some (.int 19)]) (st' := [.int 19, .ref (100 + 1)]) (g_c dX2_isWord_39 g_n) rfl rfl ?_
          refine V_callVs C (i := 1) cv_X2_113 (c_chW σ (k := 19) (c := 101) (by decide) (by decide)) (by decide) rfl (by decide) (by decide) (fun _ h => h) (As := [.int 19]) (rest := []) rfl rfl (Nat.le_of_ble_eq_true rfl) dX2_isWord_40 ?_
          refine V_blk C (pc' := 52) (σ' := σ) (L' := [some (.ref 19), some (.int 16), some (.int 20), some (.int 19)]) (st' := [.int (((σ 19 6) + 19) - 16), .ref 19, .int 101]) (g_c dX2_isWord_43 (g_c dX2_isWord_44 (g_c dX2_isWord_45 (g_c dX2_isWord_48 (g_c dX2_isWord_49 (g_c dX2_isWord_50 (g_c dX2_isWord_51 g_n))))))) rfl rfl ?_
          refine V_eq (st' := [.int (nI (((i + 1) + 1) + 1)), .ref 19, .int 101]) rfl rfl (by rw [show (((σ 19 6) + 19) - 16) = nI (((i + 1) + 1) + 1) from g_wpos (a := 19) (f := 16) (k := 3) h6 (by decide)]) ?_
          refine V_callVI C cv_X2_91 (c_X2_letterAt σ (i := (((i + 1) + 1) + 1)) (by omega) hn hn160) ⟨_, _, _, _, rfl, rfl⟩ (by rfl) (by decide) (by decide) (fun _ h => h) (As := [.int (nI (((i + 1) + 1) + 1))]) (rest := [.int 101]) rfl rfl (Nat.le_of_ble_eq_true rfl) dX2_isWord_52 ?_
          refine V_icmp_eq C (tgt := 60) dX2_isWord_55 (by decide) (fun h55_3 => ?_) (fun h55_3 => ?_)
          · skip
            refine V_blk C (pc' := 63) (σ' := σ) (L' := [some (.ref 19), some (.int 16), some (.int 20), some (.int 20)]) (st' := []) (g_c dX2_isWord_60 g_n) rfl rfl ?_
            refine V_goto C (tgt := 32) dX2_isWord_63 (by decide) ?_
            refine V_blk C (pc' := 34) (σ' := σ) (L' := [some (.ref 19), some (.int 16), some (.int 20), some (.int 20)]) (st' := [.int 20, .int 20]) (g_c dX2_isWord_32 (g_c dX2_isWord_33 g_n)) rfl rfl ?_
            refine V_icmp_ge2 C (tgt := 66) dX2_isWord_34 (by decide) (fun _ => ?_) (fun z => absurd z (by decide))
            refine V_blk C (pc' := 67) (σ' := σ) (L' := [some (.ref 19), some (.int 16), some (.int 20), some (.int 20)]) (st' := [.int 1]) (g_c dX2_isWord_66 g_n) rfl rfl ?_
            refine V_zret C (by decide) dX2_isWord_67 ?_
            have hlen : e - i = 4 := hsub.mp h12.symm
            exact ⟨by rw [if_pos (by simp [q_is, q_at, hlen, ← h55, ← h55_1, ← h55_2, ← h55_3])], rfl⟩
          · skip
            refine V_blk C (pc' := 59) (σ' := σ) (L' := [some (.ref 19), some (.int 16), some (.int 20), some (.int 19)]) (st' := [.int 0]) (g_c dX2_isWord_58 g_n) rfl rfl ?_
            refine V_zret C (by decide) dX2_isWord_59 ?_
            exact ⟨by rw [if_neg (by simp [q_is, q_at, ← h55, ← h55_1, ← h55_2]; exact fun _ z => absurd z.symm h55_3)], rfl⟩
        · skip
          refine V_blk C (pc' := 59) (σ' := σ) (L' := [some (.ref 19), some (.int 16), some (.int 20), some (.int 18)]) (st' := [.int 0]) (g_c dX2_isWord_58 g_n) rfl rfl ?_
          refine V_zret C (by decide) dX2_isWord_59 ?_
          exact ⟨by rw [if_neg (by simp [q_is, q_at, ← h55, ← h55_1]; exact fun _ z => absurd z.symm h55_2)], rfl⟩
      · skip
        refine V_blk C (pc' := 59) (σ' := σ) (L' := [some (.ref 19), some (.int 16), some (.int 20), some (.int 17)]) (st' := [.int 0]) (g_c dX2_isWord_58 g_n) rfl rfl ?_
        refine V_zret C (by decide) dX2_isWord_59 ?_
        exact ⟨by rw [if_neg (by simp [q_is, q_at, ← h55]; exact fun _ z => absurd z.symm h55_1)], rfl⟩
    · skip
      refine V_blk C (pc' := 59) (σ' := σ) (L' := [some (.ref 19), some (.int 16), some (.int 20), some (.int 16)]) (st' := [.int 0]) (g_c dX2_isWord_58 g_n) rfl rfl ?_
      refine V_zret C (by decide) dX2_isWord_59 ?_
      exact ⟨by rw [if_neg (by simp [q_is, q_at]; exact fun _ z => absurd z.symm h55)], rfl⟩
set_option maxHeartbeats 4000000 in
set_option maxRecDepth 100000 in
theorem c_X2_isWord4 (σ : gS) {n : Nat} (hn : σ 19 1 = nI n) (hn160 : n ≤ 160) {i e : Nat} (hie : i ≤ e) (he : e ≤ n) (h4 : σ 19 4 = nI e) (h6 : σ 19 6 = nI i) : g_Met yX2_isWord cX2_isWord 4 (some .boolean) 5 kR [.ref 19, .int 21, .int 25] σ (fun rv s => rv = some (.int (if q_is (q_l (σ 20) n) i e [115, 105, 122, 101] = true then 1 else 0)) ∧ s = σ) := by
  have hsub : σ 19 4 - σ 19 6 = 4 ↔ e - i = 4 := by
    rw [h4, h6, pk_sub hie]
    exact nI_eq (a := e - i) (b := 4) (by omega) (by omega)
  refine g_Met.of (own := 2) (L := [some (.ref 19), some (.int 21), some (.int 25), none]) (by decide) rfl rfl (fun ad => Nat.le_of_ble_eq_true rfl) (fun ad => rfl) (fun X G K C => ?_)
  refine V_blk C (pc' := 12) (σ' := σ) (L' := [some (.ref 19), some (.int 21), some (.int 25), none]) (st' := [.int ((σ 19 4) - (σ 19 6)), .int 4]) (g_c dX2_isWord_0 (g_c dX2_isWord_1 (g_c dX2_isWord_2 (g_c dX2_isWord_3 (g_c dX2_isWord_4 (g_c dX2_isWord_7 (g_c dX2_isWord_8 (g_c dX2_isWord_11 g_n)))))))) rfl rfl ?_
  refine V_icmp_ne C (tgt := 28) dX2_isWord_12 (by decide) (fun h12 => ?_) (fun h12 => ?_)
  · skip
    refine V_blk C (pc' := 29) (σ' := σ) (L' := [some (.ref 19), some (.int 21), some (.int 25), none]) (st' := [.int 0]) (g_c dX2_isWord_28 g_n) rfl rfl ?_
    refine V_zret C (by decide) dX2_isWord_29 ?_
    have hlen : ¬ e - i = 4 := fun z => h12 (hsub.mpr z).symm
    exact ⟨by rw [if_neg (by simp [q_is, hlen])], rfl⟩
  · skip
    refine V_blk C (pc' := 16) (σ' := σ) (L' := [some (.ref 19), some (.int 21), some (.int 25), none]) (st' := [.int 21]) (g_c dX2_isWord_15 g_n) rfl rfl ?_
    refine V_if_lt C (tgt := 28) dX2_isWord_16 (by decide) (fun z => absurd z (by decide)) (fun _ => ?_)
    refine V_blk C (pc' := 20) (σ' := σ) (L' := [some (.ref 19), some (.int 21), some (.int 25), none]) (st' := [.int 25]) (g_c dX2_isWord_19 g_n) rfl rfl ?_
    refine V_ldcS1 C dX2_isWord_20 ?_
    refine V_eq rfl rfl (st' := [.ref (100 + 1), .int 25]) rfl ?_
    refine V_callVs C (i := 1) cv_X2_110 (c_lenW σ) (by decide) rfl (by decide) (by decide) (fun _ h => h) (As := []) (rest := [.int 25]) rfl rfl (Nat.le_of_ble_eq_true rfl) dX2_isWord_22 ?_
    refine V_icmp_le2 C (tgt := 30) dX2_isWord_25 (by decide) (fun _ => ?_) (fun z => absurd z (by decide))
    refine V_blk C (pc' := 34) (σ' := σ) (L' := [some (.ref 19), some (.int 21), some (.int 25), some (.int 21)]) (st' := [.int 25, .int 21]) (g_c dX2_isWord_30 (g_c dX2_isWord_31 (g_c dX2_isWord_32 (g_c dX2_isWord_33 g_n)))) rfl rfl ?_
    refine V_icmp_ge2 C (tgt := 66) dX2_isWord_34 (by decide) (fun z => absurd z (by decide)) (fun _ => ?_)
    refine V_ldcS1 C dX2_isWord_37 ?_
    refine V_eq rfl rfl (st' := [.ref (100 + 1)]) rfl ?_
    refine V_blk C (pc' := 40) (σ' := σ) (L' := [some (.ref 19), some (.int 21), some (.int 25), some (.int 21)]) (st' := [.int 21, .ref (100 + 1)]) (g_c dX2_isWord_39 g_n) rfl rfl ?_
    refine V_callVs C (i := 1) cv_X2_113 (c_chW σ (k := 21) (c := 115) (by decide) (by decide)) (by decide) rfl (by decide) (by decide) (fun _ h => h) (As := [.int 21]) (rest := []) rfl rfl (Nat.le_of_ble_eq_true rfl) dX2_isWord_40 ?_
    refine V_blk C (pc' := 52) (σ' := σ) (L' := [some (.ref 19), some (.int 21), some (.int 25), some (.int 21)]) (st' := [.int (((σ 19 6) + 21) - 21), .ref 19, .int 115]) (g_c dX2_isWord_43 (g_c dX2_isWord_44 (g_c dX2_isWord_45 (g_c dX2_isWord_48 (g_c dX2_isWord_49 (g_c dX2_isWord_50 (g_c dX2_isWord_51 g_n))))))) rfl rfl ?_
    refine V_eq (st' := [.int (nI i), .ref 19, .int 115]) rfl rfl (by rw [show (((σ 19 6) + 21) - 21) = nI i from g_wpos (a := 21) (f := 21) (k := 0) h6 (by decide)]) ?_
    refine V_callVI C cv_X2_91 (c_X2_letterAt σ (i := i) (by omega) hn hn160) ⟨_, _, _, _, rfl, rfl⟩ (by rfl) (by decide) (by decide) (fun _ h => h) (As := [.int (nI i)]) (rest := [.int 115]) rfl rfl (Nat.le_of_ble_eq_true rfl) dX2_isWord_52 ?_
    refine V_icmp_eq C (tgt := 60) dX2_isWord_55 (by decide) (fun h55 => ?_) (fun h55 => ?_)
    · skip
      refine V_blk C (pc' := 63) (σ' := σ) (L' := [some (.ref 19), some (.int 21), some (.int 25), some (.int 22)]) (st' := []) (g_c dX2_isWord_60 g_n) rfl rfl ?_
      refine V_goto C (tgt := 32) dX2_isWord_63 (by decide) ?_
      refine V_blk C (pc' := 34) (σ' := σ) (L' := [some (.ref 19), some (.int 21), some (.int 25), some (.int 22)]) (st' := [.int 25, .int 22]) (g_c dX2_isWord_32 (g_c dX2_isWord_33 g_n)) rfl rfl ?_
      refine V_icmp_ge2 C (tgt := 66) dX2_isWord_34 (by decide) (fun z => absurd z (by decide)) (fun _ => ?_)
      refine V_ldcS1 C dX2_isWord_37 ?_
      refine V_eq rfl rfl (st' := [.ref (100 + 1)]) rfl ?_
      refine V_blk C (pc' := 40) (σ' := σ) (L' := [some (.ref 19), some (.int 21), some (.int 25), some (.int 22)]) (st' := [.int 22, .ref (100 + 1)]) (g_c dX2_isWord_39 g_n) rfl rfl ?_
      refine V_callVs C (i := 1) cv_X2_113 (c_chW σ (k := 22) (c := 105) (by decide) (by decide)) (by decide) rfl (by decide) (by decide) (fun _ h => h) (As := [.int 22]) (rest := []) rfl rfl (Nat.le_of_ble_eq_true rfl) dX2_isWord_40 ?_
      refine V_blk C (pc' := 52) (σ' := σ) (L' := [some (.ref 19), some (.int 21), some (.int 25), some (.int 22)]) (st' := [.int (((σ 19 6) + 22) - 21), .ref 19, .int 105]) (g_c dX2_isWord_43 (g_c dX2_isWord_44 (g_c dX2_isWord_45 (g_c dX2_isWord_48 (g_c dX2_isWord_49 (g_c dX2_isWord_50 (g_c dX2_isWord_51 g_n))))))) rfl rfl ?_
      refine V_eq (st' := [.int (nI (i + 1)), .ref 19, .int 105]) rfl rfl (by rw [show (((σ 19 6) + 22) - 21) = nI (i + 1) from g_wpos (a := 22) (f := 21) (k := 1) h6 (by decide)]) ?_
      refine V_callVI C cv_X2_91 (c_X2_letterAt σ (i := (i + 1)) (by omega) hn hn160) ⟨_, _, _, _, rfl, rfl⟩ (by rfl) (by decide) (by decide) (fun _ h => h) (As := [.int (nI (i + 1))]) (rest := [.int 105]) rfl rfl (Nat.le_of_ble_eq_true rfl) dX2_isWord_52 ?_
      refine V_icmp_eq C (tgt := 60) dX2_isWord_55 (by decide) (fun h55_1 => ?_) (fun h55_1 => ?_)
      · skip
        refine V_blk C (pc' := 63) (σ' := σ) (L' := [some (.ref 19), some (.int 21), some (.int 25), some (.int 23)]) (st' := []) (g_c dX2_isWord_60 g_n) rfl rfl ?_
        refine V_goto C (tgt := 32) dX2_isWord_63 (by decide) ?_
        refine V_blk C (pc' := 34) (σ' := σ) (L' := [some (.ref 19), some (.int 21), some (.int 25), some (.int 23)]) (st' := [.int 25, .int 23]) (g_c dX2_isWord_32 (g_c dX2_isWord_33 g_n)) rfl rfl ?_
        refine V_icmp_ge2 C (tgt := 66) dX2_isWord_34 (by decide) (fun z => absurd z (by decide)) (fun _ => ?_)
        refine V_ldcS1 C dX2_isWord_37 ?_
        refine V_eq rfl rfl (st' := [.ref (100 + 1)]) rfl ?_
        refine V_blk C (pc' := 40) (σ' := σ) (L' := [some (.ref 19), some (.int 21), some (.int 25), some (.int 23)]) (st' := [.int 23, .ref (100 + 1)]) (g_c dX2_isWord_39 g_n) rfl rfl ?_
        refine V_callVs C (i := 1) cv_X2_113 (c_chW σ (k := 23) (c := 122) (by decide) (by decide)) (by decide) rfl (by decide) (by decide) (fun _ h => h) (As := [.int 23]) (rest := []) rfl rfl (Nat.le_of_ble_eq_true rfl) dX2_isWord_40 ?_
        refine V_blk C (pc' := 52) (σ' := σ) (L' := [some (.ref 19), some (.int 21), some (.int 25), some (.int 23)]) (st' := [.int (((σ 19 6) + 23) - 21), .ref 19, .int 122]) (g_c dX2_isWord_43 (g_c dX2_isWord_44 (g_c dX2_isWord_45 (g_c dX2_isWord_48 (g_c dX2_isWord_49 (g_c dX2_isWord_50 (g_c dX2_isWord_51 g_n))))))) rfl rfl ?_
        refine V_eq (st' := [.int (nI ((i + 1) + 1)), .ref 19, .int 122]) rfl rfl (by rw [show (((σ 19 6) + 23) - 21) = nI ((i + 1) + 1) from g_wpos (a := 23) (f := 21) (k := 2) h6 (by decide)]) ?_
        refine V_callVI C cv_X2_91 (c_X2_letterAt σ (i := ((i + 1) + 1)) (by omega) hn hn160) ⟨_, _, _, _, rfl, rfl⟩ (by rfl) (by decide) (by decide) (fun _ h => h) (As := [.int (nI ((i + 1) + 1))]) (rest := [.int 122]) rfl rfl (Nat.le_of_ble_eq_true rfl) dX2_isWord_52 ?_
        refine V_icmp_eq C (tgt := 60) dX2_isWord_55 (by decide) (fun h55_2 => ?_) (fun h55_2 => ?_)
        · skip
          refine V_blk C (pc' := 63) (σ' := σ) (L' := [some (.ref 19), some (.int 21), some (.int 25), some (.int 24)]) (st' := []) (g_c dX2_isWord_60 g_n) rfl rfl ?_
          refine V_goto C (tgt := 32) dX2_isWord_63 (by decide) ?_
          refine V_blk C (pc' := 34) (σ' := σ) (L' := [some (.ref 19), some (.int 21), some (.int 25), some (.int 24)]) (st' := [.int 25, .int 24]) (g_c dX2_isWord_32 (g_c dX2_isWord_33 g_n)) rfl rfl ?_
          refine V_icmp_ge2 C (tgt := 66) dX2_isWord_34 (by decide) (fun z => absurd z (by decide)) (fun _ => ?_)
          refine V_ldcS1 C dX2_isWord_37 ?_
          refine V_eq rfl rfl (st' := [.ref (100 + 1)]) rfl ?_
          refine V_blk C (pc' := 40) (σ' := σ) (L' := [some (.ref 19), some (.int 21), some (.int 25), some (.int 24)]) (st' := [.int 24, .ref (100 + 1)]) (g_c dX2_isWord_39 g_n) rfl rfl ?_
          refine V_callVs C (i := 1) cv_X2_113 (c_chW σ (k := 24) (c := 101) (by decide) (by decide)) (by decide) rfl (by decide) (by decide) (fun _ h => h) (As := [.int 24]) (rest := []) rfl rfl (Nat.le_of_ble_eq_true rfl) dX2_isWord_40 ?_
          refine V_blk C (pc' := 52) (σ' := σ) (L' := [some (.ref 19), some (.int 21), some (.int 25), some (.int 24)]) (st' := [.int (((σ 19 6) + 24) - 21), .ref 19, .int 101]) (g_c dX2_isWord_43 (g_c dX2_isWord_44 (g_c dX2_isWord_45 (g_c dX2_isWord_48 (g_c dX2_isWord_49 (g_c dX2_isWord_50 (g_c dX2_isWord_51 g_n))))))) rfl rfl ?_
          refine V_eq (st' := [.int (nI (((i + 1) + 1) + 1)), .ref 19, .int 101]) rfl rfl (by rw [show (((σ 19 6) + 24) - 21) = nI (((i + 1) + 1) + 1) from g_wpos (a := 24) (f := 21) (k := 3) h6 (by decide)]) ?_
          refine V_callVI C cv_X2_91 (c_X2_letterAt σ (i := (((i + 1) + 1) + 1)) (by omega) hn hn160) ⟨_, _, _, _, rfl, rfl⟩ (by rfl) (by decide) (by decide) (fun _ h => h) (As := [.int (nI (((i + 1) + 1) + 1))]) (rest := [.int 101]) rfl rfl (Nat.le_of_ble_eq_true rfl) dX2_isWord_52 ?_
          refine V_icmp_eq C (tgt := 60) dX2_isWord_55 (by decide) (fun h55_3 => ?_) (fun h55_3 => ?_)
          · skip
            refine V_blk C (pc' := 63) (σ' := σ) (L' := [some (.ref 19), some (.int 21), some (.int 25), some (.int 25)]) (st' := []) (g_c dX2_isWord_60 g_n) rfl rfl ?_
            refine V_goto C (tgt := 32) dX2_isWord_63 (by decide) ?_
            refine V_blk C (pc' := 34) (σ' := σ) (L' := [some (.ref 19), some (.int 21), some (.int 25), some (.int 25)]) (st' := [.int 25, .int 25]) (g_c dX2_isWord_32 (g_c dX2_isWord_33 g_n)) rfl rfl ?_
            refine V_icmp_ge2 C (tgt := 66) dX2_isWord_34 (by decide) (fun _ => ?_) (fun z => absurd z (by decide))
            refine V_blk C (pc' := 67) (σ' := σ) (L' := [some (.ref 19), some (.int 21), some (.int 25), some (.int 25)]) (st' := [.int 1]) (g_c dX2_isWord_66 g_n) rfl rfl ?_
            refine V_zret C (by decide) dX2_isWord_67 ?_
            have hlen : e - i = 4 := hsub.mp h12.symm
            exact ⟨by rw [if_pos (by simp [q_is, q_at, hlen, ← h55, ← h55_1, ← h55_2, ← h55_3])], rfl⟩
          · skip
            refine V_blk C (pc' := 59) (σ' := σ) (L' := [some (.ref 19), some (.int 21), some (.int 25), some (.int 24)]) (st' := [.int 0]) (g_c dX2_isWord_58 g_n) rfl rfl ?_
            refine V_zret C (by decide) dX2_isWord_59 ?_
            exact ⟨by rw [if_neg (by simp [q_is, q_at, ← h55, ← h55_1, ← h55_2]; exact fun _ z => absurd z.symm h55_3)], rfl⟩
        · skip
          refine V_blk C (pc' := 59) (σ' := σ) (L' := [some (.ref 19), some (.int 21), some (.int 25), some (.int 23)]) (st' := [.int 0]) (g_c dX2_isWord_58 g_n) rfl rfl ?_
          refine V_zret C (by decide) dX2_isWord_59 ?_
          exact ⟨by rw [if_neg (by simp [q_is, q_at, ← h55, ← h55_1]; exact fun _ z => absurd z.symm h55_2)], rfl⟩
      · skip
        refine V_blk C (pc' := 59) (σ' := σ) (L' := [some (.ref 19), some (.int 21), some (.int 25), some (.int 22)]) (st' := [.int 0]) (g_c dX2_isWord_58 g_n) rfl rfl ?_
        refine V_zret C (by decide) dX2_isWord_59 ?_
        exact ⟨by rw [if_neg (by simp [q_is, q_at, ← h55]; exact fun _ z => absurd z.symm h55_1)], rfl⟩
    · skip
      refine V_blk C (pc' := 59) (σ' := σ) (L' := [some (.ref 19), some (.int 21), some (.int 25), some (.int 21)]) (st' := [.int 0]) (g_c dX2_isWord_58 g_n) rfl rfl ?_
      refine V_zret C (by decide) dX2_isWord_59 ?_
      exact ⟨by rw [if_neg (by simp [q_is, q_at]; exact fun _ z => absurd z.symm h55)], rfl⟩
set_option maxHeartbeats 4000000 in
set_option maxRecDepth 100000 in
theorem c_X2_isWord5 (σ : gS) {n : Nat} (hn : σ 19 1 = nI n) (hn160 : n ≤ 160) {i e : Nat} (hie : i ≤ e) (he : e ≤ n) (h4 : σ 19 4 = nI e) (h6 : σ 19 6 = nI i) : g_Met yX2_isWord cX2_isWord 4 (some .boolean) 5 kR [.ref 19, .int 26, .int 30] σ (fun rv s => rv = some (.int (if q_is (q_l (σ 20) n) i e [103, 111, 110, 101] = true then 1 else 0)) ∧ s = σ) := by
  have hsub : σ 19 4 - σ 19 6 = 4 ↔ e - i = 4 := by
    rw [h4, h6, pk_sub hie]
    exact nI_eq (a := e - i) (b := 4) (by omega) (by omega)
  refine g_Met.of (own := 2) (L := [some (.ref 19), some (.int 26), some (.int 30), none]) (by decide) rfl rfl (fun ad => Nat.le_of_ble_eq_true rfl) (fun ad => rfl) (fun X G K C => ?_)
  refine V_blk C (pc' := 12) (σ' := σ) (L' := [some (.ref 19), some (.int 26), some (.int 30), none]) (st' := [.int ((σ 19 4) - (σ 19 6)), .int 4]) (g_c dX2_isWord_0 (g_c dX2_isWord_1 (g_c dX2_isWord_2 (g_c dX2_isWord_3 (g_c dX2_isWord_4 (g_c dX2_isWord_7 (g_c dX2_isWord_8 (g_c dX2_isWord_11 g_n)))))))) rfl rfl ?_
  refine V_icmp_ne C (tgt := 28) dX2_isWord_12 (by decide) (fun h12 => ?_) (fun h12 => ?_)
  · skip
    refine V_blk C (pc' := 29) (σ' := σ) (L' := [some (.ref 19), some (.int 26), some (.int 30), none]) (st' := [.int 0]) (g_c dX2_isWord_28 g_n) rfl rfl ?_
    refine V_zret C (by decide) dX2_isWord_29 ?_
    have hlen : ¬ e - i = 4 := fun z => h12 (hsub.mpr z).symm
    exact ⟨by rw [if_neg (by simp [q_is, hlen])], rfl⟩
  · skip
    refine V_blk C (pc' := 16) (σ' := σ) (L' := [some (.ref 19), some (.int 26), some (.int 30), none]) (st' := [.int 26]) (g_c dX2_isWord_15 g_n) rfl rfl ?_
    refine V_if_lt C (tgt := 28) dX2_isWord_16 (by decide) (fun z => absurd z (by decide)) (fun _ => ?_)
    refine V_blk C (pc' := 20) (σ' := σ) (L' := [some (.ref 19), some (.int 26), some (.int 30), none]) (st' := [.int 30]) (g_c dX2_isWord_19 g_n) rfl rfl ?_
    refine V_ldcS1 C dX2_isWord_20 ?_
    refine V_eq rfl rfl (st' := [.ref (100 + 1), .int 30]) rfl ?_
    refine V_callVs C (i := 1) cv_X2_110 (c_lenW σ) (by decide) rfl (by decide) (by decide) (fun _ h => h) (As := []) (rest := [.int 30]) rfl rfl (Nat.le_of_ble_eq_true rfl) dX2_isWord_22 ?_
    refine V_icmp_le2 C (tgt := 30) dX2_isWord_25 (by decide) (fun _ => ?_) (fun z => absurd z (by decide))
    refine V_blk C (pc' := 34) (σ' := σ) (L' := [some (.ref 19), some (.int 26), some (.int 30), some (.int 26)]) (st' := [.int 30, .int 26]) (g_c dX2_isWord_30 (g_c dX2_isWord_31 (g_c dX2_isWord_32 (g_c dX2_isWord_33 g_n)))) rfl rfl ?_
    refine V_icmp_ge2 C (tgt := 66) dX2_isWord_34 (by decide) (fun z => absurd z (by decide)) (fun _ => ?_)
    refine V_ldcS1 C dX2_isWord_37 ?_
    refine V_eq rfl rfl (st' := [.ref (100 + 1)]) rfl ?_
    refine V_blk C (pc' := 40) (σ' := σ) (L' := [some (.ref 19), some (.int 26), some (.int 30), some (.int 26)]) (st' := [.int 26, .ref (100 + 1)]) (g_c dX2_isWord_39 g_n) rfl rfl ?_
    refine V_callVs C (i := 1) cv_X2_113 (c_chW σ (k := 26) (c := 103) (by decide) (by decide)) (by decide) rfl (by decide) (by decide) (fun _ h => h) (As := [.int 26]) (rest := []) rfl rfl (Nat.le_of_ble_eq_true rfl) dX2_isWord_40 ?_
    refine V_blk C (pc' := 52) (σ' := σ) (L' := [some (.ref 19), some (.int 26), some (.int 30), some (.int 26)]) (st' := [.int (((σ 19 6) + 26) - 26), .ref 19, .int 103]) (g_c dX2_isWord_43 (g_c dX2_isWord_44 (g_c dX2_isWord_45 (g_c dX2_isWord_48 (g_c dX2_isWord_49 (g_c dX2_isWord_50 (g_c dX2_isWord_51 g_n))))))) rfl rfl ?_
    refine V_eq (st' := [.int (nI i), .ref 19, .int 103]) rfl rfl (by rw [show (((σ 19 6) + 26) - 26) = nI i from g_wpos (a := 26) (f := 26) (k := 0) h6 (by decide)]) ?_
    refine V_callVI C cv_X2_91 (c_X2_letterAt σ (i := i) (by omega) hn hn160) ⟨_, _, _, _, rfl, rfl⟩ (by rfl) (by decide) (by decide) (fun _ h => h) (As := [.int (nI i)]) (rest := [.int 103]) rfl rfl (Nat.le_of_ble_eq_true rfl) dX2_isWord_52 ?_
    refine V_icmp_eq C (tgt := 60) dX2_isWord_55 (by decide) (fun h55 => ?_) (fun h55 => ?_)
    · skip
      refine V_blk C (pc' := 63) (σ' := σ) (L' := [some (.ref 19), some (.int 26), some (.int 30), some (.int 27)]) (st' := []) (g_c dX2_isWord_60 g_n) rfl rfl ?_
      refine V_goto C (tgt := 32) dX2_isWord_63 (by decide) ?_
      refine V_blk C (pc' := 34) (σ' := σ) (L' := [some (.ref 19), some (.int 26), some (.int 30), some (.int 27)]) (st' := [.int 30, .int 27]) (g_c dX2_isWord_32 (g_c dX2_isWord_33 g_n)) rfl rfl ?_
      refine V_icmp_ge2 C (tgt := 66) dX2_isWord_34 (by decide) (fun z => absurd z (by decide)) (fun _ => ?_)
      refine V_ldcS1 C dX2_isWord_37 ?_
      refine V_eq rfl rfl (st' := [.ref (100 + 1)]) rfl ?_
      refine V_blk C (pc' := 40) (σ' := σ) (L' := [some (.ref 19), some (.int 26), some (.int 30), some (.int 27)]) (st' := [.int 27, .ref (100 + 1)]) (g_c dX2_isWord_39 g_n) rfl rfl ?_
      refine V_callVs C (i := 1) cv_X2_113 (c_chW σ (k := 27) (c := 111) (by decide) (by decide)) (by decide) rfl (by decide) (by decide) (fun _ h => h) (As := [.int 27]) (rest := []) rfl rfl (Nat.le_of_ble_eq_true rfl) dX2_isWord_40 ?_
      refine V_blk C (pc' := 52) (σ' := σ) (L' := [some (.ref 19), some (.int 26), some (.int 30), some (.int 27)]) (st' := [.int (((σ 19 6) + 27) - 26), .ref 19, .int 111]) (g_c dX2_isWord_43 (g_c dX2_isWord_44 (g_c dX2_isWord_45 (g_c dX2_isWord_48 (g_c dX2_isWord_49 (g_c dX2_isWord_50 (g_c dX2_isWord_51 g_n))))))) rfl rfl ?_
      refine V_eq (st' := [.int (nI (i + 1)), .ref 19, .int 111]) rfl rfl (by rw [show (((σ 19 6) + 27) - 26) = nI (i + 1) from g_wpos (a := 27) (f := 26) (k := 1) h6 (by decide)]) ?_
      refine V_callVI C cv_X2_91 (c_X2_letterAt σ (i := (i + 1)) (by omega) hn hn160) ⟨_, _, _, _, rfl, rfl⟩ (by rfl) (by decide) (by decide) (fun _ h => h) (As := [.int (nI (i + 1))]) (rest := [.int 111]) rfl rfl (Nat.le_of_ble_eq_true rfl) dX2_isWord_52 ?_
      refine V_icmp_eq C (tgt := 60) dX2_isWord_55 (by decide) (fun h55_1 => ?_) (fun h55_1 => ?_)
      · skip
        refine V_blk C (pc' := 63) (σ' := σ) (L' := [some (.ref 19), some (.int 26), some (.int 30), some (.int 28)]) (st' := []) (g_c dX2_isWord_60 g_n) rfl rfl ?_
        refine V_goto C (tgt := 32) dX2_isWord_63 (by decide) ?_
        refine V_blk C (pc' := 34) (σ' := σ) (L' := [some (.ref 19), some (.int 26), some (.int 30), some (.int 28)]) (st' := [.int 30, .int 28]) (g_c dX2_isWord_32 (g_c dX2_isWord_33 g_n)) rfl rfl ?_
        refine V_icmp_ge2 C (tgt := 66) dX2_isWord_34 (by decide) (fun z => absurd z (by decide)) (fun _ => ?_)
        refine V_ldcS1 C dX2_isWord_37 ?_
        refine V_eq rfl rfl (st' := [.ref (100 + 1)]) rfl ?_
        refine V_blk C (pc' := 40) (σ' := σ) (L' := [some (.ref 19), some (.int 26), some (.int 30), some (.int 28)]) (st' := [.int 28, .ref (100 + 1)]) (g_c dX2_isWord_39 g_n) rfl rfl ?_
        refine V_callVs C (i := 1) cv_X2_113 (c_chW σ (k := 28) (c := 110) (by decide) (by decide)) (by decide) rfl (by decide) (by decide) (fun _ h => h) (As := [.int 28]) (rest := []) rfl rfl (Nat.le_of_ble_eq_true rfl) dX2_isWord_40 ?_
        refine V_blk C (pc' := 52) (σ' := σ) (L' := [some (.ref 19), some (.int 26), some (.int 30), some (.int 28)]) (st' := [.int (((σ 19 6) + 28) - 26), .ref 19, .int 110]) (g_c dX2_isWord_43 (g_c dX2_isWord_44 (g_c dX2_isWord_45 (g_c dX2_isWord_48 (g_c dX2_isWord_49 (g_c dX2_isWord_50 (g_c dX2_isWord_51 g_n))))))) rfl rfl ?_
        refine V_eq (st' := [.int (nI ((i + 1) + 1)), .ref 19, .int 110]) rfl rfl (by rw [show (((σ 19 6) + 28) - 26) = nI ((i + 1) + 1) from g_wpos (a := 28) (f := 26) (k := 2) h6 (by decide)]) ?_
        refine V_callVI C cv_X2_91 (c_X2_letterAt σ (i := ((i + 1) + 1)) (by omega) hn hn160) ⟨_, _, _, _, rfl, rfl⟩ (by rfl) (by decide) (by decide) (fun _ h => h) (As := [.int (nI ((i + 1) + 1))]) (rest := [.int 110]) rfl rfl (Nat.le_of_ble_eq_true rfl) dX2_isWord_52 ?_
        refine V_icmp_eq C (tgt := 60) dX2_isWord_55 (by decide) (fun h55_2 => ?_) (fun h55_2 => ?_)
        · skip
          refine V_blk C (pc' := 63) (σ' := σ) (L' := [some (.ref 19), some (.int 26), some (.int 30), some (.int 29)]) (st' := []) (g_c dX2_isWord_60 g_n) rfl rfl ?_
          refine V_goto C (tgt := 32) dX2_isWord_63 (by decide) ?_
          refine V_blk C (pc' := 34) (σ' := σ) (L' := [some (.ref 19), some (.int 26), some (.int 30), some (.int 29)]) (st' := [.int 30, .int 29]) (g_c dX2_isWord_32 (g_c dX2_isWord_33 g_n)) rfl rfl ?_
          refine V_icmp_ge2 C (tgt := 66) dX2_isWord_34 (by decide) (fun z => absurd z (by decide)) (fun _ => ?_)
          refine V_ldcS1 C dX2_isWord_37 ?_
          refine V_eq rfl rfl (st' := [.ref (100 + 1)]) rfl ?_
          refine V_blk C (pc' := 40) (σ' := σ) (L' := [some (.ref 19), some (.int 26), some (.int 30), some (.int 29)]) (st' := [.int 29, .ref (100 + 1)]) (g_c dX2_isWord_39 g_n) rfl rfl ?_
          refine V_callVs C (i := 1) cv_X2_113 (c_chW σ (k := 29) (c := 101) (by decide) (by decide)) (by decide) rfl (by decide) (by decide) (fun _ h => h) (As := [.int 29]) (rest := []) rfl rfl (Nat.le_of_ble_eq_true rfl) dX2_isWord_40 ?_
          refine V_blk C (pc' := 52) (σ' := σ) (L' := [some (.ref 19), some (.int 26), some (.int 30), some (.int 29)]) (st' := [.int (((σ 19 6) + 29) - 26), .ref 19, .int 101]) (g_c dX2_isWord_43 (g_c dX2_isWord_44 (g_c dX2_isWord_45 (g_c dX2_isWord_48 (g_c dX2_isWord_49 (g_c dX2_isWord_50 (g_c dX2_isWord_51 g_n))))))) rfl rfl ?_
          refine V_eq (st' := [.int (nI (((i + 1) + 1) + 1)), .ref 19, .int 101]) rfl rfl (by rw [show (((σ 19 6) + 29) - 26) = nI (((i + 1) + 1) + 1) from g_wpos (a := 29) (f := 26) (k := 3) h6 (by decide)]) ?_
          refine V_callVI C cv_X2_91 (c_X2_letterAt σ (i := (((i + 1) + 1) + 1)) (by omega) hn hn160) ⟨_, _, _, _, rfl, rfl⟩ (by rfl) (by decide) (by decide) (fun _ h => h) (As := [.int (nI (((i + 1) + 1) + 1))]) (rest := [.int 101]) rfl rfl (Nat.le_of_ble_eq_true rfl) dX2_isWord_52 ?_
          refine V_icmp_eq C (tgt := 60) dX2_isWord_55 (by decide) (fun h55_3 => ?_) (fun h55_3 => ?_)
          · skip
            refine V_blk C (pc' := 63) (σ' := σ) (L' := [some (.ref 19), some (.int 26), some (.int 30), some (.int 30)]) (st' := []) (g_c dX2_isWord_60 g_n) rfl rfl ?_
            refine V_goto C (tgt := 32) dX2_isWord_63 (by decide) ?_
            refine V_blk C (pc' := 34) (σ' := σ) (L' := [some (.ref 19), some (.int 26), some (.int 30), some (.int 30)]) (st' := [.int 30, .int 30]) (g_c dX2_isWord_32 (g_c dX2_isWord_33 g_n)) rfl rfl ?_
            refine V_icmp_ge2 C (tgt := 66) dX2_isWord_34 (by decide) (fun _ => ?_) (fun z => absurd z (by decide))
            refine V_blk C (pc' := 67) (σ' := σ) (L' := [some (.ref 19), some (.int 26), some (.int 30), some (.int 30)]) (st' := [.int 1]) (g_c dX2_isWord_66 g_n) rfl rfl ?_
            refine V_zret C (by decide) dX2_isWord_67 ?_
            have hlen : e - i = 4 := hsub.mp h12.symm
            exact ⟨by rw [if_pos (by simp [q_is, q_at, hlen, ← h55, ← h55_1, ← h55_2, ← h55_3])], rfl⟩
          · skip
            refine V_blk C (pc' := 59) (σ' := σ) (L' := [some (.ref 19), some (.int 26), some (.int 30), some (.int 29)]) (st' := [.int 0]) (g_c dX2_isWord_58 g_n) rfl rfl ?_
            refine V_zret C (by decide) dX2_isWord_59 ?_
            exact ⟨by rw [if_neg (by simp [q_is, q_at, ← h55, ← h55_1, ← h55_2]; exact fun _ z => absurd z.symm h55_3)], rfl⟩
        · skip
          refine V_blk C (pc' := 59) (σ' := σ) (L' := [some (.ref 19), some (.int 26), some (.int 30), some (.int 28)]) (st' := [.int 0]) (g_c dX2_isWord_58 g_n) rfl rfl ?_
          refine V_zret C (by decide) dX2_isWord_59 ?_
          exact ⟨by rw [if_neg (by simp [q_is, q_at, ← h55, ← h55_1]; exact fun _ z => absurd z.symm h55_2)], rfl⟩
      · skip
        refine V_blk C (pc' := 59) (σ' := σ) (L' := [some (.ref 19), some (.int 26), some (.int 30), some (.int 27)]) (st' := [.int 0]) (g_c dX2_isWord_58 g_n) rfl rfl ?_
        refine V_zret C (by decide) dX2_isWord_59 ?_
        exact ⟨by rw [if_neg (by simp [q_is, q_at, ← h55]; exact fun _ z => absurd z.symm h55_1)], rfl⟩
    · skip
      refine V_blk C (pc' := 59) (σ' := σ) (L' := [some (.ref 19), some (.int 26), some (.int 30), some (.int 26)]) (st' := [.int 0]) (g_c dX2_isWord_58 g_n) rfl rfl ?_
      refine V_zret C (by decide) dX2_isWord_59 ?_
      exact ⟨by rw [if_neg (by simp [q_is, q_at]; exact fun _ z => absurd z.symm h55)], rfl⟩
set_option maxHeartbeats 4000000 in
set_option maxRecDepth 100000 in
theorem c_X2_isWord6 (σ : gS) {n : Nat} (hn : σ 19 1 = nI n) (hn160 : n ≤ 160) {i e : Nat} (hie : i ≤ e) (he : e ≤ n) (h4 : σ 19 4 = nI e) (h6 : σ 19 6 = nI i) : g_Met yX2_isWord cX2_isWord 4 (some .boolean) 5 kR [.ref 19, .int 31, .int 36] σ (fun rv s => rv = some (.int (if q_is (q_l (σ 20) n) i e [102, 97, 108, 108, 115] = true then 1 else 0)) ∧ s = σ) := by
  have hsub : σ 19 4 - σ 19 6 = 5 ↔ e - i = 5 := by
    rw [h4, h6, pk_sub hie]
    exact nI_eq (a := e - i) (b := 5) (by omega) (by omega)
  refine g_Met.of (own := 2) (L := [some (.ref 19), some (.int 31), some (.int 36), none]) (by decide) rfl rfl (fun ad => Nat.le_of_ble_eq_true rfl) (fun ad => rfl) (fun X G K C => ?_)
  refine V_blk C (pc' := 12) (σ' := σ) (L' := [some (.ref 19), some (.int 31), some (.int 36), none]) (st' := [.int ((σ 19 4) - (σ 19 6)), .int 5]) (g_c dX2_isWord_0 (g_c dX2_isWord_1 (g_c dX2_isWord_2 (g_c dX2_isWord_3 (g_c dX2_isWord_4 (g_c dX2_isWord_7 (g_c dX2_isWord_8 (g_c dX2_isWord_11 g_n)))))))) rfl rfl ?_
  refine V_icmp_ne C (tgt := 28) dX2_isWord_12 (by decide) (fun h12 => ?_) (fun h12 => ?_)
  · skip
    refine V_blk C (pc' := 29) (σ' := σ) (L' := [some (.ref 19), some (.int 31), some (.int 36), none]) (st' := [.int 0]) (g_c dX2_isWord_28 g_n) rfl rfl ?_
    refine V_zret C (by decide) dX2_isWord_29 ?_
    have hlen : ¬ e - i = 5 := fun z => h12 (hsub.mpr z).symm
    exact ⟨by rw [if_neg (by simp [q_is, hlen])], rfl⟩
  · skip
    refine V_blk C (pc' := 16) (σ' := σ) (L' := [some (.ref 19), some (.int 31), some (.int 36), none]) (st' := [.int 31]) (g_c dX2_isWord_15 g_n) rfl rfl ?_
    refine V_if_lt C (tgt := 28) dX2_isWord_16 (by decide) (fun z => absurd z (by decide)) (fun _ => ?_)
    refine V_blk C (pc' := 20) (σ' := σ) (L' := [some (.ref 19), some (.int 31), some (.int 36), none]) (st' := [.int 36]) (g_c dX2_isWord_19 g_n) rfl rfl ?_
    refine V_ldcS1 C dX2_isWord_20 ?_
    refine V_eq rfl rfl (st' := [.ref (100 + 1), .int 36]) rfl ?_
    refine V_callVs C (i := 1) cv_X2_110 (c_lenW σ) (by decide) rfl (by decide) (by decide) (fun _ h => h) (As := []) (rest := [.int 36]) rfl rfl (Nat.le_of_ble_eq_true rfl) dX2_isWord_22 ?_
    refine V_icmp_le2 C (tgt := 30) dX2_isWord_25 (by decide) (fun _ => ?_) (fun z => absurd z (by decide))
    refine V_blk C (pc' := 34) (σ' := σ) (L' := [some (.ref 19), some (.int 31), some (.int 36), some (.int 31)]) (st' := [.int 36, .int 31]) (g_c dX2_isWord_30 (g_c dX2_isWord_31 (g_c dX2_isWord_32 (g_c dX2_isWord_33 g_n)))) rfl rfl ?_
    refine V_icmp_ge2 C (tgt := 66) dX2_isWord_34 (by decide) (fun z => absurd z (by decide)) (fun _ => ?_)
    refine V_ldcS1 C dX2_isWord_37 ?_
    refine V_eq rfl rfl (st' := [.ref (100 + 1)]) rfl ?_
    refine V_blk C (pc' := 40) (σ' := σ) (L' := [some (.ref 19), some (.int 31), some (.int 36), some (.int 31)]) (st' := [.int 31, .ref (100 + 1)]) (g_c dX2_isWord_39 g_n) rfl rfl ?_
    refine V_callVs C (i := 1) cv_X2_113 (c_chW σ (k := 31) (c := 102) (by decide) (by decide)) (by decide) rfl (by decide) (by decide) (fun _ h => h) (As := [.int 31]) (rest := []) rfl rfl (Nat.le_of_ble_eq_true rfl) dX2_isWord_40 ?_
    refine V_blk C (pc' := 52) (σ' := σ) (L' := [some (.ref 19), some (.int 31), some (.int 36), some (.int 31)]) (st' := [.int (((σ 19 6) + 31) - 31), .ref 19, .int 102]) (g_c dX2_isWord_43 (g_c dX2_isWord_44 (g_c dX2_isWord_45 (g_c dX2_isWord_48 (g_c dX2_isWord_49 (g_c dX2_isWord_50 (g_c dX2_isWord_51 g_n))))))) rfl rfl ?_
    refine V_eq (st' := [.int (nI i), .ref 19, .int 102]) rfl rfl (by rw [show (((σ 19 6) + 31) - 31) = nI i from g_wpos (a := 31) (f := 31) (k := 0) h6 (by decide)]) ?_
    refine V_callVI C cv_X2_91 (c_X2_letterAt σ (i := i) (by omega) hn hn160) ⟨_, _, _, _, rfl, rfl⟩ (by rfl) (by decide) (by decide) (fun _ h => h) (As := [.int (nI i)]) (rest := [.int 102]) rfl rfl (Nat.le_of_ble_eq_true rfl) dX2_isWord_52 ?_
    refine V_icmp_eq C (tgt := 60) dX2_isWord_55 (by decide) (fun h55 => ?_) (fun h55 => ?_)
    · skip
      refine V_blk C (pc' := 63) (σ' := σ) (L' := [some (.ref 19), some (.int 31), some (.int 36), some (.int 32)]) (st' := []) (g_c dX2_isWord_60 g_n) rfl rfl ?_
      refine V_goto C (tgt := 32) dX2_isWord_63 (by decide) ?_
      refine V_blk C (pc' := 34) (σ' := σ) (L' := [some (.ref 19), some (.int 31), some (.int 36), some (.int 32)]) (st' := [.int 36, .int 32]) (g_c dX2_isWord_32 (g_c dX2_isWord_33 g_n)) rfl rfl ?_
      refine V_icmp_ge2 C (tgt := 66) dX2_isWord_34 (by decide) (fun z => absurd z (by decide)) (fun _ => ?_)
      refine V_ldcS1 C dX2_isWord_37 ?_
      refine V_eq rfl rfl (st' := [.ref (100 + 1)]) rfl ?_
      refine V_blk C (pc' := 40) (σ' := σ) (L' := [some (.ref 19), some (.int 31), some (.int 36), some (.int 32)]) (st' := [.int 32, .ref (100 + 1)]) (g_c dX2_isWord_39 g_n) rfl rfl ?_
      refine V_callVs C (i := 1) cv_X2_113 (c_chW σ (k := 32) (c := 97) (by decide) (by decide)) (by decide) rfl (by decide) (by decide) (fun _ h => h) (As := [.int 32]) (rest := []) rfl rfl (Nat.le_of_ble_eq_true rfl) dX2_isWord_40 ?_
      refine V_blk C (pc' := 52) (σ' := σ) (L' := [some (.ref 19), some (.int 31), some (.int 36), some (.int 32)]) (st' := [.int (((σ 19 6) + 32) - 31), .ref 19, .int 97]) (g_c dX2_isWord_43 (g_c dX2_isWord_44 (g_c dX2_isWord_45 (g_c dX2_isWord_48 (g_c dX2_isWord_49 (g_c dX2_isWord_50 (g_c dX2_isWord_51 g_n))))))) rfl rfl ?_
      refine V_eq (st' := [.int (nI (i + 1)), .ref 19, .int 97]) rfl rfl (by rw [show (((σ 19 6) + 32) - 31) = nI (i + 1) from g_wpos (a := 32) (f := 31) (k := 1) h6 (by decide)]) ?_
      refine V_callVI C cv_X2_91 (c_X2_letterAt σ (i := (i + 1)) (by omega) hn hn160) ⟨_, _, _, _, rfl, rfl⟩ (by rfl) (by decide) (by decide) (fun _ h => h) (As := [.int (nI (i + 1))]) (rest := [.int 97]) rfl rfl (Nat.le_of_ble_eq_true rfl) dX2_isWord_52 ?_
      refine V_icmp_eq C (tgt := 60) dX2_isWord_55 (by decide) (fun h55_1 => ?_) (fun h55_1 => ?_)
      · skip
        refine V_blk C (pc' := 63) (σ' := σ) (L' := [some (.ref 19), some (.int 31), some (.int 36), some (.int 33)]) (st' := []) (g_c dX2_isWord_60 g_n) rfl rfl ?_
        refine V_goto C (tgt := 32) dX2_isWord_63 (by decide) ?_
        refine V_blk C (pc' := 34) (σ' := σ) (L' := [some (.ref 19), some (.int 31), some (.int 36), some (.int 33)]) (st' := [.int 36, .int 33]) (g_c dX2_isWord_32 (g_c dX2_isWord_33 g_n)) rfl rfl ?_
        refine V_icmp_ge2 C (tgt := 66) dX2_isWord_34 (by decide) (fun z => absurd z (by decide)) (fun _ => ?_)
        refine V_ldcS1 C dX2_isWord_37 ?_
        refine V_eq rfl rfl (st' := [.ref (100 + 1)]) rfl ?_
        refine V_blk C (pc' := 40) (σ' := σ) (L' := [some (.ref 19), some (.int 31), some (.int 36), some (.int 33)]) (st' := [.int 33, .ref (100 + 1)]) (g_c dX2_isWord_39 g_n) rfl rfl ?_
        refine V_callVs C (i := 1) cv_X2_113 (c_chW σ (k := 33) (c := 108) (by decide) (by decide)) (by decide) rfl (by decide) (by decide) (fun _ h => h) (As := [.int 33]) (rest := []) rfl rfl (Nat.le_of_ble_eq_true rfl) dX2_isWord_40 ?_
        refine V_blk C (pc' := 52) (σ' := σ) (L' := [some (.ref 19), some (.int 31), some (.int 36), some (.int 33)]) (st' := [.int (((σ 19 6) + 33) - 31), .ref 19, .int 108]) (g_c dX2_isWord_43 (g_c dX2_isWord_44 (g_c dX2_isWord_45 (g_c dX2_isWord_48 (g_c dX2_isWord_49 (g_c dX2_isWord_50 (g_c dX2_isWord_51 g_n))))))) rfl rfl ?_
        refine V_eq (st' := [.int (nI ((i + 1) + 1)), .ref 19, .int 108]) rfl rfl (by rw [show (((σ 19 6) + 33) - 31) = nI ((i + 1) + 1) from g_wpos (a := 33) (f := 31) (k := 2) h6 (by decide)]) ?_
        refine V_callVI C cv_X2_91 (c_X2_letterAt σ (i := ((i + 1) + 1)) (by omega) hn hn160) ⟨_, _, _, _, rfl, rfl⟩ (by rfl) (by decide) (by decide) (fun _ h => h) (As := [.int (nI ((i + 1) + 1))]) (rest := [.int 108]) rfl rfl (Nat.le_of_ble_eq_true rfl) dX2_isWord_52 ?_
        refine V_icmp_eq C (tgt := 60) dX2_isWord_55 (by decide) (fun h55_2 => ?_) (fun h55_2 => ?_)
        · skip
          refine V_blk C (pc' := 63) (σ' := σ) (L' := [some (.ref 19), some (.int 31), some (.int 36), some (.int 34)]) (st' := []) (g_c dX2_isWord_60 g_n) rfl rfl ?_
          refine V_goto C (tgt := 32) dX2_isWord_63 (by decide) ?_
          refine V_blk C (pc' := 34) (σ' := σ) (L' := [some (.ref 19), some (.int 31), some (.int 36), some (.int 34)]) (st' := [.int 36, .int 34]) (g_c dX2_isWord_32 (g_c dX2_isWord_33 g_n)) rfl rfl ?_
          refine V_icmp_ge2 C (tgt := 66) dX2_isWord_34 (by decide) (fun z => absurd z (by decide)) (fun _ => ?_)
          refine V_ldcS1 C dX2_isWord_37 ?_
          refine V_eq rfl rfl (st' := [.ref (100 + 1)]) rfl ?_
          refine V_blk C (pc' := 40) (σ' := σ) (L' := [some (.ref 19), some (.int 31), some (.int 36), some (.int 34)]) (st' := [.int 34, .ref (100 + 1)]) (g_c dX2_isWord_39 g_n) rfl rfl ?_
          refine V_callVs C (i := 1) cv_X2_113 (c_chW σ (k := 34) (c := 108) (by decide) (by decide)) (by decide) rfl (by decide) (by decide) (fun _ h => h) (As := [.int 34]) (rest := []) rfl rfl (Nat.le_of_ble_eq_true rfl) dX2_isWord_40 ?_
          refine V_blk C (pc' := 52) (σ' := σ) (L' := [some (.ref 19), some (.int 31), some (.int 36), some (.int 34)]) (st' := [.int (((σ 19 6) + 34) - 31), .ref 19, .int 108]) (g_c dX2_isWord_43 (g_c dX2_isWord_44 (g_c dX2_isWord_45 (g_c dX2_isWord_48 (g_c dX2_isWord_49 (g_c dX2_isWord_50 (g_c dX2_isWord_51 g_n))))))) rfl rfl ?_
          refine V_eq (st' := [.int (nI (((i + 1) + 1) + 1)), .ref 19, .int 108]) rfl rfl (by rw [show (((σ 19 6) + 34) - 31) = nI (((i + 1) + 1) + 1) from g_wpos (a := 34) (f := 31) (k := 3) h6 (by decide)]) ?_
          refine V_callVI C cv_X2_91 (c_X2_letterAt σ (i := (((i + 1) + 1) + 1)) (by omega) hn hn160) ⟨_, _, _, _, rfl, rfl⟩ (by rfl) (by decide) (by decide) (fun _ h => h) (As := [.int (nI (((i + 1) + 1) + 1))]) (rest := [.int 108]) rfl rfl (Nat.le_of_ble_eq_true rfl) dX2_isWord_52 ?_
          refine V_icmp_eq C (tgt := 60) dX2_isWord_55 (by decide) (fun h55_3 => ?_) (fun h55_3 => ?_)
          · skip
            refine V_blk C (pc' := 63) (σ' := σ) (L' := [some (.ref 19), some (.int 31), some (.int 36), some (.int 35)]) (st' := []) (g_c dX2_isWord_60 g_n) rfl rfl ?_
            refine V_goto C (tgt := 32) dX2_isWord_63 (by decide) ?_
            refine V_blk C (pc' := 34) (σ' := σ) (L' := [some (.ref 19), some (.int 31), some (.int 36), some (.int 35)]) (st' := [.int 36, .int 35]) (g_c dX2_isWord_32 (g_c dX2_isWord_33 g_n)) rfl rfl ?_
            refine V_icmp_ge2 C (tgt := 66) dX2_isWord_34 (by decide) (fun z => absurd z (by decide)) (fun _ => ?_)
            refine V_ldcS1 C dX2_isWord_37 ?_
            refine V_eq rfl rfl (st' := [.ref (100 + 1)]) rfl ?_
            refine V_blk C (pc' := 40) (σ' := σ) (L' := [some (.ref 19), some (.int 31), some (.int 36), some (.int 35)]) (st' := [.int 35, .ref (100 + 1)]) (g_c dX2_isWord_39 g_n) rfl rfl ?_
            refine V_callVs C (i := 1) cv_X2_113 (c_chW σ (k := 35) (c := 115) (by decide) (by decide)) (by decide) rfl (by decide) (by decide) (fun _ h => h) (As := [.int 35]) (rest := []) rfl rfl (Nat.le_of_ble_eq_true rfl) dX2_isWord_40 ?_
            refine V_blk C (pc' := 52) (σ' := σ) (L' := [some (.ref 19), some (.int 31), some (.int 36), some (.int 35)]) (st' := [.int (((σ 19 6) + 35) - 31), .ref 19, .int 115]) (g_c dX2_isWord_43 (g_c dX2_isWord_44 (g_c dX2_isWord_45 (g_c dX2_isWord_48 (g_c dX2_isWord_49 (g_c dX2_isWord_50 (g_c dX2_isWord_51 g_n))))))) rfl rfl ?_
            refine V_eq (st' := [.int (nI ((((i + 1) + 1) + 1) + 1)), .ref 19, .int 115]) rfl rfl (by rw [show (((σ 19 6) + 35) - 31) = nI ((((i + 1) + 1) + 1) + 1) from g_wpos (a := 35) (f := 31) (k := 4) h6 (by decide)]) ?_
            refine V_callVI C cv_X2_91 (c_X2_letterAt σ (i := ((((i + 1) + 1) + 1) + 1)) (by omega) hn hn160) ⟨_, _, _, _, rfl, rfl⟩ (by rfl) (by decide) (by decide) (fun _ h => h) (As := [.int (nI ((((i + 1) + 1) + 1) + 1))]) (rest := [.int 115]) rfl rfl (Nat.le_of_ble_eq_true rfl) dX2_isWord_52 ?_
            refine V_icmp_eq C (tgt := 60) dX2_isWord_55 (by decide) (fun h55_4 => ?_) (fun h55_4 => ?_)
            · skip
              refine V_blk C (pc' := 63) (σ' := σ) (L' := [some (.ref 19), some (.int 31), some (.int 36), some (.int 36)]) (st' := []) (g_c dX2_isWord_60 g_n) rfl rfl ?_
              refine V_goto C (tgt := 32) dX2_isWord_63 (by decide) ?_
              refine V_blk C (pc' := 34) (σ' := σ) (L' := [some (.ref 19), some (.int 31), some (.int 36), some (.int 36)]) (st' := [.int 36, .int 36]) (g_c dX2_isWord_32 (g_c dX2_isWord_33 g_n)) rfl rfl ?_
              refine V_icmp_ge2 C (tgt := 66) dX2_isWord_34 (by decide) (fun _ => ?_) (fun z => absurd z (by decide))
              refine V_blk C (pc' := 67) (σ' := σ) (L' := [some (.ref 19), some (.int 31), some (.int 36), some (.int 36)]) (st' := [.int 1]) (g_c dX2_isWord_66 g_n) rfl rfl ?_
              refine V_zret C (by decide) dX2_isWord_67 ?_
              have hlen : e - i = 5 := hsub.mp h12.symm
              exact ⟨by rw [if_pos (by simp [q_is, q_at, hlen, ← h55, ← h55_1, ← h55_2, ← h55_3, ← h55_4])], rfl⟩
            · skip
              refine V_blk C (pc' := 59) (σ' := σ) (L' := [some (.ref 19), some (.int 31), some (.int 36), some (.int 35)]) (st' := [.int 0]) (g_c dX2_isWord_58 g_n) rfl rfl ?_
              refine V_zret C (by decide) dX2_isWord_59 ?_
              exact ⟨by rw [if_neg (by simp [q_is, q_at, ← h55, ← h55_1, ← h55_2, ← h55_3]; exact fun _ z => absurd z.symm h55_4)], rfl⟩
          · skip
            refine V_blk C (pc' := 59) (σ' := σ) (L' := [some (.ref 19), some (.int 31), some (.int 36), some (.int 34)]) (st' := [.int 0]) (g_c dX2_isWord_58 g_n) rfl rfl ?_
            refine V_zret C (by decide) dX2_isWord_59 ?_
            exact ⟨by rw [if_neg (by simp [q_is, q_at, ← h55, ← h55_1, ← h55_2]; exact fun _ z => absurd z.symm h55_3)], rfl⟩
        · skip
          refine V_blk C (pc' := 59) (σ' := σ) (L' := [some (.ref 19), some (.int 31), some (.int 36), some (.int 33)]) (st' := [.int 0]) (g_c dX2_isWord_58 g_n) rfl rfl ?_
          refine V_zret C (by decide) dX2_isWord_59 ?_
          exact ⟨by rw [if_neg (by simp [q_is, q_at, ← h55, ← h55_1]; exact fun _ z => absurd z.symm h55_2)], rfl⟩
      · skip
        refine V_blk C (pc' := 59) (σ' := σ) (L' := [some (.ref 19), some (.int 31), some (.int 36), some (.int 32)]) (st' := [.int 0]) (g_c dX2_isWord_58 g_n) rfl rfl ?_
        refine V_zret C (by decide) dX2_isWord_59 ?_
        exact ⟨by rw [if_neg (by simp [q_is, q_at, ← h55]; exact fun _ z => absurd z.symm h55_1)], rfl⟩
    · skip
      refine V_blk C (pc' := 59) (σ' := σ) (L' := [some (.ref 19), some (.int 31), some (.int 36), some (.int 31)]) (st' := [.int 0]) (g_c dX2_isWord_58 g_n) rfl rfl ?_
      refine V_zret C (by decide) dX2_isWord_59 ?_
      exact ⟨by rw [if_neg (by simp [q_is, q_at]; exact fun _ z => absurd z.symm h55)], rfl⟩
set_option maxHeartbeats 4000000 in
set_option maxRecDepth 100000 in
theorem c_X2_isWord7 (σ : gS) {n : Nat} (hn : σ 19 1 = nI n) (hn160 : n ≤ 160) {i e : Nat} (hie : i ≤ e) (he : e ≤ n) (h4 : σ 19 4 = nI e) (h6 : σ 19 6 = nI i) : g_Met yX2_isWord cX2_isWord 4 (some .boolean) 5 kR [.ref 19, .int 37, .int 42] σ (fun rv s => rv = some (.int (if q_is (q_l (σ 20) n) i e [104, 97, 114, 109, 115] = true then 1 else 0)) ∧ s = σ) := by
  have hsub : σ 19 4 - σ 19 6 = 5 ↔ e - i = 5 := by
    rw [h4, h6, pk_sub hie]
    exact nI_eq (a := e - i) (b := 5) (by omega) (by omega)
  refine g_Met.of (own := 2) (L := [some (.ref 19), some (.int 37), some (.int 42), none]) (by decide) rfl rfl (fun ad => Nat.le_of_ble_eq_true rfl) (fun ad => rfl) (fun X G K C => ?_)
  refine V_blk C (pc' := 12) (σ' := σ) (L' := [some (.ref 19), some (.int 37), some (.int 42), none]) (st' := [.int ((σ 19 4) - (σ 19 6)), .int 5]) (g_c dX2_isWord_0 (g_c dX2_isWord_1 (g_c dX2_isWord_2 (g_c dX2_isWord_3 (g_c dX2_isWord_4 (g_c dX2_isWord_7 (g_c dX2_isWord_8 (g_c dX2_isWord_11 g_n)))))))) rfl rfl ?_
  refine V_icmp_ne C (tgt := 28) dX2_isWord_12 (by decide) (fun h12 => ?_) (fun h12 => ?_)
  · skip
    refine V_blk C (pc' := 29) (σ' := σ) (L' := [some (.ref 19), some (.int 37), some (.int 42), none]) (st' := [.int 0]) (g_c dX2_isWord_28 g_n) rfl rfl ?_
    refine V_zret C (by decide) dX2_isWord_29 ?_
    have hlen : ¬ e - i = 5 := fun z => h12 (hsub.mpr z).symm
    exact ⟨by rw [if_neg (by simp [q_is, hlen])], rfl⟩
  · skip
    refine V_blk C (pc' := 16) (σ' := σ) (L' := [some (.ref 19), some (.int 37), some (.int 42), none]) (st' := [.int 37]) (g_c dX2_isWord_15 g_n) rfl rfl ?_
    refine V_if_lt C (tgt := 28) dX2_isWord_16 (by decide) (fun z => absurd z (by decide)) (fun _ => ?_)
    refine V_blk C (pc' := 20) (σ' := σ) (L' := [some (.ref 19), some (.int 37), some (.int 42), none]) (st' := [.int 42]) (g_c dX2_isWord_19 g_n) rfl rfl ?_
    refine V_ldcS1 C dX2_isWord_20 ?_
    refine V_eq rfl rfl (st' := [.ref (100 + 1), .int 42]) rfl ?_
    refine V_callVs C (i := 1) cv_X2_110 (c_lenW σ) (by decide) rfl (by decide) (by decide) (fun _ h => h) (As := []) (rest := [.int 42]) rfl rfl (Nat.le_of_ble_eq_true rfl) dX2_isWord_22 ?_
    refine V_icmp_le2 C (tgt := 30) dX2_isWord_25 (by decide) (fun _ => ?_) (fun z => absurd z (by decide))
    refine V_blk C (pc' := 34) (σ' := σ) (L' := [some (.ref 19), some (.int 37), some (.int 42), some (.int 37)]) (st' := [.int 42, .int 37]) (g_c dX2_isWord_30 (g_c dX2_isWord_31 (g_c dX2_isWord_32 (g_c dX2_isWord_33 g_n)))) rfl rfl ?_
    refine V_icmp_ge2 C (tgt := 66) dX2_isWord_34 (by decide) (fun z => absurd z (by decide)) (fun _ => ?_)
    refine V_ldcS1 C dX2_isWord_37 ?_
    refine V_eq rfl rfl (st' := [.ref (100 + 1)]) rfl ?_
    refine V_blk C (pc' := 40) (σ' := σ) (L' := [some (.ref 19), some (.int 37), some (.int 42), some (.int 37)]) (st' := [.int 37, .ref (100 + 1)]) (g_c dX2_isWord_39 g_n) rfl rfl ?_
    refine V_callVs C (i := 1) cv_X2_113 (c_chW σ (k := 37) (c := 104) (by decide) (by decide)) (by decide) rfl (by decide) (by decide) (fun _ h => h) (As := [.int 37]) (rest := []) rfl rfl (Nat.le_of_ble_eq_true rfl) dX2_isWord_40 ?_
    refine V_blk C (pc' := 52) (σ' := σ) (L' := [some (.ref 19), some (.int 37), some (.int 42), some (.int 37)]) (st' := [.int (((σ 19 6) + 37) - 37), .ref 19, .int 104]) (g_c dX2_isWord_43 (g_c dX2_isWord_44 (g_c dX2_isWord_45 (g_c dX2_isWord_48 (g_c dX2_isWord_49 (g_c dX2_isWord_50 (g_c dX2_isWord_51 g_n))))))) rfl rfl ?_
    refine V_eq (st' := [.int (nI i), .ref 19, .int 104]) rfl rfl (by rw [show (((σ 19 6) + 37) - 37) = nI i from g_wpos (a := 37) (f := 37) (k := 0) h6 (by decide)]) ?_
    refine V_callVI C cv_X2_91 (c_X2_letterAt σ (i := i) (by omega) hn hn160) ⟨_, _, _, _, rfl, rfl⟩ (by rfl) (by decide) (by decide) (fun _ h => h) (As := [.int (nI i)]) (rest := [.int 104]) rfl rfl (Nat.le_of_ble_eq_true rfl) dX2_isWord_52 ?_
    refine V_icmp_eq C (tgt := 60) dX2_isWord_55 (by decide) (fun h55 => ?_) (fun h55 => ?_)
    · skip
      refine V_blk C (pc' := 63) (σ' := σ) (L' := [some (.ref 19), some (.int 37), some (.int 42), some (.int 38)]) (st' := []) (g_c dX2_isWord_60 g_n) rfl rfl ?_
      refine V_goto C (tgt := 32) dX2_isWord_63 (by decide) ?_
      refine V_blk C (pc' := 34) (σ' := σ) (L' := [some (.ref 19), some (.int 37), some (.int 42), some (.int 38)]) (st' := [.int 42, .int 38]) (g_c dX2_isWord_32 (g_c dX2_isWord_33 g_n)) rfl rfl ?_
      refine V_icmp_ge2 C (tgt := 66) dX2_isWord_34 (by decide) (fun z => absurd z (by decide)) (fun _ => ?_)
      refine V_ldcS1 C dX2_isWord_37 ?_
      refine V_eq rfl rfl (st' := [.ref (100 + 1)]) rfl ?_
      refine V_blk C (pc' := 40) (σ' := σ) (L' := [some (.ref 19), some (.int 37), some (.int 42), some (.int 38)]) (st' := [.int 38, .ref (100 + 1)]) (g_c dX2_isWord_39 g_n) rfl rfl ?_
      refine V_callVs C (i := 1) cv_X2_113 (c_chW σ (k := 38) (c := 97) (by decide) (by decide)) (by decide) rfl (by decide) (by decide) (fun _ h => h) (As := [.int 38]) (rest := []) rfl rfl (Nat.le_of_ble_eq_true rfl) dX2_isWord_40 ?_
      refine V_blk C (pc' := 52) (σ' := σ) (L' := [some (.ref 19), some (.int 37), some (.int 42), some (.int 38)]) (st' := [.int (((σ 19 6) + 38) - 37), .ref 19, .int 97]) (g_c dX2_isWord_43 (g_c dX2_isWord_44 (g_c dX2_isWord_45 (g_c dX2_isWord_48 (g_c dX2_isWord_49 (g_c dX2_isWord_50 (g_c dX2_isWord_51 g_n))))))) rfl rfl ?_
      refine V_eq (st' := [.int (nI (i + 1)), .ref 19, .int 97]) rfl rfl (by rw [show (((σ 19 6) + 38) - 37) = nI (i + 1) from g_wpos (a := 38) (f := 37) (k := 1) h6 (by decide)]) ?_
      refine V_callVI C cv_X2_91 (c_X2_letterAt σ (i := (i + 1)) (by omega) hn hn160) ⟨_, _, _, _, rfl, rfl⟩ (by rfl) (by decide) (by decide) (fun _ h => h) (As := [.int (nI (i + 1))]) (rest := [.int 97]) rfl rfl (Nat.le_of_ble_eq_true rfl) dX2_isWord_52 ?_
      refine V_icmp_eq C (tgt := 60) dX2_isWord_55 (by decide) (fun h55_1 => ?_) (fun h55_1 => ?_)
      · skip
        refine V_blk C (pc' := 63) (σ' := σ) (L' := [some (.ref 19), some (.int 37), some (.int 42), some (.int 39)]) (st' := []) (g_c dX2_isWord_60 g_n) rfl rfl ?_
        refine V_goto C (tgt := 32) dX2_isWord_63 (by decide) ?_
        refine V_blk C (pc' := 34) (σ' := σ) (L' := [some (.ref 19), some (.int 37), some (.int 42), some (.int 39)]) (st' := [.int 42, .int 39]) (g_c dX2_isWord_32 (g_c dX2_isWord_33 g_n)) rfl rfl ?_
        refine V_icmp_ge2 C (tgt := 66) dX2_isWord_34 (by decide) (fun z => absurd z (by decide)) (fun _ => ?_)
        refine V_ldcS1 C dX2_isWord_37 ?_
        refine V_eq rfl rfl (st' := [.ref (100 + 1)]) rfl ?_
        refine V_blk C (pc' := 40) (σ' := σ) (L' := [some (.ref 19), some (.int 37), some (.int 42), some (.int 39)]) (st' := [.int 39, .ref (100 + 1)]) (g_c dX2_isWord_39 g_n) rfl rfl ?_
        refine V_callVs C (i := 1) cv_X2_113 (c_chW σ (k := 39) (c := 114) (by decide) (by decide)) (by decide) rfl (by decide) (by decide) (fun _ h => h) (As := [.int 39]) (rest := []) rfl rfl (Nat.le_of_ble_eq_true rfl) dX2_isWord_40 ?_
        refine V_blk C (pc' := 52) (σ' := σ) (L' := [some (.ref 19), some (.int 37), some (.int 42), some (.int 39)]) (st' := [.int (((σ 19 6) + 39) - 37), .ref 19, .int 114]) (g_c dX2_isWord_43 (g_c dX2_isWord_44 (g_c dX2_isWord_45 (g_c dX2_isWord_48 (g_c dX2_isWord_49 (g_c dX2_isWord_50 (g_c dX2_isWord_51 g_n))))))) rfl rfl ?_
        refine V_eq (st' := [.int (nI ((i + 1) + 1)), .ref 19, .int 114]) rfl rfl (by rw [show (((σ 19 6) + 39) - 37) = nI ((i + 1) + 1) from g_wpos (a := 39) (f := 37) (k := 2) h6 (by decide)]) ?_
        refine V_callVI C cv_X2_91 (c_X2_letterAt σ (i := ((i + 1) + 1)) (by omega) hn hn160) ⟨_, _, _, _, rfl, rfl⟩ (by rfl) (by decide) (by decide) (fun _ h => h) (As := [.int (nI ((i + 1) + 1))]) (rest := [.int 114]) rfl rfl (Nat.le_of_ble_eq_true rfl) dX2_isWord_52 ?_
        refine V_icmp_eq C (tgt := 60) dX2_isWord_55 (by decide) (fun h55_2 => ?_) (fun h55_2 => ?_)
        · skip
          refine V_blk C (pc' := 63) (σ' := σ) (L' := [some (.ref 19), some (.int 37), some (.int 42), some (.int 40)]) (st' := []) (g_c dX2_isWord_60 g_n) rfl rfl ?_
          refine V_goto C (tgt := 32) dX2_isWord_63 (by decide) ?_
          refine V_blk C (pc' := 34) (σ' := σ) (L' := [some (.ref 19), some (.int 37), some (.int 42), some (.int 40)]) (st' := [.int 42, .int 40]) (g_c dX2_isWord_32 (g_c dX2_isWord_33 g_n)) rfl rfl ?_
          refine V_icmp_ge2 C (tgt := 66) dX2_isWord_34 (by decide) (fun z => absurd z (by decide)) (fun _ => ?_)
          refine V_ldcS1 C dX2_isWord_37 ?_
          refine V_eq rfl rfl (st' := [.ref (100 + 1)]) rfl ?_
          refine V_blk C (pc' := 40) (σ' := σ) (L' := [some (.ref 19), some (.int 37), some (.int 42), some (.int 40)]) (st' := [.int 40, .ref (100 + 1)]) (g_c dX2_isWord_39 g_n) rfl rfl ?_
          refine V_callVs C (i := 1) cv_X2_113 (c_chW σ (k := 40) (c := 109) (by decide) (by decide)) (by decide) rfl (by decide) (by decide) (fun _ h => h) (As := [.int 40]) (rest := []) rfl rfl (Nat.le_of_ble_eq_true rfl) dX2_isWord_40 ?_
          refine V_blk C (pc' := 52) (σ' := σ) (L' := [some (.ref 19), some (.int 37), some (.int 42), some (.int 40)]) (st' := [.int (((σ 19 6) + 40) - 37), .ref 19, .int 109]) (g_c dX2_isWord_43 (g_c dX2_isWord_44 (g_c dX2_isWord_45 (g_c dX2_isWord_48 (g_c dX2_isWord_49 (g_c dX2_isWord_50 (g_c dX2_isWord_51 g_n))))))) rfl rfl ?_
          refine V_eq (st' := [.int (nI (((i + 1) + 1) + 1)), .ref 19, .int 109]) rfl rfl (by rw [show (((σ 19 6) + 40) - 37) = nI (((i + 1) + 1) + 1) from g_wpos (a := 40) (f := 37) (k := 3) h6 (by decide)]) ?_
          refine V_callVI C cv_X2_91 (c_X2_letterAt σ (i := (((i + 1) + 1) + 1)) (by omega) hn hn160) ⟨_, _, _, _, rfl, rfl⟩ (by rfl) (by decide) (by decide) (fun _ h => h) (As := [.int (nI (((i + 1) + 1) + 1))]) (rest := [.int 109]) rfl rfl (Nat.le_of_ble_eq_true rfl) dX2_isWord_52 ?_
          refine V_icmp_eq C (tgt := 60) dX2_isWord_55 (by decide) (fun h55_3 => ?_) (fun h55_3 => ?_)
          · skip
            refine V_blk C (pc' := 63) (σ' := σ) (L' := [some (.ref 19), some (.int 37), some (.int 42), some (.int 41)]) (st' := []) (g_c dX2_isWord_60 g_n) rfl rfl ?_
            refine V_goto C (tgt := 32) dX2_isWord_63 (by decide) ?_
            refine V_blk C (pc' := 34) (σ' := σ) (L' := [some (.ref 19), some (.int 37), some (.int 42), some (.int 41)]) (st' := [.int 42, .int 41]) (g_c dX2_isWord_32 (g_c dX2_isWord_33 g_n)) rfl rfl ?_
            refine V_icmp_ge2 C (tgt := 66) dX2_isWord_34 (by decide) (fun z => absurd z (by decide)) (fun _ => ?_)
            refine V_ldcS1 C dX2_isWord_37 ?_
            refine V_eq rfl rfl (st' := [.ref (100 + 1)]) rfl ?_
            refine V_blk C (pc' := 40) (σ' := σ) (L' := [some (.ref 19), some (.int 37), some (.int 42), some (.int 41)]) (st' := [.int 41, .ref (100 + 1)]) (g_c dX2_isWord_39 g_n) rfl rfl ?_
            refine V_callVs C (i := 1) cv_X2_113 (c_chW σ (k := 41) (c := 115) (by decide) (by decide)) (by decide) rfl (by decide) (by decide) (fun _ h => h) (As := [.int 41]) (rest := []) rfl rfl (Nat.le_of_ble_eq_true rfl) dX2_isWord_40 ?_
            refine V_blk C (pc' := 52) (σ' := σ) (L' := [some (.ref 19), some (.int 37), some (.int 42), some (.int 41)]) (st' := [.int (((σ 19 6) + 41) - 37), .ref 19, .int 115]) (g_c dX2_isWord_43 (g_c dX2_isWord_44 (g_c dX2_isWord_45 (g_c dX2_isWord_48 (g_c dX2_isWord_49 (g_c dX2_isWord_50 (g_c dX2_isWord_51 g_n))))))) rfl rfl ?_
            refine V_eq (st' := [.int (nI ((((i + 1) + 1) + 1) + 1)), .ref 19, .int 115]) rfl rfl (by rw [show (((σ 19 6) + 41) - 37) = nI ((((i + 1) + 1) + 1) + 1) from g_wpos (a := 41) (f := 37) (k := 4) h6 (by decide)]) ?_
            refine V_callVI C cv_X2_91 (c_X2_letterAt σ (i := ((((i + 1) + 1) + 1) + 1)) (by omega) hn hn160) ⟨_, _, _, _, rfl, rfl⟩ (by rfl) (by decide) (by decide) (fun _ h => h) (As := [.int (nI ((((i + 1) + 1) + 1) + 1))]) (rest := [.int 115]) rfl rfl (Nat.le_of_ble_eq_true rfl) dX2_isWord_52 ?_
            refine V_icmp_eq C (tgt := 60) dX2_isWord_55 (by decide) (fun h55_4 => ?_) (fun h55_4 => ?_)
            · skip
              refine V_blk C (pc' := 63) (σ' := σ) (L' := [some (.ref 19), some (.int 37), some (.int 42), some (.int 42)]) (st' := []) (g_c dX2_isWord_60 g_n) rfl rfl ?_
              refine V_goto C (tgt := 32) dX2_isWord_63 (by decide) ?_
              refine V_blk C (pc' := 34) (σ' := σ) (L' := [some (.ref 19), some (.int 37), some (.int 42), some (.int 42)]) (st' := [.int 42, .int 42]) (g_c dX2_isWord_32 (g_c dX2_isWord_33 g_n)) rfl rfl ?_
              refine V_icmp_ge2 C (tgt := 66) dX2_isWord_34 (by decide) (fun _ => ?_) (fun z => absurd z (by decide))
              refine V_blk C (pc' := 67) (σ' := σ) (L' := [some (.ref 19), some (.int 37), some (.int 42), some (.int 42)]) (st' := [.int 1]) (g_c dX2_isWord_66 g_n) rfl rfl ?_
              refine V_zret C (by decide) dX2_isWord_67 ?_
              have hlen : e - i = 5 := hsub.mp h12.symm
              exact ⟨by rw [if_pos (by simp [q_is, q_at, hlen, ← h55, ← h55_1, ← h55_2, ← h55_3, ← h55_4])], rfl⟩
            · skip
              refine V_blk C (pc' := 59) (σ' := σ) (L' := [some (.ref 19), some (.int 37), some (.int 42), some (.int 41)]) (st' := [.int 0]) (g_c dX2_isWord_58 g_n) rfl rfl ?_
              refine V_zret C (by decide) dX2_isWord_59 ?_
              exact ⟨by rw [if_neg (by simp [q_is, q_at, ← h55, ← h55_1, ← h55_2, ← h55_3]; exact fun _ z => absurd z.symm h55_4)], rfl⟩
          · skip
            refine V_blk C (pc' := 59) (σ' := σ) (L' := [some (.ref 19), some (.int 37), some (.int 42), some (.int 40)]) (st' := [.int 0]) (g_c dX2_isWord_58 g_n) rfl rfl ?_
            refine V_zret C (by decide) dX2_isWord_59 ?_
            exact ⟨by rw [if_neg (by simp [q_is, q_at, ← h55, ← h55_1, ← h55_2]; exact fun _ z => absurd z.symm h55_3)], rfl⟩
        · skip
          refine V_blk C (pc' := 59) (σ' := σ) (L' := [some (.ref 19), some (.int 37), some (.int 42), some (.int 39)]) (st' := [.int 0]) (g_c dX2_isWord_58 g_n) rfl rfl ?_
          refine V_zret C (by decide) dX2_isWord_59 ?_
          exact ⟨by rw [if_neg (by simp [q_is, q_at, ← h55, ← h55_1]; exact fun _ z => absurd z.symm h55_2)], rfl⟩
      · skip
        refine V_blk C (pc' := 59) (σ' := σ) (L' := [some (.ref 19), some (.int 37), some (.int 42), some (.int 38)]) (st' := [.int 0]) (g_c dX2_isWord_58 g_n) rfl rfl ?_
        refine V_zret C (by decide) dX2_isWord_59 ?_
        exact ⟨by rw [if_neg (by simp [q_is, q_at, ← h55]; exact fun _ z => absurd z.symm h55_1)], rfl⟩
    · skip
      refine V_blk C (pc' := 59) (σ' := σ) (L' := [some (.ref 19), some (.int 37), some (.int 42), some (.int 37)]) (st' := [.int 0]) (g_c dX2_isWord_58 g_n) rfl rfl ?_
      refine V_zret C (by decide) dX2_isWord_59 ?_
      exact ⟨by rw [if_neg (by simp [q_is, q_at]; exact fun _ z => absurd z.symm h55)], rfl⟩
set_option maxHeartbeats 4000000 in
set_option maxRecDepth 100000 in
theorem c_X2_isWord8 (σ : gS) {n : Nat} (hn : σ 19 1 = nI n) (hn160 : n ≤ 160) {i e : Nat} (hie : i ≤ e) (he : e ≤ n) (h4 : σ 19 4 = nI e) (h6 : σ 19 6 = nI i) : g_Met yX2_isWord cX2_isWord 4 (some .boolean) 5 kR [.ref 19, .int 43, .int 48] σ (fun rv s => rv = some (.int (if q_is (q_l (σ 20) n) i e [119, 97, 107, 101, 115] = true then 1 else 0)) ∧ s = σ) := by
  have hsub : σ 19 4 - σ 19 6 = 5 ↔ e - i = 5 := by
    rw [h4, h6, pk_sub hie]
    exact nI_eq (a := e - i) (b := 5) (by omega) (by omega)
  refine g_Met.of (own := 2) (L := [some (.ref 19), some (.int 43), some (.int 48), none]) (by decide) rfl rfl (fun ad => Nat.le_of_ble_eq_true rfl) (fun ad => rfl) (fun X G K C => ?_)
  refine V_blk C (pc' := 12) (σ' := σ) (L' := [some (.ref 19), some (.int 43), some (.int 48), none]) (st' := [.int ((σ 19 4) - (σ 19 6)), .int 5]) (g_c dX2_isWord_0 (g_c dX2_isWord_1 (g_c dX2_isWord_2 (g_c dX2_isWord_3 (g_c dX2_isWord_4 (g_c dX2_isWord_7 (g_c dX2_isWord_8 (g_c dX2_isWord_11 g_n)))))))) rfl rfl ?_
  refine V_icmp_ne C (tgt := 28) dX2_isWord_12 (by decide) (fun h12 => ?_) (fun h12 => ?_)
  · skip
    refine V_blk C (pc' := 29) (σ' := σ) (L' := [some (.ref 19), some (.int 43), some (.int 48), none]) (st' := [.int 0]) (g_c dX2_isWord_28 g_n) rfl rfl ?_
    refine V_zret C (by decide) dX2_isWord_29 ?_
    have hlen : ¬ e - i = 5 := fun z => h12 (hsub.mpr z).symm
    exact ⟨by rw [if_neg (by simp [q_is, hlen])], rfl⟩
  · skip
    refine V_blk C (pc' := 16) (σ' := σ) (L' := [some (.ref 19), some (.int 43), some (.int 48), none]) (st' := [.int 43]) (g_c dX2_isWord_15 g_n) rfl rfl ?_
    refine V_if_lt C (tgt := 28) dX2_isWord_16 (by decide) (fun z => absurd z (by decide)) (fun _ => ?_)
    refine V_blk C (pc' := 20) (σ' := σ) (L' := [some (.ref 19), some (.int 43), some (.int 48), none]) (st' := [.int 48]) (g_c dX2_isWord_19 g_n) rfl rfl ?_
    refine V_ldcS1 C dX2_isWord_20 ?_
    refine V_eq rfl rfl (st' := [.ref (100 + 1), .int 48]) rfl ?_
    refine V_callVs C (i := 1) cv_X2_110 (c_lenW σ) (by decide) rfl (by decide) (by decide) (fun _ h => h) (As := []) (rest := [.int 48]) rfl rfl (Nat.le_of_ble_eq_true rfl) dX2_isWord_22 ?_
    refine V_icmp_le2 C (tgt := 30) dX2_isWord_25 (by decide) (fun _ => ?_) (fun z => absurd z (by decide))
    refine V_blk C (pc' := 34) (σ' := σ) (L' := [some (.ref 19), some (.int 43), some (.int 48), some (.int 43)]) (st' := [.int 48, .int 43]) (g_c dX2_isWord_30 (g_c dX2_isWord_31 (g_c dX2_isWord_32 (g_c dX2_isWord_33 g_n)))) rfl rfl ?_
    refine V_icmp_ge2 C (tgt := 66) dX2_isWord_34 (by decide) (fun z => absurd z (by decide)) (fun _ => ?_)
    refine V_ldcS1 C dX2_isWord_37 ?_
    refine V_eq rfl rfl (st' := [.ref (100 + 1)]) rfl ?_
    refine V_blk C (pc' := 40) (σ' := σ) (L' := [some (.ref 19), some (.int 43), some (.int 48), some (.int 43)]) (st' := [.int 43, .ref (100 + 1)]) (g_c dX2_isWord_39 g_n) rfl rfl ?_
    refine V_callVs C (i := 1) cv_X2_113 (c_chW σ (k := 43) (c := 119) (by decide) (by decide)) (by decide) rfl (by decide) (by decide) (fun _ h => h) (As := [.int 43]) (rest := []) rfl rfl (Nat.le_of_ble_eq_true rfl) dX2_isWord_40 ?_
    refine V_blk C (pc' := 52) (σ' := σ) (L' := [some (.ref 19), some (.int 43), some (.int 48), some (.int 43)]) (st' := [.int (((σ 19 6) + 43) - 43), .ref 19, .int 119]) (g_c dX2_isWord_43 (g_c dX2_isWord_44 (g_c dX2_isWord_45 (g_c dX2_isWord_48 (g_c dX2_isWord_49 (g_c dX2_isWord_50 (g_c dX2_isWord_51 g_n))))))) rfl rfl ?_
    refine V_eq (st' := [.int (nI i), .ref 19, .int 119]) rfl rfl (by rw [show (((σ 19 6) + 43) - 43) = nI i from g_wpos (a := 43) (f := 43) (k := 0) h6 (by decide)]) ?_
    refine V_callVI C cv_X2_91 (c_X2_letterAt σ (i := i) (by omega) hn hn160) ⟨_, _, _, _, rfl, rfl⟩ (by rfl) (by decide) (by decide) (fun _ h => h) (As := [.int (nI i)]) (rest := [.int 119]) rfl rfl (Nat.le_of_ble_eq_true rfl) dX2_isWord_52 ?_
    refine V_icmp_eq C (tgt := 60) dX2_isWord_55 (by decide) (fun h55 => ?_) (fun h55 => ?_)
    · skip
      refine V_blk C (pc' := 63) (σ' := σ) (L' := [some (.ref 19), some (.int 43), some (.int 48), some (.int 44)]) (st' := []) (g_c dX2_isWord_60 g_n) rfl rfl ?_
      refine V_goto C (tgt := 32) dX2_isWord_63 (by decide) ?_
      refine V_blk C (pc' := 34) (σ' := σ) (L' := [some (.ref 19), some (.int 43), some (.int 48), some (.int 44)]) (st' := [.int 48, .int 44]) (g_c dX2_isWord_32 (g_c dX2_isWord_33 g_n)) rfl rfl ?_
      refine V_icmp_ge2 C (tgt := 66) dX2_isWord_34 (by decide) (fun z => absurd z (by decide)) (fun _ => ?_)
      refine V_ldcS1 C dX2_isWord_37 ?_
      refine V_eq rfl rfl (st' := [.ref (100 + 1)]) rfl ?_
      refine V_blk C (pc' := 40) (σ' := σ) (L' := [some (.ref 19), some (.int 43), some (.int 48), some (.int 44)]) (st' := [.int 44, .ref (100 + 1)]) (g_c dX2_isWord_39 g_n) rfl rfl ?_
      refine V_callVs C (i := 1) cv_X2_113 (c_chW σ (k := 44) (c := 97) (by decide) (by decide)) (by decide) rfl (by decide) (by decide) (fun _ h => h) (As := [.int 44]) (rest := []) rfl rfl (Nat.le_of_ble_eq_true rfl) dX2_isWord_40 ?_
      refine V_blk C (pc' := 52) (σ' := σ) (L' := [some (.ref 19), some (.int 43), some (.int 48), some (.int 44)]) (st' := [.int (((σ 19 6) + 44) - 43), .ref 19, .int 97]) (g_c dX2_isWord_43 (g_c dX2_isWord_44 (g_c dX2_isWord_45 (g_c dX2_isWord_48 (g_c dX2_isWord_49 (g_c dX2_isWord_50 (g_c dX2_isWord_51 g_n))))))) rfl rfl ?_
      refine V_eq (st' := [.int (nI (i + 1)), .ref 19, .int 97]) rfl rfl (by rw [show (((σ 19 6) + 44) - 43) = nI (i + 1) from g_wpos (a := 44) (f := 43) (k := 1) h6 (by decide)]) ?_
      refine V_callVI C cv_X2_91 (c_X2_letterAt σ (i := (i + 1)) (by omega) hn hn160) ⟨_, _, _, _, rfl, rfl⟩ (by rfl) (by decide) (by decide) (fun _ h => h) (As := [.int (nI (i + 1))]) (rest := [.int 97]) rfl rfl (Nat.le_of_ble_eq_true rfl) dX2_isWord_52 ?_
      refine V_icmp_eq C (tgt := 60) dX2_isWord_55 (by decide) (fun h55_1 => ?_) (fun h55_1 => ?_)
      · skip
        refine V_blk C (pc' := 63) (σ' := σ) (L' := [some (.ref 19), some (.int 43), some (.int 48), some (.int 45)]) (st' := []) (g_c dX2_isWord_60 g_n) rfl rfl ?_
        refine V_goto C (tgt := 32) dX2_isWord_63 (by decide) ?_
        refine V_blk C (pc' := 34) (σ' := σ) (L' := [some (.ref 19), some (.int 43), some (.int 48), some (.int 45)]) (st' := [.int 48, .int 45]) (g_c dX2_isWord_32 (g_c dX2_isWord_33 g_n)) rfl rfl ?_
        refine V_icmp_ge2 C (tgt := 66) dX2_isWord_34 (by decide) (fun z => absurd z (by decide)) (fun _ => ?_)
        refine V_ldcS1 C dX2_isWord_37 ?_
        refine V_eq rfl rfl (st' := [.ref (100 + 1)]) rfl ?_
        refine V_blk C (pc' := 40) (σ' := σ) (L' := [some (.ref 19), some (.int 43), some (.int 48), some (.int 45)]) (st' := [.int 45, .ref (100 + 1)]) (g_c dX2_isWord_39 g_n) rfl rfl ?_
        refine V_callVs C (i := 1) cv_X2_113 (c_chW σ (k := 45) (c := 107) (by decide) (by decide)) (by decide) rfl (by decide) (by decide) (fun _ h => h) (As := [.int 45]) (rest := []) rfl rfl (Nat.le_of_ble_eq_true rfl) dX2_isWord_40 ?_
        refine V_blk C (pc' := 52) (σ' := σ) (L' := [some (.ref 19), some (.int 43), some (.int 48), some (.int 45)]) (st' := [.int (((σ 19 6) + 45) - 43), .ref 19, .int 107]) (g_c dX2_isWord_43 (g_c dX2_isWord_44 (g_c dX2_isWord_45 (g_c dX2_isWord_48 (g_c dX2_isWord_49 (g_c dX2_isWord_50 (g_c dX2_isWord_51 g_n))))))) rfl rfl ?_
        refine V_eq (st' := [.int (nI ((i + 1) + 1)), .ref 19, .int 107]) rfl rfl (by rw [show (((σ 19 6) + 45) - 43) = nI ((i + 1) + 1) from g_wpos (a := 45) (f := 43) (k := 2) h6 (by decide)]) ?_
        refine V_callVI C cv_X2_91 (c_X2_letterAt σ (i := ((i + 1) + 1)) (by omega) hn hn160) ⟨_, _, _, _, rfl, rfl⟩ (by rfl) (by decide) (by decide) (fun _ h => h) (As := [.int (nI ((i + 1) + 1))]) (rest := [.int 107]) rfl rfl (Nat.le_of_ble_eq_true rfl) dX2_isWord_52 ?_
        refine V_icmp_eq C (tgt := 60) dX2_isWord_55 (by decide) (fun h55_2 => ?_) (fun h55_2 => ?_)
        · skip
          refine V_blk C (pc' := 63) (σ' := σ) (L' := [some (.ref 19), some (.int 43), some (.int 48), some (.int 46)]) (st' := []) (g_c dX2_isWord_60 g_n) rfl rfl ?_
          refine V_goto C (tgt := 32) dX2_isWord_63 (by decide) ?_
          refine V_blk C (pc' := 34) (σ' := σ) (L' := [some (.ref 19), some (.int 43), some (.int 48), some (.int 46)]) (st' := [.int 48, .int 46]) (g_c dX2_isWord_32 (g_c dX2_isWord_33 g_n)) rfl rfl ?_
          refine V_icmp_ge2 C (tgt := 66) dX2_isWord_34 (by decide) (fun z => absurd z (by decide)) (fun _ => ?_)
          refine V_ldcS1 C dX2_isWord_37 ?_
          refine V_eq rfl rfl (st' := [.ref (100 + 1)]) rfl ?_
          refine V_blk C (pc' := 40) (σ' := σ) (L' := [some (.ref 19), some (.int 43), some (.int 48), some (.int 46)]) (st' := [.int 46, .ref (100 + 1)]) (g_c dX2_isWord_39 g_n) rfl rfl ?_
          refine V_callVs C (i := 1) cv_X2_113 (c_chW σ (k := 46) (c := 101) (by decide) (by decide)) (by decide) rfl (by decide) (by decide) (fun _ h => h) (As := [.int 46]) (rest := []) rfl rfl (Nat.le_of_ble_eq_true rfl) dX2_isWord_40 ?_
          refine V_blk C (pc' := 52) (σ' := σ) (L' := [some (.ref 19), some (.int 43), some (.int 48), some (.int 46)]) (st' := [.int (((σ 19 6) + 46) - 43), .ref 19, .int 101]) (g_c dX2_isWord_43 (g_c dX2_isWord_44 (g_c dX2_isWord_45 (g_c dX2_isWord_48 (g_c dX2_isWord_49 (g_c dX2_isWord_50 (g_c dX2_isWord_51 g_n))))))) rfl rfl ?_
          refine V_eq (st' := [.int (nI (((i + 1) + 1) + 1)), .ref 19, .int 101]) rfl rfl (by rw [show (((σ 19 6) + 46) - 43) = nI (((i + 1) + 1) + 1) from g_wpos (a := 46) (f := 43) (k := 3) h6 (by decide)]) ?_
          refine V_callVI C cv_X2_91 (c_X2_letterAt σ (i := (((i + 1) + 1) + 1)) (by omega) hn hn160) ⟨_, _, _, _, rfl, rfl⟩ (by rfl) (by decide) (by decide) (fun _ h => h) (As := [.int (nI (((i + 1) + 1) + 1))]) (rest := [.int 101]) rfl rfl (Nat.le_of_ble_eq_true rfl) dX2_isWord_52 ?_
          refine V_icmp_eq C (tgt := 60) dX2_isWord_55 (by decide) (fun h55_3 => ?_) (fun h55_3 => ?_)
          · skip
            refine V_blk C (pc' := 63) (σ' := σ) (L' := [some (.ref 19), some (.int 43), some (.int 48), some (.int 47)]) (st' := []) (g_c dX2_isWord_60 g_n) rfl rfl ?_
            refine V_goto C (tgt := 32) dX2_isWord_63 (by decide) ?_
            refine V_blk C (pc' := 34) (σ' := σ) (L' := [some (.ref 19), some (.int 43), some (.int 48), some (.int 47)]) (st' := [.int 48, .int 47]) (g_c dX2_isWord_32 (g_c dX2_isWord_33 g_n)) rfl rfl ?_
            refine V_icmp_ge2 C (tgt := 66) dX2_isWord_34 (by decide) (fun z => absurd z (by decide)) (fun _ => ?_)
            refine V_ldcS1 C dX2_isWord_37 ?_
            refine V_eq rfl rfl (st' := [.ref (100 + 1)]) rfl ?_
            refine V_blk C (pc' := 40) (σ' := σ) (L' := [some (.ref 19), some (.int 43), some (.int 48), some (.int 47)]) (st' := [.int 47, .ref (100 + 1)]) (g_c dX2_isWord_39 g_n) rfl rfl ?_
            refine V_callVs C (i := 1) cv_X2_113 (c_chW σ (k := 47) (c := 115) (by decide) (by decide)) (by decide) rfl (by decide) (by decide) (fun _ h => h) (As := [.int 47]) (rest := []) rfl rfl (Nat.le_of_ble_eq_true rfl) dX2_isWord_40 ?_
            refine V_blk C (pc' := 52) (σ' := σ) (L' := [some (.ref 19), some (.int 43), some (.int 48), some (.int 47)]) (st' := [.int (((σ 19 6) + 47) - 43), .ref 19, .int 115]) (g_c dX2_isWord_43 (g_c dX2_isWord_44 (g_c dX2_isWord_45 (g_c dX2_isWord_48 (g_c dX2_isWord_49 (g_c dX2_isWord_50 (g_c dX2_isWord_51 g_n))))))) rfl rfl ?_
            refine V_eq (st' := [.int (nI ((((i + 1) + 1) + 1) + 1)), .ref 19, .int 115]) rfl rfl (by rw [show (((σ 19 6) + 47) - 43) = nI ((((i + 1) + 1) + 1) + 1) from g_wpos (a := 47) (f := 43) (k := 4) h6 (by decide)]) ?_
            refine V_callVI C cv_X2_91 (c_X2_letterAt σ (i := ((((i + 1) + 1) + 1) + 1)) (by omega) hn hn160) ⟨_, _, _, _, rfl, rfl⟩ (by rfl) (by decide) (by decide) (fun _ h => h) (As := [.int (nI ((((i + 1) + 1) + 1) + 1))]) (rest := [.int 115]) rfl rfl (Nat.le_of_ble_eq_true rfl) dX2_isWord_52 ?_
            refine V_icmp_eq C (tgt := 60) dX2_isWord_55 (by decide) (fun h55_4 => ?_) (fun h55_4 => ?_)
            · skip
              refine V_blk C (pc' := 63) (σ' := σ) (L' := [some (.ref 19), some (.int 43), some (.int 48), some (.int 48)]) (st' := []) (g_c dX2_isWord_60 g_n) rfl rfl ?_
              refine V_goto C (tgt := 32) dX2_isWord_63 (by decide) ?_
              refine V_blk C (pc' := 34) (σ' := σ) (L' := [some (.ref 19), some (.int 43), some (.int 48), some (.int 48)]) (st' := [.int 48, .int 48]) (g_c dX2_isWord_32 (g_c dX2_isWord_33 g_n)) rfl rfl ?_
              refine V_icmp_ge2 C (tgt := 66) dX2_isWord_34 (by decide) (fun _ => ?_) (fun z => absurd z (by decide))
              refine V_blk C (pc' := 67) (σ' := σ) (L' := [some (.ref 19), some (.int 43), some (.int 48), some (.int 48)]) (st' := [.int 1]) (g_c dX2_isWord_66 g_n) rfl rfl ?_
              refine V_zret C (by decide) dX2_isWord_67 ?_
              have hlen : e - i = 5 := hsub.mp h12.symm
              exact ⟨by rw [if_pos (by simp [q_is, q_at, hlen, ← h55, ← h55_1, ← h55_2, ← h55_3, ← h55_4])], rfl⟩
            · skip
              refine V_blk C (pc' := 59) (σ' := σ) (L' := [some (.ref 19), some (.int 43), some (.int 48), some (.int 47)]) (st' := [.int 0]) (g_c dX2_isWord_58 g_n) rfl rfl ?_
              refine V_zret C (by decide) dX2_isWord_59 ?_
              exact ⟨by rw [if_neg (by simp [q_is, q_at, ← h55, ← h55_1, ← h55_2, ← h55_3]; exact fun _ z => absurd z.symm h55_4)], rfl⟩
          · skip
            refine V_blk C (pc' := 59) (σ' := σ) (L' := [some (.ref 19), some (.int 43), some (.int 48), some (.int 46)]) (st' := [.int 0]) (g_c dX2_isWord_58 g_n) rfl rfl ?_
            refine V_zret C (by decide) dX2_isWord_59 ?_
            exact ⟨by rw [if_neg (by simp [q_is, q_at, ← h55, ← h55_1, ← h55_2]; exact fun _ z => absurd z.symm h55_3)], rfl⟩
        · skip
          refine V_blk C (pc' := 59) (σ' := σ) (L' := [some (.ref 19), some (.int 43), some (.int 48), some (.int 45)]) (st' := [.int 0]) (g_c dX2_isWord_58 g_n) rfl rfl ?_
          refine V_zret C (by decide) dX2_isWord_59 ?_
          exact ⟨by rw [if_neg (by simp [q_is, q_at, ← h55, ← h55_1]; exact fun _ z => absurd z.symm h55_2)], rfl⟩
      · skip
        refine V_blk C (pc' := 59) (σ' := σ) (L' := [some (.ref 19), some (.int 43), some (.int 48), some (.int 44)]) (st' := [.int 0]) (g_c dX2_isWord_58 g_n) rfl rfl ?_
        refine V_zret C (by decide) dX2_isWord_59 ?_
        exact ⟨by rw [if_neg (by simp [q_is, q_at, ← h55]; exact fun _ z => absurd z.symm h55_1)], rfl⟩
    · skip
      refine V_blk C (pc' := 59) (σ' := σ) (L' := [some (.ref 19), some (.int 43), some (.int 48), some (.int 43)]) (st' := [.int 0]) (g_c dX2_isWord_58 g_n) rfl rfl ?_
      refine V_zret C (by decide) dX2_isWord_59 ?_
      exact ⟨by rw [if_neg (by simp [q_is, q_at]; exact fun _ z => absurd z.symm h55)], rfl⟩
set_option maxHeartbeats 4000000 in
set_option maxRecDepth 100000 in
theorem c_X2_isWord9 (σ : gS) {n : Nat} (hn : σ 19 1 = nI n) (hn160 : n ≤ 160) {i e : Nat} (hie : i ≤ e) (he : e ≤ n) (h4 : σ 19 4 = nI e) (h6 : σ 19 6 = nI i) : g_Met yX2_isWord cX2_isWord 4 (some .boolean) 5 kR [.ref 19, .int 49, .int 51] σ (fun rv s => rv = some (.int (if q_is (q_l (σ 20) n) i e [111, 114] = true then 1 else 0)) ∧ s = σ) := by
  have hsub : σ 19 4 - σ 19 6 = 2 ↔ e - i = 2 := by
    rw [h4, h6, pk_sub hie]
    exact nI_eq (a := e - i) (b := 2) (by omega) (by omega)
  refine g_Met.of (own := 2) (L := [some (.ref 19), some (.int 49), some (.int 51), none]) (by decide) rfl rfl (fun ad => Nat.le_of_ble_eq_true rfl) (fun ad => rfl) (fun X G K C => ?_)
  refine V_blk C (pc' := 12) (σ' := σ) (L' := [some (.ref 19), some (.int 49), some (.int 51), none]) (st' := [.int ((σ 19 4) - (σ 19 6)), .int 2]) (g_c dX2_isWord_0 (g_c dX2_isWord_1 (g_c dX2_isWord_2 (g_c dX2_isWord_3 (g_c dX2_isWord_4 (g_c dX2_isWord_7 (g_c dX2_isWord_8 (g_c dX2_isWord_11 g_n)))))))) rfl rfl ?_
  refine V_icmp_ne C (tgt := 28) dX2_isWord_12 (by decide) (fun h12 => ?_) (fun h12 => ?_)
  · skip
    refine V_blk C (pc' := 29) (σ' := σ) (L' := [some (.ref 19), some (.int 49), some (.int 51), none]) (st' := [.int 0]) (g_c dX2_isWord_28 g_n) rfl rfl ?_
    refine V_zret C (by decide) dX2_isWord_29 ?_
    have hlen : ¬ e - i = 2 := fun z => h12 (hsub.mpr z).symm
    exact ⟨by rw [if_neg (by simp [q_is, hlen])], rfl⟩
  · skip
    refine V_blk C (pc' := 16) (σ' := σ) (L' := [some (.ref 19), some (.int 49), some (.int 51), none]) (st' := [.int 49]) (g_c dX2_isWord_15 g_n) rfl rfl ?_
    refine V_if_lt C (tgt := 28) dX2_isWord_16 (by decide) (fun z => absurd z (by decide)) (fun _ => ?_)
    refine V_blk C (pc' := 20) (σ' := σ) (L' := [some (.ref 19), some (.int 49), some (.int 51), none]) (st' := [.int 51]) (g_c dX2_isWord_19 g_n) rfl rfl ?_
    refine V_ldcS1 C dX2_isWord_20 ?_
    refine V_eq rfl rfl (st' := [.ref (100 + 1), .int 51]) rfl ?_
    refine V_callVs C (i := 1) cv_X2_110 (c_lenW σ) (by decide) rfl (by decide) (by decide) (fun _ h => h) (As := []) (rest := [.int 51]) rfl rfl (Nat.le_of_ble_eq_true rfl) dX2_isWord_22 ?_
    refine V_icmp_le2 C (tgt := 30) dX2_isWord_25 (by decide) (fun _ => ?_) (fun z => absurd z (by decide))
    refine V_blk C (pc' := 34) (σ' := σ) (L' := [some (.ref 19), some (.int 49), some (.int 51), some (.int 49)]) (st' := [.int 51, .int 49]) (g_c dX2_isWord_30 (g_c dX2_isWord_31 (g_c dX2_isWord_32 (g_c dX2_isWord_33 g_n)))) rfl rfl ?_
    refine V_icmp_ge2 C (tgt := 66) dX2_isWord_34 (by decide) (fun z => absurd z (by decide)) (fun _ => ?_)
    refine V_ldcS1 C dX2_isWord_37 ?_
    refine V_eq rfl rfl (st' := [.ref (100 + 1)]) rfl ?_
    refine V_blk C (pc' := 40) (σ' := σ) (L' := [some (.ref 19), some (.int 49), some (.int 51), some (.int 49)]) (st' := [.int 49, .ref (100 + 1)]) (g_c dX2_isWord_39 g_n) rfl rfl ?_
    refine V_callVs C (i := 1) cv_X2_113 (c_chW σ (k := 49) (c := 111) (by decide) (by decide)) (by decide) rfl (by decide) (by decide) (fun _ h => h) (As := [.int 49]) (rest := []) rfl rfl (Nat.le_of_ble_eq_true rfl) dX2_isWord_40 ?_
    refine V_blk C (pc' := 52) (σ' := σ) (L' := [some (.ref 19), some (.int 49), some (.int 51), some (.int 49)]) (st' := [.int (((σ 19 6) + 49) - 49), .ref 19, .int 111]) (g_c dX2_isWord_43 (g_c dX2_isWord_44 (g_c dX2_isWord_45 (g_c dX2_isWord_48 (g_c dX2_isWord_49 (g_c dX2_isWord_50 (g_c dX2_isWord_51 g_n))))))) rfl rfl ?_
    refine V_eq (st' := [.int (nI i), .ref 19, .int 111]) rfl rfl (by rw [show (((σ 19 6) + 49) - 49) = nI i from g_wpos (a := 49) (f := 49) (k := 0) h6 (by decide)]) ?_
    refine V_callVI C cv_X2_91 (c_X2_letterAt σ (i := i) (by omega) hn hn160) ⟨_, _, _, _, rfl, rfl⟩ (by rfl) (by decide) (by decide) (fun _ h => h) (As := [.int (nI i)]) (rest := [.int 111]) rfl rfl (Nat.le_of_ble_eq_true rfl) dX2_isWord_52 ?_
    refine V_icmp_eq C (tgt := 60) dX2_isWord_55 (by decide) (fun h55 => ?_) (fun h55 => ?_)
    · skip
      refine V_blk C (pc' := 63) (σ' := σ) (L' := [some (.ref 19), some (.int 49), some (.int 51), some (.int 50)]) (st' := []) (g_c dX2_isWord_60 g_n) rfl rfl ?_
      refine V_goto C (tgt := 32) dX2_isWord_63 (by decide) ?_
      refine V_blk C (pc' := 34) (σ' := σ) (L' := [some (.ref 19), some (.int 49), some (.int 51), some (.int 50)]) (st' := [.int 51, .int 50]) (g_c dX2_isWord_32 (g_c dX2_isWord_33 g_n)) rfl rfl ?_
      refine V_icmp_ge2 C (tgt := 66) dX2_isWord_34 (by decide) (fun z => absurd z (by decide)) (fun _ => ?_)
      refine V_ldcS1 C dX2_isWord_37 ?_
      refine V_eq rfl rfl (st' := [.ref (100 + 1)]) rfl ?_
      refine V_blk C (pc' := 40) (σ' := σ) (L' := [some (.ref 19), some (.int 49), some (.int 51), some (.int 50)]) (st' := [.int 50, .ref (100 + 1)]) (g_c dX2_isWord_39 g_n) rfl rfl ?_
      refine V_callVs C (i := 1) cv_X2_113 (c_chW σ (k := 50) (c := 114) (by decide) (by decide)) (by decide) rfl (by decide) (by decide) (fun _ h => h) (As := [.int 50]) (rest := []) rfl rfl (Nat.le_of_ble_eq_true rfl) dX2_isWord_40 ?_
      refine V_blk C (pc' := 52) (σ' := σ) (L' := [some (.ref 19), some (.int 49), some (.int 51), some (.int 50)]) (st' := [.int (((σ 19 6) + 50) - 49), .ref 19, .int 114]) (g_c dX2_isWord_43 (g_c dX2_isWord_44 (g_c dX2_isWord_45 (g_c dX2_isWord_48 (g_c dX2_isWord_49 (g_c dX2_isWord_50 (g_c dX2_isWord_51 g_n))))))) rfl rfl ?_
      refine V_eq (st' := [.int (nI (i + 1)), .ref 19, .int 114]) rfl rfl (by rw [show (((σ 19 6) + 50) - 49) = nI (i + 1) from g_wpos (a := 50) (f := 49) (k := 1) h6 (by decide)]) ?_
      refine V_callVI C cv_X2_91 (c_X2_letterAt σ (i := (i + 1)) (by omega) hn hn160) ⟨_, _, _, _, rfl, rfl⟩ (by rfl) (by decide) (by decide) (fun _ h => h) (As := [.int (nI (i + 1))]) (rest := [.int 114]) rfl rfl (Nat.le_of_ble_eq_true rfl) dX2_isWord_52 ?_
      refine V_icmp_eq C (tgt := 60) dX2_isWord_55 (by decide) (fun h55_1 => ?_) (fun h55_1 => ?_)
      · skip
        refine V_blk C (pc' := 63) (σ' := σ) (L' := [some (.ref 19), some (.int 49), some (.int 51), some (.int 51)]) (st' := []) (g_c dX2_isWord_60 g_n) rfl rfl ?_
        refine V_goto C (tgt := 32) dX2_isWord_63 (by decide) ?_
        refine V_blk C (pc' := 34) (σ' := σ) (L' := [some (.ref 19), some (.int 49), some (.int 51), some (.int 51)]) (st' := [.int 51, .int 51]) (g_c dX2_isWord_32 (g_c dX2_isWord_33 g_n)) rfl rfl ?_
        refine V_icmp_ge2 C (tgt := 66) dX2_isWord_34 (by decide) (fun _ => ?_) (fun z => absurd z (by decide))
        refine V_blk C (pc' := 67) (σ' := σ) (L' := [some (.ref 19), some (.int 49), some (.int 51), some (.int 51)]) (st' := [.int 1]) (g_c dX2_isWord_66 g_n) rfl rfl ?_
        refine V_zret C (by decide) dX2_isWord_67 ?_
        have hlen : e - i = 2 := hsub.mp h12.symm
        exact ⟨by rw [if_pos (by simp [q_is, q_at, hlen, ← h55, ← h55_1])], rfl⟩
      · skip
        refine V_blk C (pc' := 59) (σ' := σ) (L' := [some (.ref 19), some (.int 49), some (.int 51), some (.int 50)]) (st' := [.int 0]) (g_c dX2_isWord_58 g_n) rfl rfl ?_
        refine V_zret C (by decide) dX2_isWord_59 ?_
        exact ⟨by rw [if_neg (by simp [q_is, q_at, ← h55]; exact fun _ z => absurd z.symm h55_1)], rfl⟩
    · skip
      refine V_blk C (pc' := 59) (σ' := σ) (L' := [some (.ref 19), some (.int 49), some (.int 51), some (.int 49)]) (st' := [.int 0]) (g_c dX2_isWord_58 g_n) rfl rfl ?_
      refine V_zret C (by decide) dX2_isWord_59 ?_
      exact ⟨by rw [if_neg (by simp [q_is, q_at]; exact fun _ z => absurd z.symm h55)], rfl⟩
set_option maxHeartbeats 4000000 in
set_option maxRecDepth 100000 in
theorem c_X2_isWord10 (σ : gS) {n : Nat} (hn : σ 19 1 = nI n) (hn160 : n ≤ 160) {i e : Nat} (hie : i ≤ e) (he : e ≤ n) (h4 : σ 19 4 = nI e) (h6 : σ 19 6 = nI i) : g_Met yX2_isWord cX2_isWord 4 (some .boolean) 5 kR [.ref 19, .int 52, .int 55] σ (fun rv s => rv = some (.int (if q_is (q_l (σ 20) n) i e [97, 110, 100] = true then 1 else 0)) ∧ s = σ) := by
  have hsub : σ 19 4 - σ 19 6 = 3 ↔ e - i = 3 := by
    rw [h4, h6, pk_sub hie]
    exact nI_eq (a := e - i) (b := 3) (by omega) (by omega)
  refine g_Met.of (own := 2) (L := [some (.ref 19), some (.int 52), some (.int 55), none]) (by decide) rfl rfl (fun ad => Nat.le_of_ble_eq_true rfl) (fun ad => rfl) (fun X G K C => ?_)
  refine V_blk C (pc' := 12) (σ' := σ) (L' := [some (.ref 19), some (.int 52), some (.int 55), none]) (st' := [.int ((σ 19 4) - (σ 19 6)), .int 3]) (g_c dX2_isWord_0 (g_c dX2_isWord_1 (g_c dX2_isWord_2 (g_c dX2_isWord_3 (g_c dX2_isWord_4 (g_c dX2_isWord_7 (g_c dX2_isWord_8 (g_c dX2_isWord_11 g_n)))))))) rfl rfl ?_
  refine V_icmp_ne C (tgt := 28) dX2_isWord_12 (by decide) (fun h12 => ?_) (fun h12 => ?_)
  · skip
    refine V_blk C (pc' := 29) (σ' := σ) (L' := [some (.ref 19), some (.int 52), some (.int 55), none]) (st' := [.int 0]) (g_c dX2_isWord_28 g_n) rfl rfl ?_
    refine V_zret C (by decide) dX2_isWord_29 ?_
    have hlen : ¬ e - i = 3 := fun z => h12 (hsub.mpr z).symm
    exact ⟨by rw [if_neg (by simp [q_is, hlen])], rfl⟩
  · skip
    refine V_blk C (pc' := 16) (σ' := σ) (L' := [some (.ref 19), some (.int 52), some (.int 55), none]) (st' := [.int 52]) (g_c dX2_isWord_15 g_n) rfl rfl ?_
    refine V_if_lt C (tgt := 28) dX2_isWord_16 (by decide) (fun z => absurd z (by decide)) (fun _ => ?_)
    refine V_blk C (pc' := 20) (σ' := σ) (L' := [some (.ref 19), some (.int 52), some (.int 55), none]) (st' := [.int 55]) (g_c dX2_isWord_19 g_n) rfl rfl ?_
    refine V_ldcS1 C dX2_isWord_20 ?_
    refine V_eq rfl rfl (st' := [.ref (100 + 1), .int 55]) rfl ?_
    refine V_callVs C (i := 1) cv_X2_110 (c_lenW σ) (by decide) rfl (by decide) (by decide) (fun _ h => h) (As := []) (rest := [.int 55]) rfl rfl (Nat.le_of_ble_eq_true rfl) dX2_isWord_22 ?_
    refine V_icmp_le2 C (tgt := 30) dX2_isWord_25 (by decide) (fun _ => ?_) (fun z => absurd z (by decide))
    refine V_blk C (pc' := 34) (σ' := σ) (L' := [some (.ref 19), some (.int 52), some (.int 55), some (.int 52)]) (st' := [.int 55, .int 52]) (g_c dX2_isWord_30 (g_c dX2_isWord_31 (g_c dX2_isWord_32 (g_c dX2_isWord_33 g_n)))) rfl rfl ?_
    refine V_icmp_ge2 C (tgt := 66) dX2_isWord_34 (by decide) (fun z => absurd z (by decide)) (fun _ => ?_)
    refine V_ldcS1 C dX2_isWord_37 ?_
    refine V_eq rfl rfl (st' := [.ref (100 + 1)]) rfl ?_
    refine V_blk C (pc' := 40) (σ' := σ) (L' := [some (.ref 19), some (.int 52), some (.int 55), some (.int 52)]) (st' := [.int 52, .ref (100 + 1)]) (g_c dX2_isWord_39 g_n) rfl rfl ?_
    refine V_callVs C (i := 1) cv_X2_113 (c_chW σ (k := 52) (c := 97) (by decide) (by decide)) (by decide) rfl (by decide) (by decide) (fun _ h => h) (As := [.int 52]) (rest := []) rfl rfl (Nat.le_of_ble_eq_true rfl) dX2_isWord_40 ?_
    refine V_blk C (pc' := 52) (σ' := σ) (L' := [some (.ref 19), some (.int 52), some (.int 55), some (.int 52)]) (st' := [.int (((σ 19 6) + 52) - 52), .ref 19, .int 97]) (g_c dX2_isWord_43 (g_c dX2_isWord_44 (g_c dX2_isWord_45 (g_c dX2_isWord_48 (g_c dX2_isWord_49 (g_c dX2_isWord_50 (g_c dX2_isWord_51 g_n))))))) rfl rfl ?_
    refine V_eq (st' := [.int (nI i), .ref 19, .int 97]) rfl rfl (by rw [show (((σ 19 6) + 52) - 52) = nI i from g_wpos (a := 52) (f := 52) (k := 0) h6 (by decide)]) ?_
    refine V_callVI C cv_X2_91 (c_X2_letterAt σ (i := i) (by omega) hn hn160) ⟨_, _, _, _, rfl, rfl⟩ (by rfl) (by decide) (by decide) (fun _ h => h) (As := [.int (nI i)]) (rest := [.int 97]) rfl rfl (Nat.le_of_ble_eq_true rfl) dX2_isWord_52 ?_
    refine V_icmp_eq C (tgt := 60) dX2_isWord_55 (by decide) (fun h55 => ?_) (fun h55 => ?_)
    · skip
      refine V_blk C (pc' := 63) (σ' := σ) (L' := [some (.ref 19), some (.int 52), some (.int 55), some (.int 53)]) (st' := []) (g_c dX2_isWord_60 g_n) rfl rfl ?_
      refine V_goto C (tgt := 32) dX2_isWord_63 (by decide) ?_
      refine V_blk C (pc' := 34) (σ' := σ) (L' := [some (.ref 19), some (.int 52), some (.int 55), some (.int 53)]) (st' := [.int 55, .int 53]) (g_c dX2_isWord_32 (g_c dX2_isWord_33 g_n)) rfl rfl ?_
      refine V_icmp_ge2 C (tgt := 66) dX2_isWord_34 (by decide) (fun z => absurd z (by decide)) (fun _ => ?_)
      refine V_ldcS1 C dX2_isWord_37 ?_
      refine V_eq rfl rfl (st' := [.ref (100 + 1)]) rfl ?_
      refine V_blk C (pc' := 40) (σ' := σ) (L' := [some (.ref 19), some (.int 52), some (.int 55), some (.int 53)]) (st' := [.int 53, .ref (100 + 1)]) (g_c dX2_isWord_39 g_n) rfl rfl ?_
      refine V_callVs C (i := 1) cv_X2_113 (c_chW σ (k := 53) (c := 110) (by decide) (by decide)) (by decide) rfl (by decide) (by decide) (fun _ h => h) (As := [.int 53]) (rest := []) rfl rfl (Nat.le_of_ble_eq_true rfl) dX2_isWord_40 ?_
      refine V_blk C (pc' := 52) (σ' := σ) (L' := [some (.ref 19), some (.int 52), some (.int 55), some (.int 53)]) (st' := [.int (((σ 19 6) + 53) - 52), .ref 19, .int 110]) (g_c dX2_isWord_43 (g_c dX2_isWord_44 (g_c dX2_isWord_45 (g_c dX2_isWord_48 (g_c dX2_isWord_49 (g_c dX2_isWord_50 (g_c dX2_isWord_51 g_n))))))) rfl rfl ?_
      refine V_eq (st' := [.int (nI (i + 1)), .ref 19, .int 110]) rfl rfl (by rw [show (((σ 19 6) + 53) - 52) = nI (i + 1) from g_wpos (a := 53) (f := 52) (k := 1) h6 (by decide)]) ?_
      refine V_callVI C cv_X2_91 (c_X2_letterAt σ (i := (i + 1)) (by omega) hn hn160) ⟨_, _, _, _, rfl, rfl⟩ (by rfl) (by decide) (by decide) (fun _ h => h) (As := [.int (nI (i + 1))]) (rest := [.int 110]) rfl rfl (Nat.le_of_ble_eq_true rfl) dX2_isWord_52 ?_
      refine V_icmp_eq C (tgt := 60) dX2_isWord_55 (by decide) (fun h55_1 => ?_) (fun h55_1 => ?_)
      · skip
        refine V_blk C (pc' := 63) (σ' := σ) (L' := [some (.ref 19), some (.int 52), some (.int 55), some (.int 54)]) (st' := []) (g_c dX2_isWord_60 g_n) rfl rfl ?_
        refine V_goto C (tgt := 32) dX2_isWord_63 (by decide) ?_
        refine V_blk C (pc' := 34) (σ' := σ) (L' := [some (.ref 19), some (.int 52), some (.int 55), some (.int 54)]) (st' := [.int 55, .int 54]) (g_c dX2_isWord_32 (g_c dX2_isWord_33 g_n)) rfl rfl ?_
        refine V_icmp_ge2 C (tgt := 66) dX2_isWord_34 (by decide) (fun z => absurd z (by decide)) (fun _ => ?_)
        refine V_ldcS1 C dX2_isWord_37 ?_
        refine V_eq rfl rfl (st' := [.ref (100 + 1)]) rfl ?_
        refine V_blk C (pc' := 40) (σ' := σ) (L' := [some (.ref 19), some (.int 52), some (.int 55), some (.int 54)]) (st' := [.int 54, .ref (100 + 1)]) (g_c dX2_isWord_39 g_n) rfl rfl ?_
        refine V_callVs C (i := 1) cv_X2_113 (c_chW σ (k := 54) (c := 100) (by decide) (by decide)) (by decide) rfl (by decide) (by decide) (fun _ h => h) (As := [.int 54]) (rest := []) rfl rfl (Nat.le_of_ble_eq_true rfl) dX2_isWord_40 ?_
        refine V_blk C (pc' := 52) (σ' := σ) (L' := [some (.ref 19), some (.int 52), some (.int 55), some (.int 54)]) (st' := [.int (((σ 19 6) + 54) - 52), .ref 19, .int 100]) (g_c dX2_isWord_43 (g_c dX2_isWord_44 (g_c dX2_isWord_45 (g_c dX2_isWord_48 (g_c dX2_isWord_49 (g_c dX2_isWord_50 (g_c dX2_isWord_51 g_n))))))) rfl rfl ?_
        refine V_eq (st' := [.int (nI ((i + 1) + 1)), .ref 19, .int 100]) rfl rfl (by rw [show (((σ 19 6) + 54) - 52) = nI ((i + 1) + 1) from g_wpos (a := 54) (f := 52) (k := 2) h6 (by decide)]) ?_
        refine V_callVI C cv_X2_91 (c_X2_letterAt σ (i := ((i + 1) + 1)) (by omega) hn hn160) ⟨_, _, _, _, rfl, rfl⟩ (by rfl) (by decide) (by decide) (fun _ h => h) (As := [.int (nI ((i + 1) + 1))]) (rest := [.int 100]) rfl rfl (Nat.le_of_ble_eq_true rfl) dX2_isWord_52 ?_
        refine V_icmp_eq C (tgt := 60) dX2_isWord_55 (by decide) (fun h55_2 => ?_) (fun h55_2 => ?_)
        · skip
          refine V_blk C (pc' := 63) (σ' := σ) (L' := [some (.ref 19), some (.int 52), some (.int 55), some (.int 55)]) (st' := []) (g_c dX2_isWord_60 g_n) rfl rfl ?_
          refine V_goto C (tgt := 32) dX2_isWord_63 (by decide) ?_
          refine V_blk C (pc' := 34) (σ' := σ) (L' := [some (.ref 19), some (.int 52), some (.int 55), some (.int 55)]) (st' := [.int 55, .int 55]) (g_c dX2_isWord_32 (g_c dX2_isWord_33 g_n)) rfl rfl ?_
          refine V_icmp_ge2 C (tgt := 66) dX2_isWord_34 (by decide) (fun _ => ?_) (fun z => absurd z (by decide))
          refine V_blk C (pc' := 67) (σ' := σ) (L' := [some (.ref 19), some (.int 52), some (.int 55), some (.int 55)]) (st' := [.int 1]) (g_c dX2_isWord_66 g_n) rfl rfl ?_
          refine V_zret C (by decide) dX2_isWord_67 ?_
          have hlen : e - i = 3 := hsub.mp h12.symm
          exact ⟨by rw [if_pos (by simp [q_is, q_at, hlen, ← h55, ← h55_1, ← h55_2])], rfl⟩
        · skip
          refine V_blk C (pc' := 59) (σ' := σ) (L' := [some (.ref 19), some (.int 52), some (.int 55), some (.int 54)]) (st' := [.int 0]) (g_c dX2_isWord_58 g_n) rfl rfl ?_
          refine V_zret C (by decide) dX2_isWord_59 ?_
          exact ⟨by rw [if_neg (by simp [q_is, q_at, ← h55, ← h55_1]; exact fun _ z => absurd z.symm h55_2)], rfl⟩
      · skip
        refine V_blk C (pc' := 59) (σ' := σ) (L' := [some (.ref 19), some (.int 52), some (.int 55), some (.int 53)]) (st' := [.int 0]) (g_c dX2_isWord_58 g_n) rfl rfl ?_
        refine V_zret C (by decide) dX2_isWord_59 ?_
        exact ⟨by rw [if_neg (by simp [q_is, q_at, ← h55]; exact fun _ z => absurd z.symm h55_1)], rfl⟩
    · skip
      refine V_blk C (pc' := 59) (σ' := σ) (L' := [some (.ref 19), some (.int 52), some (.int 55), some (.int 52)]) (st' := [.int 0]) (g_c dX2_isWord_58 g_n) rfl rfl ?_
      refine V_zret C (by decide) dX2_isWord_59 ?_
      exact ⟨by rw [if_neg (by simp [q_is, q_at]; exact fun _ z => absurd z.symm h55)], rfl⟩
set_option maxHeartbeats 4000000 in
set_option maxRecDepth 100000 in
theorem c_X2_isWord11 (σ : gS) {n : Nat} (hn : σ 19 1 = nI n) (hn160 : n ≤ 160) {i e : Nat} (hie : i ≤ e) (he : e ≤ n) (h4 : σ 19 4 = nI e) (h6 : σ 19 6 = nI i) : g_Met yX2_isWord cX2_isWord 4 (some .boolean) 5 kR [.ref 19, .int 56, .int 59] σ (fun rv s => rv = some (.int (if q_is (q_l (σ 20) n) i e [110, 111, 116] = true then 1 else 0)) ∧ s = σ) := by
  have hsub : σ 19 4 - σ 19 6 = 3 ↔ e - i = 3 := by
    rw [h4, h6, pk_sub hie]
    exact nI_eq (a := e - i) (b := 3) (by omega) (by omega)
  refine g_Met.of (own := 2) (L := [some (.ref 19), some (.int 56), some (.int 59), none]) (by decide) rfl rfl (fun ad => Nat.le_of_ble_eq_true rfl) (fun ad => rfl) (fun X G K C => ?_)
  refine V_blk C (pc' := 12) (σ' := σ) (L' := [some (.ref 19), some (.int 56), some (.int 59), none]) (st' := [.int ((σ 19 4) - (σ 19 6)), .int 3]) (g_c dX2_isWord_0 (g_c dX2_isWord_1 (g_c dX2_isWord_2 (g_c dX2_isWord_3 (g_c dX2_isWord_4 (g_c dX2_isWord_7 (g_c dX2_isWord_8 (g_c dX2_isWord_11 g_n)))))))) rfl rfl ?_
  refine V_icmp_ne C (tgt := 28) dX2_isWord_12 (by decide) (fun h12 => ?_) (fun h12 => ?_)
  · skip
    refine V_blk C (pc' := 29) (σ' := σ) (L' := [some (.ref 19), some (.int 56), some (.int 59), none]) (st' := [.int 0]) (g_c dX2_isWord_28 g_n) rfl rfl ?_
    refine V_zret C (by decide) dX2_isWord_29 ?_
    have hlen : ¬ e - i = 3 := fun z => h12 (hsub.mpr z).symm
    exact ⟨by rw [if_neg (by simp [q_is, hlen])], rfl⟩
  · skip
    refine V_blk C (pc' := 16) (σ' := σ) (L' := [some (.ref 19), some (.int 56), some (.int 59), none]) (st' := [.int 56]) (g_c dX2_isWord_15 g_n) rfl rfl ?_
    refine V_if_lt C (tgt := 28) dX2_isWord_16 (by decide) (fun z => absurd z (by decide)) (fun _ => ?_)
    refine V_blk C (pc' := 20) (σ' := σ) (L' := [some (.ref 19), some (.int 56), some (.int 59), none]) (st' := [.int 59]) (g_c dX2_isWord_19 g_n) rfl rfl ?_
    refine V_ldcS1 C dX2_isWord_20 ?_
    refine V_eq rfl rfl (st' := [.ref (100 + 1), .int 59]) rfl ?_
    refine V_callVs C (i := 1) cv_X2_110 (c_lenW σ) (by decide) rfl (by decide) (by decide) (fun _ h => h) (As := []) (rest := [.int 59]) rfl rfl (Nat.le_of_ble_eq_true rfl) dX2_isWord_22 ?_
    refine V_icmp_le2 C (tgt := 30) dX2_isWord_25 (by decide) (fun _ => ?_) (fun z => absurd z (by decide))
    refine V_blk C (pc' := 34) (σ' := σ) (L' := [some (.ref 19), some (.int 56), some (.int 59), some (.int 56)]) (st' := [.int 59, .int 56]) (g_c dX2_isWord_30 (g_c dX2_isWord_31 (g_c dX2_isWord_32 (g_c dX2_isWord_33 g_n)))) rfl rfl ?_
    refine V_icmp_ge2 C (tgt := 66) dX2_isWord_34 (by decide) (fun z => absurd z (by decide)) (fun _ => ?_)
    refine V_ldcS1 C dX2_isWord_37 ?_
    refine V_eq rfl rfl (st' := [.ref (100 + 1)]) rfl ?_
    refine V_blk C (pc' := 40) (σ' := σ) (L' := [some (.ref 19), some (.int 56), some (.int 59), some (.int 56)]) (st' := [.int 56, .ref (100 + 1)]) (g_c dX2_isWord_39 g_n) rfl rfl ?_
    refine V_callVs C (i := 1) cv_X2_113 (c_chW σ (k := 56) (c := 110) (by decide) (by decide)) (by decide) rfl (by decide) (by decide) (fun _ h => h) (As := [.int 56]) (rest := []) rfl rfl (Nat.le_of_ble_eq_true rfl) dX2_isWord_40 ?_
    refine V_blk C (pc' := 52) (σ' := σ) (L' := [some (.ref 19), some (.int 56), some (.int 59), some (.int 56)]) (st' := [.int (((σ 19 6) + 56) - 56), .ref 19, .int 110]) (g_c dX2_isWord_43 (g_c dX2_isWord_44 (g_c dX2_isWord_45 (g_c dX2_isWord_48 (g_c dX2_isWord_49 (g_c dX2_isWord_50 (g_c dX2_isWord_51 g_n))))))) rfl rfl ?_
    refine V_eq (st' := [.int (nI i), .ref 19, .int 110]) rfl rfl (by rw [show (((σ 19 6) + 56) - 56) = nI i from g_wpos (a := 56) (f := 56) (k := 0) h6 (by decide)]) ?_
    refine V_callVI C cv_X2_91 (c_X2_letterAt σ (i := i) (by omega) hn hn160) ⟨_, _, _, _, rfl, rfl⟩ (by rfl) (by decide) (by decide) (fun _ h => h) (As := [.int (nI i)]) (rest := [.int 110]) rfl rfl (Nat.le_of_ble_eq_true rfl) dX2_isWord_52 ?_
    refine V_icmp_eq C (tgt := 60) dX2_isWord_55 (by decide) (fun h55 => ?_) (fun h55 => ?_)
    · skip
      refine V_blk C (pc' := 63) (σ' := σ) (L' := [some (.ref 19), some (.int 56), some (.int 59), some (.int 57)]) (st' := []) (g_c dX2_isWord_60 g_n) rfl rfl ?_
      refine V_goto C (tgt := 32) dX2_isWord_63 (by decide) ?_
      refine V_blk C (pc' := 34) (σ' := σ) (L' := [some (.ref 19), some (.int 56), some (.int 59), some (.int 57)]) (st' := [.int 59, .int 57]) (g_c dX2_isWord_32 (g_c dX2_isWord_33 g_n)) rfl rfl ?_
      refine V_icmp_ge2 C (tgt := 66) dX2_isWord_34 (by decide) (fun z => absurd z (by decide)) (fun _ => ?_)
      refine V_ldcS1 C dX2_isWord_37 ?_
      refine V_eq rfl rfl (st' := [.ref (100 + 1)]) rfl ?_
      refine V_blk C (pc' := 40) (σ' := σ) (L' := [some (.ref 19), some (.int 56), some (.int 59), some (.int 57)]) (st' := [.int 57, .ref (100 + 1)]) (g_c dX2_isWord_39 g_n) rfl rfl ?_
      refine V_callVs C (i := 1) cv_X2_113 (c_chW σ (k := 57) (c := 111) (by decide) (by decide)) (by decide) rfl (by decide) (by decide) (fun _ h => h) (As := [.int 57]) (rest := []) rfl rfl (Nat.le_of_ble_eq_true rfl) dX2_isWord_40 ?_
      refine V_blk C (pc' := 52) (σ' := σ) (L' := [some (.ref 19), some (.int 56), some (.int 59), some (.int 57)]) (st' := [.int (((σ 19 6) + 57) - 56), .ref 19, .int 111]) (g_c dX2_isWord_43 (g_c dX2_isWord_44 (g_c dX2_isWord_45 (g_c dX2_isWord_48 (g_c dX2_isWord_49 (g_c dX2_isWord_50 (g_c dX2_isWord_51 g_n))))))) rfl rfl ?_
      refine V_eq (st' := [.int (nI (i + 1)), .ref 19, .int 111]) rfl rfl (by rw [show (((σ 19 6) + 57) - 56) = nI (i + 1) from g_wpos (a := 57) (f := 56) (k := 1) h6 (by decide)]) ?_
      refine V_callVI C cv_X2_91 (c_X2_letterAt σ (i := (i + 1)) (by omega) hn hn160) ⟨_, _, _, _, rfl, rfl⟩ (by rfl) (by decide) (by decide) (fun _ h => h) (As := [.int (nI (i + 1))]) (rest := [.int 111]) rfl rfl (Nat.le_of_ble_eq_true rfl) dX2_isWord_52 ?_
      refine V_icmp_eq C (tgt := 60) dX2_isWord_55 (by decide) (fun h55_1 => ?_) (fun h55_1 => ?_)
      · skip
        refine V_blk C (pc' := 63) (σ' := σ) (L' := [some (.ref 19), some (.int 56), some (.int 59), some (.int 58)]) (st' := []) (g_c dX2_isWord_60 g_n) rfl rfl ?_
        refine V_goto C (tgt := 32) dX2_isWord_63 (by decide) ?_
        refine V_blk C (pc' := 34) (σ' := σ) (L' := [some (.ref 19), some (.int 56), some (.int 59), some (.int 58)]) (st' := [.int 59, .int 58]) (g_c dX2_isWord_32 (g_c dX2_isWord_33 g_n)) rfl rfl ?_
        refine V_icmp_ge2 C (tgt := 66) dX2_isWord_34 (by decide) (fun z => absurd z (by decide)) (fun _ => ?_)
        refine V_ldcS1 C dX2_isWord_37 ?_
        refine V_eq rfl rfl (st' := [.ref (100 + 1)]) rfl ?_
        refine V_blk C (pc' := 40) (σ' := σ) (L' := [some (.ref 19), some (.int 56), some (.int 59), some (.int 58)]) (st' := [.int 58, .ref (100 + 1)]) (g_c dX2_isWord_39 g_n) rfl rfl ?_
        refine V_callVs C (i := 1) cv_X2_113 (c_chW σ (k := 58) (c := 116) (by decide) (by decide)) (by decide) rfl (by decide) (by decide) (fun _ h => h) (As := [.int 58]) (rest := []) rfl rfl (Nat.le_of_ble_eq_true rfl) dX2_isWord_40 ?_
        refine V_blk C (pc' := 52) (σ' := σ) (L' := [some (.ref 19), some (.int 56), some (.int 59), some (.int 58)]) (st' := [.int (((σ 19 6) + 58) - 56), .ref 19, .int 116]) (g_c dX2_isWord_43 (g_c dX2_isWord_44 (g_c dX2_isWord_45 (g_c dX2_isWord_48 (g_c dX2_isWord_49 (g_c dX2_isWord_50 (g_c dX2_isWord_51 g_n))))))) rfl rfl ?_
        refine V_eq (st' := [.int (nI ((i + 1) + 1)), .ref 19, .int 116]) rfl rfl (by rw [show (((σ 19 6) + 58) - 56) = nI ((i + 1) + 1) from g_wpos (a := 58) (f := 56) (k := 2) h6 (by decide)]) ?_
        refine V_callVI C cv_X2_91 (c_X2_letterAt σ (i := ((i + 1) + 1)) (by omega) hn hn160) ⟨_, _, _, _, rfl, rfl⟩ (by rfl) (by decide) (by decide) (fun _ h => h) (As := [.int (nI ((i + 1) + 1))]) (rest := [.int 116]) rfl rfl (Nat.le_of_ble_eq_true rfl) dX2_isWord_52 ?_
        refine V_icmp_eq C (tgt := 60) dX2_isWord_55 (by decide) (fun h55_2 => ?_) (fun h55_2 => ?_)
        · skip
          refine V_blk C (pc' := 63) (σ' := σ) (L' := [some (.ref 19), some (.int 56), some (.int 59), some (.int 59)]) (st' := []) (g_c dX2_isWord_60 g_n) rfl rfl ?_
          refine V_goto C (tgt := 32) dX2_isWord_63 (by decide) ?_
          refine V_blk C (pc' := 34) (σ' := σ) (L' := [some (.ref 19), some (.int 56), some (.int 59), some (.int 59)]) (st' := [.int 59, .int 59]) (g_c dX2_isWord_32 (g_c dX2_isWord_33 g_n)) rfl rfl ?_
          refine V_icmp_ge2 C (tgt := 66) dX2_isWord_34 (by decide) (fun _ => ?_) (fun z => absurd z (by decide))
          refine V_blk C (pc' := 67) (σ' := σ) (L' := [some (.ref 19), some (.int 56), some (.int 59), some (.int 59)]) (st' := [.int 1]) (g_c dX2_isWord_66 g_n) rfl rfl ?_
          refine V_zret C (by decide) dX2_isWord_67 ?_
          have hlen : e - i = 3 := hsub.mp h12.symm
          exact ⟨by rw [if_pos (by simp [q_is, q_at, hlen, ← h55, ← h55_1, ← h55_2])], rfl⟩
        · skip
          refine V_blk C (pc' := 59) (σ' := σ) (L' := [some (.ref 19), some (.int 56), some (.int 59), some (.int 58)]) (st' := [.int 0]) (g_c dX2_isWord_58 g_n) rfl rfl ?_
          refine V_zret C (by decide) dX2_isWord_59 ?_
          exact ⟨by rw [if_neg (by simp [q_is, q_at, ← h55, ← h55_1]; exact fun _ z => absurd z.symm h55_2)], rfl⟩
      · skip
        refine V_blk C (pc' := 59) (σ' := σ) (L' := [some (.ref 19), some (.int 56), some (.int 59), some (.int 57)]) (st' := [.int 0]) (g_c dX2_isWord_58 g_n) rfl rfl ?_
        refine V_zret C (by decide) dX2_isWord_59 ?_
        exact ⟨by rw [if_neg (by simp [q_is, q_at, ← h55]; exact fun _ z => absurd z.symm h55_1)], rfl⟩
    · skip
      refine V_blk C (pc' := 59) (σ' := σ) (L' := [some (.ref 19), some (.int 56), some (.int 59), some (.int 56)]) (st' := [.int 0]) (g_c dX2_isWord_58 g_n) rfl rfl ?_
      refine V_zret C (by decide) dX2_isWord_59 ?_
      exact ⟨by rw [if_neg (by simp [q_is, q_at]; exact fun _ z => absurd z.symm h55)], rfl⟩
theorem V_join {X : gX} {G : gG} {K : List Nat} {nL : Nat} {Qp : Option Value → gS → Prop} {σ : gS} {L : gL} {st rest : List Value} {pc pcJ : Nat} {P : Prop} [Decidable P] {a b : Int32} (J : ∀ x : Int32, x = (if P then a else b) → gV X G K nL Qp σ L (.int x :: rest) pcJ) (kk : (P → gV X G K nL Qp σ L (.int a :: rest) pcJ) → (¬ P → gV X G K nL Qp σ L (.int b :: rest) pcJ) → gV X G K nL Qp σ L st pc) : gV X G K nL Qp σ L st pc := kk (fun h => J a (by rw [if_pos h])) (fun h => J b (by rw [if_neg h]))
set_option maxHeartbeats 4000000 in
set_option maxRecDepth 100000 in
theorem lp_nextWord {X : gX} {G : gG} {K : List Nat} {Qp : Option Value → gS → Prop} {σ : gS} {n : Nat} (hn : σ 19 1 = nI n) (hn160 : n ≤ 160) {E : Nat} (hx : gV X G K 4 Qp (g_up σ 19 4 (nI E)) [some (.ref 19), none, none, none] [] 43) (C : gC X G K kR 4 cX2_nextWord (g_RX 2) none 6) : ∀ (k : Nat) (v : Nat) (a : Nat), (v + k = 160) → (a ≤ n) → (q_run (q_let (q_l (σ 20) n)) k a = E) → gV X G K 4 (Qp) (g_up σ 19 4 (nI a)) [some (.ref 19), some (.int (nI v)), none, none] [] 2 := by
  intro k
  induction k with
  | zero =>
    intro v a hk ha hE
    have hvn : v = 160 := by omega
    have hlt : ¬ nI v < 160 := by rw [hvn]; decide
    have hEa : a = E := hE
    subst hEa
    refine V_blk C (pc' := 6) (σ' := (g_up σ 19 4 (nI a))) (L' := [some (.ref 19), some (.int (nI v)), none, none]) (st' := [.int 160, .int (nI v)]) (g_c dX2_nextWord_2 (g_c dX2_nextWord_3 g_n)) rfl rfl ?_
    refine V_icmp_ge2 C (tgt := 43) dX2_nextWord_6 (by decide) (fun h6 => ?_) (fun h6 => absurd h6 hlt)
    exact V_less (L' := [some (.ref 19), none, none, none]) (by simp [g_subL]) hx
  | succ k ih =>
    intro v a hk ha hE
    have hlt : nI v < 160 := nI_ltL (b := 160) (by omega) (by omega)
    refine V_blk C (pc' := 6) (σ' := (g_up σ 19 4 (nI a))) (L' := [some (.ref 19), some (.int (nI v)), none, none]) (st' := [.int 160, .int (nI v)]) (g_c dX2_nextWord_2 (g_c dX2_nextWord_3 g_n)) rfl rfl ?_
    refine V_icmp_ge2 C (tgt := 43) dX2_nextWord_6 (by decide) (fun h6 => absurd hlt h6) (fun h6 => ?_)
    refine V_blk C (pc' := 14) (σ' := (g_up σ 19 4 (nI a))) (L' := [some (.ref 19), some (.int (nI v)), none, none]) (st' := [.int (nI a), .ref 19]) (g_c dX2_nextWord_9 (g_c dX2_nextWord_10 (g_c dX2_nextWord_11 g_n))) rfl rfl ?_
    refine V_callVI C cv_X2_91 (c_X2_letterAt (g_up σ 19 4 (nI a)) (i := a) (by omega) hn hn160) ⟨_, _, _, _, rfl, rfl⟩ (by rfl) (by decide) (by decide) (fun _ h => h) (As := [.int (nI a)]) (rest := []) rfl rfl (Nat.le_of_ble_eq_true rfl) dX2_nextWord_14 ?_
    refine V_blk C (pc' := 21) (σ' := (g_up σ 19 4 (nI a))) (L' := [some (.ref 19), some (.int (nI v)), none, none]) (st' := [.int 122, .int 97, .int (q_l (σ 20) n a)]) (g_c dX2_nextWord_17 (g_c dX2_nextWord_19 g_n)) rfl rfl ?_
    refine V_callNI C cn_X2_21 (c_X7_isIn (g_up σ 19 4 (nI a)) (q_l (σ 20) n a) 97 122) (by decide) (by decide) (fun _ h => h) (As := [.int (q_l (σ 20) n a), .int 97, .int 122]) (rest := []) rfl rfl (Nat.le_of_ble_eq_true rfl) dX2_nextWord_21 ?_
    refine V_if_eq_b C (tgt := 43) dX2_nextWord_24 (by decide) (fun h24 => ?_) (fun h24 => ?_)
    · skip
      have hd : q_let (q_l (σ 20) n) a = false := decide_eq_false h24
      rw [q_run, if_neg (by rw [hd]; decide)] at hE
      subst hE
      exact V_less (L' := [some (.ref 19), none, none, none]) (by simp [g_subL]) hx
    · skip
      refine V_blk C (pc' := 40) (σ' := (g_up (g_up σ 19 4 (nI a)) 19 4 ((nI a) + 1))) (L' := [some (.ref 19), some (.int ((nI v) + 1)), none, none]) (st' := []) (g_c dX2_nextWord_27 (g_c dX2_nextWord_28 (g_c dX2_nextWord_29 (g_c dX2_nextWord_32 (g_c dX2_nextWord_33 (g_c dX2_nextWord_34 (g_c dX2_nextWord_37 g_n))))))) rfl rfl ?_
      refine V_goto C (tgt := 2) dX2_nextWord_40 (by decide) ?_
      have hd : q_let (q_l (σ 20) n) a = true := decide_eq_true h24
      have han : a < n := by
        rcases Nat.lt_or_ge a n with q | q
        · exact q
        · rw [q_let_out q] at hd; cases hd
      rw [q_run, if_pos hd] at hE
      refine V_eq ((g_up_tw σ 19 4 _ _).trans (by rw [nI_1])) (by rw [nI_1]) rfl (ih (v + 1) (a + 1) (by omega) (by omega) hE)
set_option maxHeartbeats 4000000 in
set_option maxRecDepth 100000 in
theorem c_X2_nextWord (σ : gS) {n : Nat} (hn : σ 19 1 = nI n) (hn160 : n ≤ 160) {i : Nat} (hi : i ≤ n) (h4 : σ 19 4 = nI i) (h6 : σ 19 6 = nI i) : g_Met yX2_nextWord cX2_nextWord 4 none 6 kR [.ref 19] σ (fun rv s => rv = none ∧ s = g_up (g_up σ 19 4 (nI (q_run (q_let (q_l (σ 20) n)) 160 i))) 19 5 (q_wc (q_l (σ 20) n) i (q_run (q_let (q_l (σ 20) n)) 160 i) q_words 0 2)) := by
  refine g_Met.of (own := 2) (L := [some (.ref 19), none, none, none]) (by decide) rfl rfl (fun ad => Nat.le_of_ble_eq_true rfl) (fun ad => rfl) (fun X G K C => ?_)
  refine V_blk C (pc' := 2) (σ' := σ) (L' := [some (.ref 19), some (.int 0), none, none]) (st' := []) (g_c dX2_nextWord_0 (g_c dX2_nextWord_1 g_n)) rfl rfl ?_
  have hle : (q_run (q_let (q_l (σ 20) n)) 160 i) ≤ n := q_run_le (fun j => q_let_out) 160 i hi
  have hge := q_run_ge (q_let (q_l (σ 20) n)) 160 i
  refine V_eq (σ' := g_up σ 19 4 (nI i)) (g_up_id h4).symm rfl rfl (lp_nextWord hn hn160 ?_ C 160 0 i (by omega) hi rfl)
  refine V_blk C (pc' := 55) (σ' := (g_up (g_up σ 19 4 (nI (q_run (q_let (q_l (σ 20) n)) 160 i))) 19 5 2)) (L' := [some (.ref 19), some (.int 0), some (.int 0), some (.int 0)]) (st' := [.int 0]) (g_c dX2_nextWord_43 (g_c dX2_nextWord_44 (g_c dX2_nextWord_45 (g_c dX2_nextWord_48 (g_c dX2_nextWord_49 (g_c dX2_nextWord_50 (g_c dX2_nextWord_51 (g_c dX2_nextWord_52 (g_c dX2_nextWord_53 (g_c dX2_nextWord_54 g_n)))))))))) rfl rfl ?_
  refine V_ldcS1 C dX2_nextWord_55 ?_
  refine V_eq rfl rfl (st' := [.ref (100 + 1), .int 0]) rfl ?_
  refine V_callVs C (i := 1) cv_X2_110 (c_lenW (g_up (g_up σ 19 4 (nI (q_run (q_let (q_l (σ 20) n)) 160 i))) 19 5 2)) (by decide) rfl (by decide) (by decide) (fun _ h => h) (As := []) (rest := [.int 0]) rfl rfl (Nat.le_of_ble_eq_true rfl) dX2_nextWord_57 ?_
  refine V_icmp_ge2 C (tgt := 111) dX2_nextWord_60 (by decide) (fun z => absurd z (by decide)) (fun _ => ?_)
  refine V_ldcS1 C dX2_nextWord_63 ?_
  refine V_eq rfl rfl (st' := [.ref (100 + 1)]) rfl ?_
  refine V_blk C (pc' := 66) (σ' := (g_up (g_up σ 19 4 (nI (q_run (q_let (q_l (σ 20) n)) 160 i))) 19 5 2)) (L' := [some (.ref 19), some (.int 0), some (.int 0), some (.int 0)]) (st' := [.int 0, .ref (100 + 1)]) (g_c dX2_nextWord_65 g_n) rfl rfl ?_
  refine V_callVs C (i := 1) cv_X2_113 (c_chW (g_up (g_up σ 19 4 (nI (q_run (q_let (q_l (σ 20) n)) 160 i))) 19 5 2) (k := 0) (c := 114) (by decide) (by decide)) (by decide) rfl (by decide) (by decide) (fun _ h => h) (As := [.int 0]) (rest := []) rfl rfl (Nat.le_of_ble_eq_true rfl) dX2_nextWord_66 ?_
  refine V_blk C (pc' := 71) (σ' := (g_up (g_up σ 19 4 (nI (q_run (q_let (q_l (σ 20) n)) 160 i))) 19 5 2)) (L' := [some (.ref 19), some (.int 0), some (.int 0), some (.int 0)]) (st' := [.int 32, .int 114]) (g_c dX2_nextWord_69 g_n) rfl rfl ?_
  refine V_icmp_ne C (tgt := 105) dX2_nextWord_71 (by decide) (fun _ => ?_) (fun z => absurd z (by decide))
  refine V_blk C (pc' := 108) (σ' := (g_up (g_up σ 19 4 (nI (q_run (q_let (q_l (σ 20) n)) 160 i))) 19 5 2)) (L' := [some (.ref 19), some (.int 0), some (.int 0), some (.int 1)]) (st' := []) (g_c dX2_nextWord_105 g_n) rfl rfl ?_
  refine V_goto C (tgt := 54) dX2_nextWord_108 (by decide) ?_
  refine V_blk C (pc' := 55) (σ' := (g_up (g_up σ 19 4 (nI (q_run (q_let (q_l (σ 20) n)) 160 i))) 19 5 2)) (L' := [some (.ref 19), some (.int 0), some (.int 0), some (.int 1)]) (st' := [.int 1]) (g_c dX2_nextWord_54 g_n) rfl rfl ?_
  refine V_ldcS1 C dX2_nextWord_55 ?_
  refine V_eq rfl rfl (st' := [.ref (100 + 1), .int 1]) rfl ?_
  refine V_callVs C (i := 1) cv_X2_110 (c_lenW (g_up (g_up σ 19 4 (nI (q_run (q_let (q_l (σ 20) n)) 160 i))) 19 5 2)) (by decide) rfl (by decide) (by decide) (fun _ h => h) (As := []) (rest := [.int 1]) rfl rfl (Nat.le_of_ble_eq_true rfl) dX2_nextWord_57 ?_
  refine V_icmp_ge2 C (tgt := 111) dX2_nextWord_60 (by decide) (fun z => absurd z (by decide)) (fun _ => ?_)
  refine V_ldcS1 C dX2_nextWord_63 ?_
  refine V_eq rfl rfl (st' := [.ref (100 + 1)]) rfl ?_
  refine V_blk C (pc' := 66) (σ' := (g_up (g_up σ 19 4 (nI (q_run (q_let (q_l (σ 20) n)) 160 i))) 19 5 2)) (L' := [some (.ref 19), some (.int 0), some (.int 0), some (.int 1)]) (st' := [.int 1, .ref (100 + 1)]) (g_c dX2_nextWord_65 g_n) rfl rfl ?_
  refine V_callVs C (i := 1) cv_X2_113 (c_chW (g_up (g_up σ 19 4 (nI (q_run (q_let (q_l (σ 20) n)) 160 i))) 19 5 2) (k := 1) (c := 97) (by decide) (by decide)) (by decide) rfl (by decide) (by decide) (fun _ h => h) (As := [.int 1]) (rest := []) rfl rfl (Nat.le_of_ble_eq_true rfl) dX2_nextWord_66 ?_
  refine V_blk C (pc' := 71) (σ' := (g_up (g_up σ 19 4 (nI (q_run (q_let (q_l (σ 20) n)) 160 i))) 19 5 2)) (L' := [some (.ref 19), some (.int 0), some (.int 0), some (.int 1)]) (st' := [.int 32, .int 97]) (g_c dX2_nextWord_69 g_n) rfl rfl ?_
  refine V_icmp_ne C (tgt := 105) dX2_nextWord_71 (by decide) (fun _ => ?_) (fun z => absurd z (by decide))
  refine V_blk C (pc' := 108) (σ' := (g_up (g_up σ 19 4 (nI (q_run (q_let (q_l (σ 20) n)) 160 i))) 19 5 2)) (L' := [some (.ref 19), some (.int 0), some (.int 0), some (.int 2)]) (st' := []) (g_c dX2_nextWord_105 g_n) rfl rfl ?_
  refine V_goto C (tgt := 54) dX2_nextWord_108 (by decide) ?_
  refine V_blk C (pc' := 55) (σ' := (g_up (g_up σ 19 4 (nI (q_run (q_let (q_l (σ 20) n)) 160 i))) 19 5 2)) (L' := [some (.ref 19), some (.int 0), some (.int 0), some (.int 2)]) (st' := [.int 2]) (g_c dX2_nextWord_54 g_n) rfl rfl ?_
  refine V_ldcS1 C dX2_nextWord_55 ?_
  refine V_eq rfl rfl (st' := [.ref (100 + 1), .int 2]) rfl ?_
  refine V_callVs C (i := 1) cv_X2_110 (c_lenW (g_up (g_up σ 19 4 (nI (q_run (q_let (q_l (σ 20) n)) 160 i))) 19 5 2)) (by decide) rfl (by decide) (by decide) (fun _ h => h) (As := []) (rest := [.int 2]) rfl rfl (Nat.le_of_ble_eq_true rfl) dX2_nextWord_57 ?_
  refine V_icmp_ge2 C (tgt := 111) dX2_nextWord_60 (by decide) (fun z => absurd z (by decide)) (fun _ => ?_)
  refine V_ldcS1 C dX2_nextWord_63 ?_
  refine V_eq rfl rfl (st' := [.ref (100 + 1)]) rfl ?_
  refine V_blk C (pc' := 66) (σ' := (g_up (g_up σ 19 4 (nI (q_run (q_let (q_l (σ 20) n)) 160 i))) 19 5 2)) (L' := [some (.ref 19), some (.int 0), some (.int 0), some (.int 2)]) (st' := [.int 2, .ref (100 + 1)]) (g_c dX2_nextWord_65 g_n) rfl rfl ?_
  refine V_callVs C (i := 1) cv_X2_113 (c_chW (g_up (g_up σ 19 4 (nI (q_run (q_let (q_l (σ 20) n)) 160 i))) 19 5 2) (k := 2) (c := 105) (by decide) (by decide)) (by decide) rfl (by decide) (by decide) (fun _ h => h) (As := [.int 2]) (rest := []) rfl rfl (Nat.le_of_ble_eq_true rfl) dX2_nextWord_66 ?_
  refine V_blk C (pc' := 71) (σ' := (g_up (g_up σ 19 4 (nI (q_run (q_let (q_l (σ 20) n)) 160 i))) 19 5 2)) (L' := [some (.ref 19), some (.int 0), some (.int 0), some (.int 2)]) (st' := [.int 32, .int 105]) (g_c dX2_nextWord_69 g_n) rfl rfl ?_
  refine V_icmp_ne C (tgt := 105) dX2_nextWord_71 (by decide) (fun _ => ?_) (fun z => absurd z (by decide))
  refine V_blk C (pc' := 108) (σ' := (g_up (g_up σ 19 4 (nI (q_run (q_let (q_l (σ 20) n)) 160 i))) 19 5 2)) (L' := [some (.ref 19), some (.int 0), some (.int 0), some (.int 3)]) (st' := []) (g_c dX2_nextWord_105 g_n) rfl rfl ?_
  refine V_goto C (tgt := 54) dX2_nextWord_108 (by decide) ?_
  refine V_blk C (pc' := 55) (σ' := (g_up (g_up σ 19 4 (nI (q_run (q_let (q_l (σ 20) n)) 160 i))) 19 5 2)) (L' := [some (.ref 19), some (.int 0), some (.int 0), some (.int 3)]) (st' := [.int 3]) (g_c dX2_nextWord_54 g_n) rfl rfl ?_
  refine V_ldcS1 C dX2_nextWord_55 ?_
  refine V_eq rfl rfl (st' := [.ref (100 + 1), .int 3]) rfl ?_
  refine V_callVs C (i := 1) cv_X2_110 (c_lenW (g_up (g_up σ 19 4 (nI (q_run (q_let (q_l (σ 20) n)) 160 i))) 19 5 2)) (by decide) rfl (by decide) (by decide) (fun _ h => h) (As := []) (rest := [.int 3]) rfl rfl (Nat.le_of_ble_eq_true rfl) dX2_nextWord_57 ?_
  refine V_icmp_ge2 C (tgt := 111) dX2_nextWord_60 (by decide) (fun z => absurd z (by decide)) (fun _ => ?_)
  refine V_ldcS1 C dX2_nextWord_63 ?_
  refine V_eq rfl rfl (st' := [.ref (100 + 1)]) rfl ?_
  refine V_blk C (pc' := 66) (σ' := (g_up (g_up σ 19 4 (nI (q_run (q_let (q_l (σ 20) n)) 160 i))) 19 5 2)) (L' := [some (.ref 19), some (.int 0), some (.int 0), some (.int 3)]) (st' := [.int 3, .ref (100 + 1)]) (g_c dX2_nextWord_65 g_n) rfl rfl ?_
  refine V_callVs C (i := 1) cv_X2_113 (c_chW (g_up (g_up σ 19 4 (nI (q_run (q_let (q_l (σ 20) n)) 160 i))) 19 5 2) (k := 3) (c := 110) (by decide) (by decide)) (by decide) rfl (by decide) (by decide) (fun _ h => h) (As := [.int 3]) (rest := []) rfl rfl (Nat.le_of_ble_eq_true rfl) dX2_nextWord_66 ?_
  refine V_blk C (pc' := 71) (σ' := (g_up (g_up σ 19 4 (nI (q_run (q_let (q_l (σ 20) n)) 160 i))) 19 5 2)) (L' := [some (.ref 19), some (.int 0), some (.int 0), some (.int 3)]) (st' := [.int 32, .int 110]) (g_c dX2_nextWord_69 g_n) rfl rfl ?_
  refine V_icmp_ne C (tgt := 105) dX2_nextWord_71 (by decide) (fun _ => ?_) (fun z => absurd z (by decide))
  refine V_blk C (pc' := 108) (σ' := (g_up (g_up σ 19 4 (nI (q_run (q_let (q_l (σ 20) n)) 160 i))) 19 5 2)) (L' := [some (.ref 19), some (.int 0), some (.int 0), some (.int 4)]) (st' := []) (g_c dX2_nextWord_105 g_n) rfl rfl ?_
  refine V_goto C (tgt := 54) dX2_nextWord_108 (by decide) ?_
  refine V_blk C (pc' := 55) (σ' := (g_up (g_up σ 19 4 (nI (q_run (q_let (q_l (σ 20) n)) 160 i))) 19 5 2)) (L' := [some (.ref 19), some (.int 0), some (.int 0), some (.int 4)]) (st' := [.int 4]) (g_c dX2_nextWord_54 g_n) rfl rfl ?_
  refine V_ldcS1 C dX2_nextWord_55 ?_
  refine V_eq rfl rfl (st' := [.ref (100 + 1), .int 4]) rfl ?_
  refine V_callVs C (i := 1) cv_X2_110 (c_lenW (g_up (g_up σ 19 4 (nI (q_run (q_let (q_l (σ 20) n)) 160 i))) 19 5 2)) (by decide) rfl (by decide) (by decide) (fun _ h => h) (As := []) (rest := [.int 4]) rfl rfl (Nat.le_of_ble_eq_true rfl) dX2_nextWord_57 ?_
  refine V_icmp_ge2 C (tgt := 111) dX2_nextWord_60 (by decide) (fun z => absurd z (by decide)) (fun _ => ?_)
  refine V_ldcS1 C dX2_nextWord_63 ?_
  refine V_eq rfl rfl (st' := [.ref (100 + 1)]) rfl ?_
  refine V_blk C (pc' := 66) (σ' := (g_up (g_up σ 19 4 (nI (q_run (q_let (q_l (σ 20) n)) 160 i))) 19 5 2)) (L' := [some (.ref 19), some (.int 0), some (.int 0), some (.int 4)]) (st' := [.int 4, .ref (100 + 1)]) (g_c dX2_nextWord_65 g_n) rfl rfl ?_
  refine V_callVs C (i := 1) cv_X2_113 (c_chW (g_up (g_up σ 19 4 (nI (q_run (q_let (q_l (σ 20) n)) 160 i))) 19 5 2) (k := 4) (c := 32) (by decide) (by decide)) (by decide) rfl (by decide) (by decide) (fun _ h => h) (As := [.int 4]) (rest := []) rfl rfl (Nat.le_of_ble_eq_true rfl) dX2_nextWord_66 ?_
  refine V_blk C (pc' := 71) (σ' := (g_up (g_up σ 19 4 (nI (q_run (q_let (q_l (σ 20) n)) 160 i))) 19 5 2)) (L' := [some (.ref 19), some (.int 0), some (.int 0), some (.int 4)]) (st' := [.int 32, .int 32]) (g_c dX2_nextWord_69 g_n) rfl rfl ?_
  refine V_icmp_ne C (tgt := 105) dX2_nextWord_71 (by decide) (fun z => absurd z (by decide)) (fun _ => ?_)
  refine V_blk C (pc' := 78) (σ' := (g_up (g_up σ 19 4 (nI (q_run (q_let (q_l (σ 20) n)) 160 i))) 19 5 2)) (L' := [some (.ref 19), some (.int 0), some (.int 0), some (.int 4)]) (st' := [.int 4, .int 0, .ref 19, .ref 19]) (g_c dX2_nextWord_74 (g_c dX2_nextWord_75 (g_c dX2_nextWord_76 (g_c dX2_nextWord_77 g_n)))) rfl rfl ?_
  refine V_callVI C cv_X2_117 (c_X2_isWord0 (g_up (g_up σ 19 4 (nI (q_run (q_let (q_l (σ 20) n)) 160 i))) 19 5 2) hn hn160 hge hle rfl h6) ⟨_, _, _, _, rfl, rfl⟩ (by rfl) (by decide) (by decide) (fun _ h => h) (As := [.int 0, .int 4]) (rest := [.ref 19]) rfl rfl (Nat.le_of_ble_eq_true rfl) dX2_nextWord_78 ?_
  refine V_join (P := q_is (q_l (σ 20) n) i (q_run (q_let (q_l (σ 20) n)) 160 i) [114, 97, 105, 110] = true) (a := 97) (b := 2) (pcJ := 95) (rest := [.ref 19]) (fun tk0 htk0 => ?_) (fun kT kF => ?_)
  · skip
    refine V_blk C (pc' := 108) (σ' := (g_up (g_up (g_up σ 19 4 (nI (q_run (q_let (q_l (σ 20) n)) 160 i))) 19 5 2) 19 5 tk0)) (L' := [some (.ref 19), some (.int 1), some (.int 5), some (.int 5)]) (st' := []) (g_c dX2_nextWord_95 (g_c dX2_nextWord_98 (g_c dX2_nextWord_101 (g_c dX2_nextWord_102 (g_c dX2_nextWord_103 (g_c dX2_nextWord_104 (g_c dX2_nextWord_105 g_n))))))) rfl rfl ?_
    refine V_goto C (tgt := 54) dX2_nextWord_108 (by decide) ?_
    refine V_blk C (pc' := 55) (σ' := (g_up (g_up (g_up σ 19 4 (nI (q_run (q_let (q_l (σ 20) n)) 160 i))) 19 5 2) 19 5 tk0)) (L' := [some (.ref 19), some (.int 1), some (.int 5), some (.int 5)]) (st' := [.int 5]) (g_c dX2_nextWord_54 g_n) rfl rfl ?_
    refine V_ldcS1 C dX2_nextWord_55 ?_
    refine V_eq rfl rfl (st' := [.ref (100 + 1), .int 5]) rfl ?_
    refine V_callVs C (i := 1) cv_X2_110 (c_lenW (g_up (g_up (g_up σ 19 4 (nI (q_run (q_let (q_l (σ 20) n)) 160 i))) 19 5 2) 19 5 tk0)) (by decide) rfl (by decide) (by decide) (fun _ h => h) (As := []) (rest := [.int 5]) rfl rfl (Nat.le_of_ble_eq_true rfl) dX2_nextWord_57 ?_
    refine V_icmp_ge2 C (tgt := 111) dX2_nextWord_60 (by decide) (fun z => absurd z (by decide)) (fun _ => ?_)
    refine V_ldcS1 C dX2_nextWord_63 ?_
    refine V_eq rfl rfl (st' := [.ref (100 + 1)]) rfl ?_
    refine V_blk C (pc' := 66) (σ' := (g_up (g_up (g_up σ 19 4 (nI (q_run (q_let (q_l (σ 20) n)) 160 i))) 19 5 2) 19 5 tk0)) (L' := [some (.ref 19), some (.int 1), some (.int 5), some (.int 5)]) (st' := [.int 5, .ref (100 + 1)]) (g_c dX2_nextWord_65 g_n) rfl rfl ?_
    refine V_callVs C (i := 1) cv_X2_113 (c_chW (g_up (g_up (g_up σ 19 4 (nI (q_run (q_let (q_l (σ 20) n)) 160 i))) 19 5 2) 19 5 tk0) (k := 5) (c := 104) (by decide) (by decide)) (by decide) rfl (by decide) (by decide) (fun _ h => h) (As := [.int 5]) (rest := []) rfl rfl (Nat.le_of_ble_eq_true rfl) dX2_nextWord_66 ?_
    refine V_blk C (pc' := 71) (σ' := (g_up (g_up (g_up σ 19 4 (nI (q_run (q_let (q_l (σ 20) n)) 160 i))) 19 5 2) 19 5 tk0)) (L' := [some (.ref 19), some (.int 1), some (.int 5), some (.int 5)]) (st' := [.int 32, .int 104]) (g_c dX2_nextWord_69 g_n) rfl rfl ?_
    refine V_icmp_ne C (tgt := 105) dX2_nextWord_71 (by decide) (fun _ => ?_) (fun z => absurd z (by decide))
    refine V_blk C (pc' := 108) (σ' := (g_up (g_up (g_up σ 19 4 (nI (q_run (q_let (q_l (σ 20) n)) 160 i))) 19 5 2) 19 5 tk0)) (L' := [some (.ref 19), some (.int 1), some (.int 5), some (.int 6)]) (st' := []) (g_c dX2_nextWord_105 g_n) rfl rfl ?_
    refine V_goto C (tgt := 54) dX2_nextWord_108 (by decide) ?_
    refine V_blk C (pc' := 55) (σ' := (g_up (g_up (g_up σ 19 4 (nI (q_run (q_let (q_l (σ 20) n)) 160 i))) 19 5 2) 19 5 tk0)) (L' := [some (.ref 19), some (.int 1), some (.int 5), some (.int 6)]) (st' := [.int 6]) (g_c dX2_nextWord_54 g_n) rfl rfl ?_
    refine V_ldcS1 C dX2_nextWord_55 ?_
    refine V_eq rfl rfl (st' := [.ref (100 + 1), .int 6]) rfl ?_
    refine V_callVs C (i := 1) cv_X2_110 (c_lenW (g_up (g_up (g_up σ 19 4 (nI (q_run (q_let (q_l (σ 20) n)) 160 i))) 19 5 2) 19 5 tk0)) (by decide) rfl (by decide) (by decide) (fun _ h => h) (As := []) (rest := [.int 6]) rfl rfl (Nat.le_of_ble_eq_true rfl) dX2_nextWord_57 ?_
    refine V_icmp_ge2 C (tgt := 111) dX2_nextWord_60 (by decide) (fun z => absurd z (by decide)) (fun _ => ?_)
    refine V_ldcS1 C dX2_nextWord_63 ?_
    refine V_eq rfl rfl (st' := [.ref (100 + 1)]) rfl ?_
    refine V_blk C (pc' := 66) (σ' := (g_up (g_up (g_up σ 19 4 (nI (q_run (q_let (q_l (σ 20) n)) 160 i))) 19 5 2) 19 5 tk0)) (L' := [some (.ref 19), some (.int 1), some (.int 5), some (.int 6)]) (st' := [.int 6, .ref (100 + 1)]) (g_c dX2_nextWord_65 g_n) rfl rfl ?_
    refine V_callVs C (i := 1) cv_X2_113 (c_chW (g_up (g_up (g_up σ 19 4 (nI (q_run (q_let (q_l (σ 20) n)) 160 i))) 19 5 2) 19 5 tk0) (k := 6) (c := 111) (by decide) (by decide)) (by decide) rfl (by decide) (by decide) (fun _ h => h) (As := [.int 6]) (rest := []) rfl rfl (Nat.le_of_ble_eq_true rfl) dX2_nextWord_66 ?_
    refine V_blk C (pc' := 71) (σ' := (g_up (g_up (g_up σ 19 4 (nI (q_run (q_let (q_l (σ 20) n)) 160 i))) 19 5 2) 19 5 tk0)) (L' := [some (.ref 19), some (.int 1), some (.int 5), some (.int 6)]) (st' := [.int 32, .int 111]) (g_c dX2_nextWord_69 g_n) rfl rfl ?_
    refine V_icmp_ne C (tgt := 105) dX2_nextWord_71 (by decide) (fun _ => ?_) (fun z => absurd z (by decide))
    refine V_blk C (pc' := 108) (σ' := (g_up (g_up (g_up σ 19 4 (nI (q_run (q_let (q_l (σ 20) n)) 160 i))) 19 5 2) 19 5 tk0)) (L' := [some (.ref 19), some (.int 1), some (.int 5), some (.int 7)]) (st' := []) (g_c dX2_nextWord_105 g_n) rfl rfl ?_
    refine V_goto C (tgt := 54) dX2_nextWord_108 (by decide) ?_
    refine V_blk C (pc' := 55) (σ' := (g_up (g_up (g_up σ 19 4 (nI (q_run (q_let (q_l (σ 20) n)) 160 i))) 19 5 2) 19 5 tk0)) (L' := [some (.ref 19), some (.int 1), some (.int 5), some (.int 7)]) (st' := [.int 7]) (g_c dX2_nextWord_54 g_n) rfl rfl ?_
    refine V_ldcS1 C dX2_nextWord_55 ?_
    refine V_eq rfl rfl (st' := [.ref (100 + 1), .int 7]) rfl ?_
    refine V_callVs C (i := 1) cv_X2_110 (c_lenW (g_up (g_up (g_up σ 19 4 (nI (q_run (q_let (q_l (σ 20) n)) 160 i))) 19 5 2) 19 5 tk0)) (by decide) rfl (by decide) (by decide) (fun _ h => h) (As := []) (rest := [.int 7]) rfl rfl (Nat.le_of_ble_eq_true rfl) dX2_nextWord_57 ?_
    refine V_icmp_ge2 C (tgt := 111) dX2_nextWord_60 (by decide) (fun z => absurd z (by decide)) (fun _ => ?_)
    refine V_ldcS1 C dX2_nextWord_63 ?_
    refine V_eq rfl rfl (st' := [.ref (100 + 1)]) rfl ?_
    refine V_blk C (pc' := 66) (σ' := (g_up (g_up (g_up σ 19 4 (nI (q_run (q_let (q_l (σ 20) n)) 160 i))) 19 5 2) 19 5 tk0)) (L' := [some (.ref 19), some (.int 1), some (.int 5), some (.int 7)]) (st' := [.int 7, .ref (100 + 1)]) (g_c dX2_nextWord_65 g_n) rfl rfl ?_
    refine V_callVs C (i := 1) cv_X2_113 (c_chW (g_up (g_up (g_up σ 19 4 (nI (q_run (q_let (q_l (σ 20) n)) 160 i))) 19 5 2) 19 5 tk0) (k := 7) (c := 117) (by decide) (by decide)) (by decide) rfl (by decide) (by decide) (fun _ h => h) (As := [.int 7]) (rest := []) rfl rfl (Nat.le_of_ble_eq_true rfl) dX2_nextWord_66 ?_
    refine V_blk C (pc' := 71) (σ' := (g_up (g_up (g_up σ 19 4 (nI (q_run (q_let (q_l (σ 20) n)) 160 i))) 19 5 2) 19 5 tk0)) (L' := [some (.ref 19), some (.int 1), some (.int 5), some (.int 7)]) (st' := [.int 32, .int 117]) (g_c dX2_nextWord_69 g_n) rfl rfl ?_
    refine V_icmp_ne C (tgt := 105) dX2_nextWord_71 (by decide) (fun _ => ?_) (fun z => absurd z (by decide))
    refine V_blk C (pc' := 108) (σ' := (g_up (g_up (g_up σ 19 4 (nI (q_run (q_let (q_l (σ 20) n)) 160 i))) 19 5 2) 19 5 tk0)) (L' := [some (.ref 19), some (.int 1), some (.int 5), some (.int 8)]) (st' := []) (g_c dX2_nextWord_105 g_n) rfl rfl ?_
    refine V_goto C (tgt := 54) dX2_nextWord_108 (by decide) ?_
    refine V_blk C (pc' := 55) (σ' := (g_up (g_up (g_up σ 19 4 (nI (q_run (q_let (q_l (σ 20) n)) 160 i))) 19 5 2) 19 5 tk0)) (L' := [some (.ref 19), some (.int 1), some (.int 5), some (.int 8)]) (st' := [.int 8]) (g_c dX2_nextWord_54 g_n) rfl rfl ?_
    refine V_ldcS1 C dX2_nextWord_55 ?_
    refine V_eq rfl rfl (st' := [.ref (100 + 1), .int 8]) rfl ?_
    refine V_callVs C (i := 1) cv_X2_110 (c_lenW (g_up (g_up (g_up σ 19 4 (nI (q_run (q_let (q_l (σ 20) n)) 160 i))) 19 5 2) 19 5 tk0)) (by decide) rfl (by decide) (by decide) (fun _ h => h) (As := []) (rest := [.int 8]) rfl rfl (Nat.le_of_ble_eq_true rfl) dX2_nextWord_57 ?_
    refine V_icmp_ge2 C (tgt := 111) dX2_nextWord_60 (by decide) (fun z => absurd z (by decide)) (fun _ => ?_)
    refine V_ldcS1 C dX2_nextWord_63 ?_
    refine V_eq rfl rfl (st' := [.ref (100 + 1)]) rfl ?_
    refine V_blk C (pc' := 66) (σ' := (g_up (g_up (g_up σ 19 4 (nI (q_run (q_let (q_l (σ 20) n)) 160 i))) 19 5 2) 19 5 tk0)) (L' := [some (.ref 19), some (.int 1), some (.int 5), some (.int 8)]) (st' := [.int 8, .ref (100 + 1)]) (g_c dX2_nextWord_65 g_n) rfl rfl ?_
    refine V_callVs C (i := 1) cv_X2_113 (c_chW (g_up (g_up (g_up σ 19 4 (nI (q_run (q_let (q_l (σ 20) n)) 160 i))) 19 5 2) 19 5 tk0) (k := 8) (c := 114) (by decide) (by decide)) (by decide) rfl (by decide) (by decide) (fun _ h => h) (As := [.int 8]) (rest := []) rfl rfl (Nat.le_of_ble_eq_true rfl) dX2_nextWord_66 ?_
    refine V_blk C (pc' := 71) (σ' := (g_up (g_up (g_up σ 19 4 (nI (q_run (q_let (q_l (σ 20) n)) 160 i))) 19 5 2) 19 5 tk0)) (L' := [some (.ref 19), some (.int 1), some (.int 5), some (.int 8)]) (st' := [.int 32, .int 114]) (g_c dX2_nextWord_69 g_n) rfl rfl ?_
    refine V_icmp_ne C (tgt := 105) dX2_nextWord_71 (by decide) (fun _ => ?_) (fun z => absurd z (by decide))
    refine V_blk C (pc' := 108) (σ' := (g_up (g_up (g_up σ 19 4 (nI (q_run (q_let (q_l (σ 20) n)) 160 i))) 19 5 2) 19 5 tk0)) (L' := [some (.ref 19), some (.int 1), some (.int 5), some (.int 9)]) (st' := []) (g_c dX2_nextWord_105 g_n) rfl rfl ?_
    refine V_goto C (tgt := 54) dX2_nextWord_108 (by decide) ?_
    refine V_blk C (pc' := 55) (σ' := (g_up (g_up (g_up σ 19 4 (nI (q_run (q_let (q_l (σ 20) n)) 160 i))) 19 5 2) 19 5 tk0)) (L' := [some (.ref 19), some (.int 1), some (.int 5), some (.int 9)]) (st' := [.int 9]) (g_c dX2_nextWord_54 g_n) rfl rfl ?_
    refine V_ldcS1 C dX2_nextWord_55 ?_
    refine V_eq rfl rfl (st' := [.ref (100 + 1), .int 9]) rfl ?_
    refine V_callVs C (i := 1) cv_X2_110 (c_lenW (g_up (g_up (g_up σ 19 4 (nI (q_run (q_let (q_l (σ 20) n)) 160 i))) 19 5 2) 19 5 tk0)) (by decide) rfl (by decide) (by decide) (fun _ h => h) (As := []) (rest := [.int 9]) rfl rfl (Nat.le_of_ble_eq_true rfl) dX2_nextWord_57 ?_
    refine V_icmp_ge2 C (tgt := 111) dX2_nextWord_60 (by decide) (fun z => absurd z (by decide)) (fun _ => ?_)
    refine V_ldcS1 C dX2_nextWord_63 ?_
    refine V_eq rfl rfl (st' := [.ref (100 + 1)]) rfl ?_
    refine V_blk C (pc' := 66) (σ' := (g_up (g_up (g_up σ 19 4 (nI (q_run (q_let (q_l (σ 20) n)) 160 i))) 19 5 2) 19 5 tk0)) (L' := [some (.ref 19), some (.int 1), some (.int 5), some (.int 9)]) (st' := [.int 9, .ref (100 + 1)]) (g_c dX2_nextWord_65 g_n) rfl rfl ?_
    refine V_callVs C (i := 1) cv_X2_113 (c_chW (g_up (g_up (g_up σ 19 4 (nI (q_run (q_let (q_l (σ 20) n)) 160 i))) 19 5 2) 19 5 tk0) (k := 9) (c := 32) (by decide) (by decide)) (by decide) rfl (by decide) (by decide) (fun _ h => h) (As := [.int 9]) (rest := []) rfl rfl (Nat.le_of_ble_eq_true rfl) dX2_nextWord_66 ?_
    refine V_blk C (pc' := 71) (σ' := (g_up (g_up (g_up σ 19 4 (nI (q_run (q_let (q_l (σ 20) n)) 160 i))) 19 5 2) 19 5 tk0)) (L' := [some (.ref 19), some (.int 1), some (.int 5), some (.int 9)]) (st' := [.int 32, .int 32]) (g_c dX2_nextWord_69 g_n) rfl rfl ?_
    refine V_icmp_ne C (tgt := 105) dX2_nextWord_71 (by decide) (fun z => absurd z (by decide)) (fun _ => ?_)
    refine V_blk C (pc' := 78) (σ' := (g_up (g_up (g_up σ 19 4 (nI (q_run (q_let (q_l (σ 20) n)) 160 i))) 19 5 2) 19 5 tk0)) (L' := [some (.ref 19), some (.int 1), some (.int 5), some (.int 9)]) (st' := [.int 9, .int 5, .ref 19, .ref 19]) (g_c dX2_nextWord_74 (g_c dX2_nextWord_75 (g_c dX2_nextWord_76 (g_c dX2_nextWord_77 g_n)))) rfl rfl ?_
    refine V_callVI C cv_X2_117 (c_X2_isWord1 (g_up (g_up (g_up σ 19 4 (nI (q_run (q_let (q_l (σ 20) n)) 160 i))) 19 5 2) 19 5 tk0) hn hn160 hge hle rfl h6) ⟨_, _, _, _, rfl, rfl⟩ (by rfl) (by decide) (by decide) (fun _ h => h) (As := [.int 5, .int 9]) (rest := [.ref 19]) rfl rfl (Nat.le_of_ble_eq_true rfl) dX2_nextWord_78 ?_
    refine V_join (P := q_is (q_l (σ 20) n) i (q_run (q_let (q_l (σ 20) n)) 160 i) [104, 111, 117, 114] = true) (a := 98) (b := tk0) (pcJ := 95) (rest := [.ref 19]) (fun tk1 htk1 => ?_) (fun kT kF => ?_)
    · skip
      refine V_blk C (pc' := 108) (σ' := (g_up (g_up (g_up (g_up σ 19 4 (nI (q_run (q_let (q_l (σ 20) n)) 160 i))) 19 5 2) 19 5 tk0) 19 5 tk1)) (L' := [some (.ref 19), some (.int 2), some (.int 10), some (.int 10)]) (st' := []) (g_c dX2_nextWord_95 (g_c dX2_nextWord_98 (g_c dX2_nextWord_101 (g_c dX2_nextWord_102 (g_c dX2_nextWord_103 (g_c dX2_nextWord_104 (g_c dX2_nextWord_105 g_n))))))) rfl rfl ?_
      refine V_goto C (tgt := 54) dX2_nextWord_108 (by decide) ?_
      refine V_blk C (pc' := 55) (σ' := (g_up (g_up (g_up (g_up σ 19 4 (nI (q_run (q_let (q_l (σ 20) n)) 160 i))) 19 5 2) 19 5 tk0) 19 5 tk1)) (L' := [some (.ref 19), some (.int 2), some (.int 10), some (.int 10)]) (st' := [.int 10]) (g_c dX2_nextWord_54 g_n) rfl rfl ?_
      refine V_ldcS1 C dX2_nextWord_55 ?_
      refine V_eq rfl rfl (st' := [.ref (100 + 1), .int 10]) rfl ?_
      refine V_callVs C (i := 1) cv_X2_110 (c_lenW (g_up (g_up (g_up (g_up σ 19 4 (nI (q_run (q_let (q_l (σ 20) n)) 160 i))) 19 5 2) 19 5 tk0) 19 5 tk1)) (by decide) rfl (by decide) (by decide) (fun _ h => h) (As := []) (rest := [.int 10]) rfl rfl (Nat.le_of_ble_eq_true rfl) dX2_nextWord_57 ?_
      refine V_icmp_ge2 C (tgt := 111) dX2_nextWord_60 (by decide) (fun z => absurd z (by decide)) (fun _ => ?_)
      refine V_ldcS1 C dX2_nextWord_63 ?_
      refine V_eq rfl rfl (st' := [.ref (100 + 1)]) rfl ?_
      refine V_blk C (pc' := 66) (σ' := (g_up (g_up (g_up (g_up σ 19 4 (nI (q_run (q_let (q_l (σ 20) n)) 160 i))) 19 5 2) 19 5 tk0) 19 5 tk1)) (L' := [some (.ref 19), some (.int 2), some (.int 10), some (.int 10)]) (st' := [.int 10, .ref (100 + 1)]) (g_c dX2_nextWord_65 g_n) rfl rfl ?_
      refine V_callVs C (i := 1) cv_X2_113 (c_chW (g_up (g_up (g_up (g_up σ 19 4 (nI (q_run (q_let (q_l (σ 20) n)) 160 i))) 19 5 2) 19 5 tk0) 19 5 tk1) (k := 10) (c := 112) (by decide) (by decide)) (by decide) rfl (by decide) (by decide) (fun _ h => h) (As := [.int 10]) (rest := []) rfl rfl (Nat.le_of_ble_eq_true rfl) dX2_nextWord_66 ?_
      refine V_blk C (pc' := 71) (σ' := (g_up (g_up (g_up (g_up σ 19 4 (nI (q_run (q_let (q_l (σ 20) n)) 160 i))) 19 5 2) 19 5 tk0) 19 5 tk1)) (L' := [some (.ref 19), some (.int 2), some (.int 10), some (.int 10)]) (st' := [.int 32, .int 112]) (g_c dX2_nextWord_69 g_n) rfl rfl ?_
      refine V_icmp_ne C (tgt := 105) dX2_nextWord_71 (by decide) (fun _ => ?_) (fun z => absurd z (by decide))
      refine V_blk C (pc' := 108) (σ' := (g_up (g_up (g_up (g_up σ 19 4 (nI (q_run (q_let (q_l (σ 20) n)) 160 i))) 19 5 2) 19 5 tk0) 19 5 tk1)) (L' := [some (.ref 19), some (.int 2), some (.int 10), some (.int 11)]) (st' := []) (g_c dX2_nextWord_105 g_n) rfl rfl ?_
      refine V_goto C (tgt := 54) dX2_nextWord_108 (by decide) ?_
      refine V_blk C (pc' := 55) (σ' := (g_up (g_up (g_up (g_up σ 19 4 (nI (q_run (q_let (q_l (σ 20) n)) 160 i))) 19 5 2) 19 5 tk0) 19 5 tk1)) (L' := [some (.ref 19), some (.int 2), some (.int 10), some (.int 11)]) (st' := [.int 11]) (g_c dX2_nextWord_54 g_n) rfl rfl ?_
      refine V_ldcS1 C dX2_nextWord_55 ?_
      refine V_eq rfl rfl (st' := [.ref (100 + 1), .int 11]) rfl ?_
      refine V_callVs C (i := 1) cv_X2_110 (c_lenW (g_up (g_up (g_up (g_up σ 19 4 (nI (q_run (q_let (q_l (σ 20) n)) 160 i))) 19 5 2) 19 5 tk0) 19 5 tk1)) (by decide) rfl (by decide) (by decide) (fun _ h => h) (As := []) (rest := [.int 11]) rfl rfl (Nat.le_of_ble_eq_true rfl) dX2_nextWord_57 ?_
      refine V_icmp_ge2 C (tgt := 111) dX2_nextWord_60 (by decide) (fun z => absurd z (by decide)) (fun _ => ?_)
      refine V_ldcS1 C dX2_nextWord_63 ?_
      refine V_eq rfl rfl (st' := [.ref (100 + 1)]) rfl ?_
      refine V_blk C (pc' := 66) (σ' := (g_up (g_up (g_up (g_up σ 19 4 (nI (q_run (q_let (q_l (σ 20) n)) 160 i))) 19 5 2) 19 5 tk0) 19 5 tk1)) (L' := [some (.ref 19), some (.int 2), some (.int 10), some (.int 11)]) (st' := [.int 11, .ref (100 + 1)]) (g_c dX2_nextWord_65 g_n) rfl rfl ?_
      refine V_callVs C (i := 1) cv_X2_113 (c_chW (g_up (g_up (g_up (g_up σ 19 4 (nI (q_run (q_let (q_l (σ 20) n)) 160 i))) 19 5 2) 19 5 tk0) 19 5 tk1) (k := 11) (c := 108) (by decide) (by decide)) (by decide) rfl (by decide) (by decide) (fun _ h => h) (As := [.int 11]) (rest := []) rfl rfl (Nat.le_of_ble_eq_true rfl) dX2_nextWord_66 ?_
      refine V_blk C (pc' := 71) (σ' := (g_up (g_up (g_up (g_up σ 19 4 (nI (q_run (q_let (q_l (σ 20) n)) 160 i))) 19 5 2) 19 5 tk0) 19 5 tk1)) (L' := [some (.ref 19), some (.int 2), some (.int 10), some (.int 11)]) (st' := [.int 32, .int 108]) (g_c dX2_nextWord_69 g_n) rfl rfl ?_
      refine V_icmp_ne C (tgt := 105) dX2_nextWord_71 (by decide) (fun _ => ?_) (fun z => absurd z (by decide))
      refine V_blk C (pc' := 108) (σ' := (g_up (g_up (g_up (g_up σ 19 4 (nI (q_run (q_let (q_l (σ 20) n)) 160 i))) 19 5 2) 19 5 tk0) 19 5 tk1)) (L' := [some (.ref 19), some (.int 2), some (.int 10), some (.int 12)]) (st' := []) (g_c dX2_nextWord_105 g_n) rfl rfl ?_
      refine V_goto C (tgt := 54) dX2_nextWord_108 (by decide) ?_
      refine V_blk C (pc' := 55) (σ' := (g_up (g_up (g_up (g_up σ 19 4 (nI (q_run (q_let (q_l (σ 20) n)) 160 i))) 19 5 2) 19 5 tk0) 19 5 tk1)) (L' := [some (.ref 19), some (.int 2), some (.int 10), some (.int 12)]) (st' := [.int 12]) (g_c dX2_nextWord_54 g_n) rfl rfl ?_
      refine V_ldcS1 C dX2_nextWord_55 ?_
      refine V_eq rfl rfl (st' := [.ref (100 + 1), .int 12]) rfl ?_
      refine V_callVs C (i := 1) cv_X2_110 (c_lenW (g_up (g_up (g_up (g_up σ 19 4 (nI (q_run (q_let (q_l (σ 20) n)) 160 i))) 19 5 2) 19 5 tk0) 19 5 tk1)) (by decide) rfl (by decide) (by decide) (fun _ h => h) (As := []) (rest := [.int 12]) rfl rfl (Nat.le_of_ble_eq_true rfl) dX2_nextWord_57 ?_
      refine V_icmp_ge2 C (tgt := 111) dX2_nextWord_60 (by decide) (fun z => absurd z (by decide)) (fun _ => ?_)
      refine V_ldcS1 C dX2_nextWord_63 ?_
      refine V_eq rfl rfl (st' := [.ref (100 + 1)]) rfl ?_
      refine V_blk C (pc' := 66) (σ' := (g_up (g_up (g_up (g_up σ 19 4 (nI (q_run (q_let (q_l (σ 20) n)) 160 i))) 19 5 2) 19 5 tk0) 19 5 tk1)) (L' := [some (.ref 19), some (.int 2), some (.int 10), some (.int 12)]) (st' := [.int 12, .ref (100 + 1)]) (g_c dX2_nextWord_65 g_n) rfl rfl ?_
      refine V_callVs C (i := 1) cv_X2_113 (c_chW (g_up (g_up (g_up (g_up σ 19 4 (nI (q_run (q_let (q_l (σ 20) n)) 160 i))) 19 5 2) 19 5 tk0) 19 5 tk1) (k := 12) (c := 97) (by decide) (by decide)) (by decide) rfl (by decide) (by decide) (fun _ h => h) (As := [.int 12]) (rest := []) rfl rfl (Nat.le_of_ble_eq_true rfl) dX2_nextWord_66 ?_
      refine V_blk C (pc' := 71) (σ' := (g_up (g_up (g_up (g_up σ 19 4 (nI (q_run (q_let (q_l (σ 20) n)) 160 i))) 19 5 2) 19 5 tk0) 19 5 tk1)) (L' := [some (.ref 19), some (.int 2), some (.int 10), some (.int 12)]) (st' := [.int 32, .int 97]) (g_c dX2_nextWord_69 g_n) rfl rfl ?_
      refine V_icmp_ne C (tgt := 105) dX2_nextWord_71 (by decide) (fun _ => ?_) (fun z => absurd z (by decide))
      refine V_blk C (pc' := 108) (σ' := (g_up (g_up (g_up (g_up σ 19 4 (nI (q_run (q_let (q_l (σ 20) n)) 160 i))) 19 5 2) 19 5 tk0) 19 5 tk1)) (L' := [some (.ref 19), some (.int 2), some (.int 10), some (.int 13)]) (st' := []) (g_c dX2_nextWord_105 g_n) rfl rfl ?_
      refine V_goto C (tgt := 54) dX2_nextWord_108 (by decide) ?_
      refine V_blk C (pc' := 55) (σ' := (g_up (g_up (g_up (g_up σ 19 4 (nI (q_run (q_let (q_l (σ 20) n)) 160 i))) 19 5 2) 19 5 tk0) 19 5 tk1)) (L' := [some (.ref 19), some (.int 2), some (.int 10), some (.int 13)]) (st' := [.int 13]) (g_c dX2_nextWord_54 g_n) rfl rfl ?_
      refine V_ldcS1 C dX2_nextWord_55 ?_
      refine V_eq rfl rfl (st' := [.ref (100 + 1), .int 13]) rfl ?_
      refine V_callVs C (i := 1) cv_X2_110 (c_lenW (g_up (g_up (g_up (g_up σ 19 4 (nI (q_run (q_let (q_l (σ 20) n)) 160 i))) 19 5 2) 19 5 tk0) 19 5 tk1)) (by decide) rfl (by decide) (by decide) (fun _ h => h) (As := []) (rest := [.int 13]) rfl rfl (Nat.le_of_ble_eq_true rfl) dX2_nextWord_57 ?_
      refine V_icmp_ge2 C (tgt := 111) dX2_nextWord_60 (by decide) (fun z => absurd z (by decide)) (fun _ => ?_)
      refine V_ldcS1 C dX2_nextWord_63 ?_
      refine V_eq rfl rfl (st' := [.ref (100 + 1)]) rfl ?_
      refine V_blk C (pc' := 66) (σ' := (g_up (g_up (g_up (g_up σ 19 4 (nI (q_run (q_let (q_l (σ 20) n)) 160 i))) 19 5 2) 19 5 tk0) 19 5 tk1)) (L' := [some (.ref 19), some (.int 2), some (.int 10), some (.int 13)]) (st' := [.int 13, .ref (100 + 1)]) (g_c dX2_nextWord_65 g_n) rfl rfl ?_
      refine V_callVs C (i := 1) cv_X2_113 (c_chW (g_up (g_up (g_up (g_up σ 19 4 (nI (q_run (q_let (q_l (σ 20) n)) 160 i))) 19 5 2) 19 5 tk0) 19 5 tk1) (k := 13) (c := 99) (by decide) (by decide)) (by decide) rfl (by decide) (by decide) (fun _ h => h) (As := [.int 13]) (rest := []) rfl rfl (Nat.le_of_ble_eq_true rfl) dX2_nextWord_66 ?_
      refine V_blk C (pc' := 71) (σ' := (g_up (g_up (g_up (g_up σ 19 4 (nI (q_run (q_let (q_l (σ 20) n)) 160 i))) 19 5 2) 19 5 tk0) 19 5 tk1)) (L' := [some (.ref 19), some (.int 2), some (.int 10), some (.int 13)]) (st' := [.int 32, .int 99]) (g_c dX2_nextWord_69 g_n) rfl rfl ?_
      refine V_icmp_ne C (tgt := 105) dX2_nextWord_71 (by decide) (fun _ => ?_) (fun z => absurd z (by decide))
      refine V_blk C (pc' := 108) (σ' := (g_up (g_up (g_up (g_up σ 19 4 (nI (q_run (q_let (q_l (σ 20) n)) 160 i))) 19 5 2) 19 5 tk0) 19 5 tk1)) (L' := [some (.ref 19), some (.int 2), some (.int 10), some (.int 14)]) (st' := []) (g_c dX2_nextWord_105 g_n) rfl rfl ?_
      refine V_goto C (tgt := 54) dX2_nextWord_108 (by decide) ?_
      refine V_blk C (pc' := 55) (σ' := (g_up (g_up (g_up (g_up σ 19 4 (nI (q_run (q_let (q_l (σ 20) n)) 160 i))) 19 5 2) 19 5 tk0) 19 5 tk1)) (L' := [some (.ref 19), some (.int 2), some (.int 10), some (.int 14)]) (st' := [.int 14]) (g_c dX2_nextWord_54 g_n) rfl rfl ?_
      refine V_ldcS1 C dX2_nextWord_55 ?_
      refine V_eq rfl rfl (st' := [.ref (100 + 1), .int 14]) rfl ?_
      refine V_callVs C (i := 1) cv_X2_110 (c_lenW (g_up (g_up (g_up (g_up σ 19 4 (nI (q_run (q_let (q_l (σ 20) n)) 160 i))) 19 5 2) 19 5 tk0) 19 5 tk1)) (by decide) rfl (by decide) (by decide) (fun _ h => h) (As := []) (rest := [.int 14]) rfl rfl (Nat.le_of_ble_eq_true rfl) dX2_nextWord_57 ?_
      refine V_icmp_ge2 C (tgt := 111) dX2_nextWord_60 (by decide) (fun z => absurd z (by decide)) (fun _ => ?_)
      refine V_ldcS1 C dX2_nextWord_63 ?_
      refine V_eq rfl rfl (st' := [.ref (100 + 1)]) rfl ?_
      refine V_blk C (pc' := 66) (σ' := (g_up (g_up (g_up (g_up σ 19 4 (nI (q_run (q_let (q_l (σ 20) n)) 160 i))) 19 5 2) 19 5 tk0) 19 5 tk1)) (L' := [some (.ref 19), some (.int 2), some (.int 10), some (.int 14)]) (st' := [.int 14, .ref (100 + 1)]) (g_c dX2_nextWord_65 g_n) rfl rfl ?_
      refine V_callVs C (i := 1) cv_X2_113 (c_chW (g_up (g_up (g_up (g_up σ 19 4 (nI (q_run (q_let (q_l (σ 20) n)) 160 i))) 19 5 2) 19 5 tk0) 19 5 tk1) (k := 14) (c := 101) (by decide) (by decide)) (by decide) rfl (by decide) (by decide) (fun _ h => h) (As := [.int 14]) (rest := []) rfl rfl (Nat.le_of_ble_eq_true rfl) dX2_nextWord_66 ?_
      refine V_blk C (pc' := 71) (σ' := (g_up (g_up (g_up (g_up σ 19 4 (nI (q_run (q_let (q_l (σ 20) n)) 160 i))) 19 5 2) 19 5 tk0) 19 5 tk1)) (L' := [some (.ref 19), some (.int 2), some (.int 10), some (.int 14)]) (st' := [.int 32, .int 101]) (g_c dX2_nextWord_69 g_n) rfl rfl ?_
      refine V_icmp_ne C (tgt := 105) dX2_nextWord_71 (by decide) (fun _ => ?_) (fun z => absurd z (by decide))
      refine V_blk C (pc' := 108) (σ' := (g_up (g_up (g_up (g_up σ 19 4 (nI (q_run (q_let (q_l (σ 20) n)) 160 i))) 19 5 2) 19 5 tk0) 19 5 tk1)) (L' := [some (.ref 19), some (.int 2), some (.int 10), some (.int 15)]) (st' := []) (g_c dX2_nextWord_105 g_n) rfl rfl ?_
      refine V_goto C (tgt := 54) dX2_nextWord_108 (by decide) ?_
      refine V_blk C (pc' := 55) (σ' := (g_up (g_up (g_up (g_up σ 19 4 (nI (q_run (q_let (q_l (σ 20) n)) 160 i))) 19 5 2) 19 5 tk0) 19 5 tk1)) (L' := [some (.ref 19), some (.int 2), some (.int 10), some (.int 15)]) (st' := [.int 15]) (g_c dX2_nextWord_54 g_n) rfl rfl ?_
      refine V_ldcS1 C dX2_nextWord_55 ?_
      refine V_eq rfl rfl (st' := [.ref (100 + 1), .int 15]) rfl ?_
      refine V_callVs C (i := 1) cv_X2_110 (c_lenW (g_up (g_up (g_up (g_up σ 19 4 (nI (q_run (q_let (q_l (σ 20) n)) 160 i))) 19 5 2) 19 5 tk0) 19 5 tk1)) (by decide) rfl (by decide) (by decide) (fun _ h => h) (As := []) (rest := [.int 15]) rfl rfl (Nat.le_of_ble_eq_true rfl) dX2_nextWord_57 ?_
      refine V_icmp_ge2 C (tgt := 111) dX2_nextWord_60 (by decide) (fun z => absurd z (by decide)) (fun _ => ?_)
      refine V_ldcS1 C dX2_nextWord_63 ?_
      refine V_eq rfl rfl (st' := [.ref (100 + 1)]) rfl ?_
      refine V_blk C (pc' := 66) (σ' := (g_up (g_up (g_up (g_up σ 19 4 (nI (q_run (q_let (q_l (σ 20) n)) 160 i))) 19 5 2) 19 5 tk0) 19 5 tk1)) (L' := [some (.ref 19), some (.int 2), some (.int 10), some (.int 15)]) (st' := [.int 15, .ref (100 + 1)]) (g_c dX2_nextWord_65 g_n) rfl rfl ?_
      refine V_callVs C (i := 1) cv_X2_113 (c_chW (g_up (g_up (g_up (g_up σ 19 4 (nI (q_run (q_let (q_l (σ 20) n)) 160 i))) 19 5 2) 19 5 tk0) 19 5 tk1) (k := 15) (c := 32) (by decide) (by decide)) (by decide) rfl (by decide) (by decide) (fun _ h => h) (As := [.int 15]) (rest := []) rfl rfl (Nat.le_of_ble_eq_true rfl) dX2_nextWord_66 ?_
      refine V_blk C (pc' := 71) (σ' := (g_up (g_up (g_up (g_up σ 19 4 (nI (q_run (q_let (q_l (σ 20) n)) 160 i))) 19 5 2) 19 5 tk0) 19 5 tk1)) (L' := [some (.ref 19), some (.int 2), some (.int 10), some (.int 15)]) (st' := [.int 32, .int 32]) (g_c dX2_nextWord_69 g_n) rfl rfl ?_
      refine V_icmp_ne C (tgt := 105) dX2_nextWord_71 (by decide) (fun z => absurd z (by decide)) (fun _ => ?_)
      refine V_blk C (pc' := 78) (σ' := (g_up (g_up (g_up (g_up σ 19 4 (nI (q_run (q_let (q_l (σ 20) n)) 160 i))) 19 5 2) 19 5 tk0) 19 5 tk1)) (L' := [some (.ref 19), some (.int 2), some (.int 10), some (.int 15)]) (st' := [.int 15, .int 10, .ref 19, .ref 19]) (g_c dX2_nextWord_74 (g_c dX2_nextWord_75 (g_c dX2_nextWord_76 (g_c dX2_nextWord_77 g_n)))) rfl rfl ?_
      refine V_callVI C cv_X2_117 (c_X2_isWord2 (g_up (g_up (g_up (g_up σ 19 4 (nI (q_run (q_let (q_l (σ 20) n)) 160 i))) 19 5 2) 19 5 tk0) 19 5 tk1) hn hn160 hge hle rfl h6) ⟨_, _, _, _, rfl, rfl⟩ (by rfl) (by decide) (by decide) (fun _ h => h) (As := [.int 10, .int 15]) (rest := [.ref 19]) rfl rfl (Nat.le_of_ble_eq_true rfl) dX2_nextWord_78 ?_
      refine V_join (P := q_is (q_l (σ 20) n) i (q_run (q_let (q_l (σ 20) n)) 160 i) [112, 108, 97, 99, 101] = true) (a := 99) (b := tk1) (pcJ := 95) (rest := [.ref 19]) (fun tk2 htk2 => ?_) (fun kT kF => ?_)
      · skip
        refine V_blk C (pc' := 108) (σ' := (g_up (g_up (g_up (g_up (g_up σ 19 4 (nI (q_run (q_let (q_l (σ 20) n)) 160 i))) 19 5 2) 19 5 tk0) 19 5 tk1) 19 5 tk2)) (L' := [some (.ref 19), some (.int 3), some (.int 16), some (.int 16)]) (st' := []) (g_c dX2_nextWord_95 (g_c dX2_nextWord_98 (g_c dX2_nextWord_101 (g_c dX2_nextWord_102 (g_c dX2_nextWord_103 (g_c dX2_nextWord_104 (g_c dX2_nextWord_105 g_n))))))) rfl rfl ?_
        refine V_goto C (tgt := 54) dX2_nextWord_108 (by decide) ?_
        refine V_blk C (pc' := 55) (σ' := (g_up (g_up (g_up (g_up (g_up σ 19 4 (nI (q_run (q_let (q_l (σ 20) n)) 160 i))) 19 5 2) 19 5 tk0) 19 5 tk1) 19 5 tk2)) (L' := [some (.ref 19), some (.int 3), some (.int 16), some (.int 16)]) (st' := [.int 16]) (g_c dX2_nextWord_54 g_n) rfl rfl ?_
        refine V_ldcS1 C dX2_nextWord_55 ?_
        refine V_eq rfl rfl (st' := [.ref (100 + 1), .int 16]) rfl ?_
        refine V_callVs C (i := 1) cv_X2_110 (c_lenW (g_up (g_up (g_up (g_up (g_up σ 19 4 (nI (q_run (q_let (q_l (σ 20) n)) 160 i))) 19 5 2) 19 5 tk0) 19 5 tk1) 19 5 tk2)) (by decide) rfl (by decide) (by decide) (fun _ h => h) (As := []) (rest := [.int 16]) rfl rfl (Nat.le_of_ble_eq_true rfl) dX2_nextWord_57 ?_
        refine V_icmp_ge2 C (tgt := 111) dX2_nextWord_60 (by decide) (fun z => absurd z (by decide)) (fun _ => ?_)
        refine V_ldcS1 C dX2_nextWord_63 ?_
        refine V_eq rfl rfl (st' := [.ref (100 + 1)]) rfl ?_
        refine V_blk C (pc' := 66) (σ' := (g_up (g_up (g_up (g_up (g_up σ 19 4 (nI (q_run (q_let (q_l (σ 20) n)) 160 i))) 19 5 2) 19 5 tk0) 19 5 tk1) 19 5 tk2)) (L' := [some (.ref 19), some (.int 3), some (.int 16), some (.int 16)]) (st' := [.int 16, .ref (100 + 1)]) (g_c dX2_nextWord_65 g_n) rfl rfl ?_
        refine V_callVs C (i := 1) cv_X2_113 (c_chW (g_up (g_up (g_up (g_up (g_up σ 19 4 (nI (q_run (q_let (q_l (σ 20) n)) 160 i))) 19 5 2) 19 5 tk0) 19 5 tk1) 19 5 tk2) (k := 16) (c := 114) (by decide) (by decide)) (by decide) rfl (by decide) (by decide) (fun _ h => h) (As := [.int 16]) (rest := []) rfl rfl (Nat.le_of_ble_eq_true rfl) dX2_nextWord_66 ?_
        refine V_blk C (pc' := 71) (σ' := (g_up (g_up (g_up (g_up (g_up σ 19 4 (nI (q_run (q_let (q_l (σ 20) n)) 160 i))) 19 5 2) 19 5 tk0) 19 5 tk1) 19 5 tk2)) (L' := [some (.ref 19), some (.int 3), some (.int 16), some (.int 16)]) (st' := [.int 32, .int 114]) (g_c dX2_nextWord_69 g_n) rfl rfl ?_
        refine V_icmp_ne C (tgt := 105) dX2_nextWord_71 (by decide) (fun _ => ?_) (fun z => absurd z (by decide))
        refine V_blk C (pc' := 108) (σ' := (g_up (g_up (g_up (g_up (g_up σ 19 4 (nI (q_run (q_let (q_l (σ 20) n)) 160 i))) 19 5 2) 19 5 tk0) 19 5 tk1) 19 5 tk2)) (L' := [some (.ref 19), some (.int 3), some (.int 16), some (.int 17)]) (st' := []) (g_c dX2_nextWord_105 g_n) rfl rfl ?_
        refine V_goto C (tgt := 54) dX2_nextWord_108 (by decide) ?_
        refine V_blk C (pc' := 55) (σ' := (g_up (g_up (g_up (g_up (g_up σ 19 4 (nI (q_run (q_let (q_l (σ 20) n)) 160 i))) 19 5 2) 19 5 tk0) 19 5 tk1) 19 5 tk2)) (L' := [some (.ref 19), some (.int 3), some (.int 16), some (.int 17)]) (st' := [.int 17]) (g_c dX2_nextWord_54 g_n) rfl rfl ?_
        refine V_ldcS1 C dX2_nextWord_55 ?_
        refine V_eq rfl rfl (st' := [.ref (100 + 1), .int 17]) rfl ?_
        refine V_callVs C (i := 1) cv_X2_110 (c_lenW (g_up (g_up (g_up (g_up (g_up σ 19 4 (nI (q_run (q_let (q_l (σ 20) n)) 160 i))) 19 5 2) 19 5 tk0) 19 5 tk1) 19 5 tk2)) (by decide) rfl (by decide) (by decide) (fun _ h => h) (As := []) (rest := [.int 17]) rfl rfl (Nat.le_of_ble_eq_true rfl) dX2_nextWord_57 ?_
        refine V_icmp_ge2 C (tgt := 111) dX2_nextWord_60 (by decide) (fun z => absurd z (by decide)) (fun _ => ?_)
        refine V_ldcS1 C dX2_nextWord_63 ?_
        refine V_eq rfl rfl (st' := [.ref (100 + 1)]) rfl ?_
        refine V_blk C (pc' := 66) (σ' := (g_up (g_up (g_up (g_up (g_up σ 19 4 (nI (q_run (q_let (q_l (σ 20) n)) 160 i))) 19 5 2) 19 5 tk0) 19 5 tk1) 19 5 tk2)) (L' := [some (.ref 19), some (.int 3), some (.int 16), some (.int 17)]) (st' := [.int 17, .ref (100 + 1)]) (g_c dX2_nextWord_65 g_n) rfl rfl ?_
        refine V_callVs C (i := 1) cv_X2_113 (c_chW (g_up (g_up (g_up (g_up (g_up σ 19 4 (nI (q_run (q_let (q_l (σ 20) n)) 160 i))) 19 5 2) 19 5 tk0) 19 5 tk1) 19 5 tk2) (k := 17) (c := 97) (by decide) (by decide)) (by decide) rfl (by decide) (by decide) (fun _ h => h) (As := [.int 17]) (rest := []) rfl rfl (Nat.le_of_ble_eq_true rfl) dX2_nextWord_66 ?_
        refine V_blk C (pc' := 71) (σ' := (g_up (g_up (g_up (g_up (g_up σ 19 4 (nI (q_run (q_let (q_l (σ 20) n)) 160 i))) 19 5 2) 19 5 tk0) 19 5 tk1) 19 5 tk2)) (L' := [some (.ref 19), some (.int 3), some (.int 16), some (.int 17)]) (st' := [.int 32, .int 97]) (g_c dX2_nextWord_69 g_n) rfl rfl ?_
        refine V_icmp_ne C (tgt := 105) dX2_nextWord_71 (by decide) (fun _ => ?_) (fun z => absurd z (by decide))
        refine V_blk C (pc' := 108) (σ' := (g_up (g_up (g_up (g_up (g_up σ 19 4 (nI (q_run (q_let (q_l (σ 20) n)) 160 i))) 19 5 2) 19 5 tk0) 19 5 tk1) 19 5 tk2)) (L' := [some (.ref 19), some (.int 3), some (.int 16), some (.int 18)]) (st' := []) (g_c dX2_nextWord_105 g_n) rfl rfl ?_
        refine V_goto C (tgt := 54) dX2_nextWord_108 (by decide) ?_
        refine V_blk C (pc' := 55) (σ' := (g_up (g_up (g_up (g_up (g_up σ 19 4 (nI (q_run (q_let (q_l (σ 20) n)) 160 i))) 19 5 2) 19 5 tk0) 19 5 tk1) 19 5 tk2)) (L' := [some (.ref 19), some (.int 3), some (.int 16), some (.int 18)]) (st' := [.int 18]) (g_c dX2_nextWord_54 g_n) rfl rfl ?_
        refine V_ldcS1 C dX2_nextWord_55 ?_
        refine V_eq rfl rfl (st' := [.ref (100 + 1), .int 18]) rfl ?_
        refine V_callVs C (i := 1) cv_X2_110 (c_lenW (g_up (g_up (g_up (g_up (g_up σ 19 4 (nI (q_run (q_let (q_l (σ 20) n)) 160 i))) 19 5 2) 19 5 tk0) 19 5 tk1) 19 5 tk2)) (by decide) rfl (by decide) (by decide) (fun _ h => h) (As := []) (rest := [.int 18]) rfl rfl (Nat.le_of_ble_eq_true rfl) dX2_nextWord_57 ?_
        refine V_icmp_ge2 C (tgt := 111) dX2_nextWord_60 (by decide) (fun z => absurd z (by decide)) (fun _ => ?_)
        refine V_ldcS1 C dX2_nextWord_63 ?_
        refine V_eq rfl rfl (st' := [.ref (100 + 1)]) rfl ?_
        refine V_blk C (pc' := 66) (σ' := (g_up (g_up (g_up (g_up (g_up σ 19 4 (nI (q_run (q_let (q_l (σ 20) n)) 160 i))) 19 5 2) 19 5 tk0) 19 5 tk1) 19 5 tk2)) (L' := [some (.ref 19), some (.int 3), some (.int 16), some (.int 18)]) (st' := [.int 18, .ref (100 + 1)]) (g_c dX2_nextWord_65 g_n) rfl rfl ?_
        refine V_callVs C (i := 1) cv_X2_113 (c_chW (g_up (g_up (g_up (g_up (g_up σ 19 4 (nI (q_run (q_let (q_l (σ 20) n)) 160 i))) 19 5 2) 19 5 tk0) 19 5 tk1) 19 5 tk2) (k := 18) (c := 116) (by decide) (by decide)) (by decide) rfl (by decide) (by decide) (fun _ h => h) (As := [.int 18]) (rest := []) rfl rfl (Nat.le_of_ble_eq_true rfl) dX2_nextWord_66 ?_
        refine V_blk C (pc' := 71) (σ' := (g_up (g_up (g_up (g_up (g_up σ 19 4 (nI (q_run (q_let (q_l (σ 20) n)) 160 i))) 19 5 2) 19 5 tk0) 19 5 tk1) 19 5 tk2)) (L' := [some (.ref 19), some (.int 3), some (.int 16), some (.int 18)]) (st' := [.int 32, .int 116]) (g_c dX2_nextWord_69 g_n) rfl rfl ?_
        refine V_icmp_ne C (tgt := 105) dX2_nextWord_71 (by decide) (fun _ => ?_) (fun z => absurd z (by decide))
        refine V_blk C (pc' := 108) (σ' := (g_up (g_up (g_up (g_up (g_up σ 19 4 (nI (q_run (q_let (q_l (σ 20) n)) 160 i))) 19 5 2) 19 5 tk0) 19 5 tk1) 19 5 tk2)) (L' := [some (.ref 19), some (.int 3), some (.int 16), some (.int 19)]) (st' := []) (g_c dX2_nextWord_105 g_n) rfl rfl ?_
        refine V_goto C (tgt := 54) dX2_nextWord_108 (by decide) ?_
        refine V_blk C (pc' := 55) (σ' := (g_up (g_up (g_up (g_up (g_up σ 19 4 (nI (q_run (q_let (q_l (σ 20) n)) 160 i))) 19 5 2) 19 5 tk0) 19 5 tk1) 19 5 tk2)) (L' := [some (.ref 19), some (.int 3), some (.int 16), some (.int 19)]) (st' := [.int 19]) (g_c dX2_nextWord_54 g_n) rfl rfl ?_
        refine V_ldcS1 C dX2_nextWord_55 ?_
        refine V_eq rfl rfl (st' := [.ref (100 + 1), .int 19]) rfl ?_
        refine V_callVs C (i := 1) cv_X2_110 (c_lenW (g_up (g_up (g_up (g_up (g_up σ 19 4 (nI (q_run (q_let (q_l (σ 20) n)) 160 i))) 19 5 2) 19 5 tk0) 19 5 tk1) 19 5 tk2)) (by decide) rfl (by decide) (by decide) (fun _ h => h) (As := []) (rest := [.int 19]) rfl rfl (Nat.le_of_ble_eq_true rfl) dX2_nextWord_57 ?_
        refine V_icmp_ge2 C (tgt := 111) dX2_nextWord_60 (by decide) (fun z => absurd z (by decide)) (fun _ => ?_)
        refine V_ldcS1 C dX2_nextWord_63 ?_
        refine V_eq rfl rfl (st' := [.ref (100 + 1)]) rfl ?_
        refine V_blk C (pc' := 66) (σ' := (g_up (g_up (g_up (g_up (g_up σ 19 4 (nI (q_run (q_let (q_l (σ 20) n)) 160 i))) 19 5 2) 19 5 tk0) 19 5 tk1) 19 5 tk2)) (L' := [some (.ref 19), some (.int 3), some (.int 16), some (.int 19)]) (st' := [.int 19, .ref (100 + 1)]) (g_c dX2_nextWord_65 g_n) rfl rfl ?_
        refine V_callVs C (i := 1) cv_X2_113 (c_chW (g_up (g_up (g_up (g_up (g_up σ 19 4 (nI (q_run (q_let (q_l (σ 20) n)) 160 i))) 19 5 2) 19 5 tk0) 19 5 tk1) 19 5 tk2) (k := 19) (c := 101) (by decide) (by decide)) (by decide) rfl (by decide) (by decide) (fun _ h => h) (As := [.int 19]) (rest := []) rfl rfl (Nat.le_of_ble_eq_true rfl) dX2_nextWord_66 ?_
        refine V_blk C (pc' := 71) (σ' := (g_up (g_up (g_up (g_up (g_up σ 19 4 (nI (q_run (q_let (q_l (σ 20) n)) 160 i))) 19 5 2) 19 5 tk0) 19 5 tk1) 19 5 tk2)) (L' := [some (.ref 19), some (.int 3), some (.int 16), some (.int 19)]) (st' := [.int 32, .int 101]) (g_c dX2_nextWord_69 g_n) rfl rfl ?_
        refine V_icmp_ne C (tgt := 105) dX2_nextWord_71 (by decide) (fun _ => ?_) (fun z => absurd z (by decide))
        refine V_blk C (pc' := 108) (σ' := (g_up (g_up (g_up (g_up (g_up σ 19 4 (nI (q_run (q_let (q_l (σ 20) n)) 160 i))) 19 5 2) 19 5 tk0) 19 5 tk1) 19 5 tk2)) (L' := [some (.ref 19), some (.int 3), some (.int 16), some (.int 20)]) (st' := []) (g_c dX2_nextWord_105 g_n) rfl rfl ?_
        refine V_goto C (tgt := 54) dX2_nextWord_108 (by decide) ?_
        refine V_blk C (pc' := 55) (σ' := (g_up (g_up (g_up (g_up (g_up σ 19 4 (nI (q_run (q_let (q_l (σ 20) n)) 160 i))) 19 5 2) 19 5 tk0) 19 5 tk1) 19 5 tk2)) (L' := [some (.ref 19), some (.int 3), some (.int 16), some (.int 20)]) (st' := [.int 20]) (g_c dX2_nextWord_54 g_n) rfl rfl ?_
        refine V_ldcS1 C dX2_nextWord_55 ?_
        refine V_eq rfl rfl (st' := [.ref (100 + 1), .int 20]) rfl ?_
        refine V_callVs C (i := 1) cv_X2_110 (c_lenW (g_up (g_up (g_up (g_up (g_up σ 19 4 (nI (q_run (q_let (q_l (σ 20) n)) 160 i))) 19 5 2) 19 5 tk0) 19 5 tk1) 19 5 tk2)) (by decide) rfl (by decide) (by decide) (fun _ h => h) (As := []) (rest := [.int 20]) rfl rfl (Nat.le_of_ble_eq_true rfl) dX2_nextWord_57 ?_
        refine V_icmp_ge2 C (tgt := 111) dX2_nextWord_60 (by decide) (fun z => absurd z (by decide)) (fun _ => ?_)
        refine V_ldcS1 C dX2_nextWord_63 ?_
        refine V_eq rfl rfl (st' := [.ref (100 + 1)]) rfl ?_
        refine V_blk C (pc' := 66) (σ' := (g_up (g_up (g_up (g_up (g_up σ 19 4 (nI (q_run (q_let (q_l (σ 20) n)) 160 i))) 19 5 2) 19 5 tk0) 19 5 tk1) 19 5 tk2)) (L' := [some (.ref 19), some (.int 3), some (.int 16), some (.int 20)]) (st' := [.int 20, .ref (100 + 1)]) (g_c dX2_nextWord_65 g_n) rfl rfl ?_
        refine V_callVs C (i := 1) cv_X2_113 (c_chW (g_up (g_up (g_up (g_up (g_up σ 19 4 (nI (q_run (q_let (q_l (σ 20) n)) 160 i))) 19 5 2) 19 5 tk0) 19 5 tk1) 19 5 tk2) (k := 20) (c := 32) (by decide) (by decide)) (by decide) rfl (by decide) (by decide) (fun _ h => h) (As := [.int 20]) (rest := []) rfl rfl (Nat.le_of_ble_eq_true rfl) dX2_nextWord_66 ?_
        refine V_blk C (pc' := 71) (σ' := (g_up (g_up (g_up (g_up (g_up σ 19 4 (nI (q_run (q_let (q_l (σ 20) n)) 160 i))) 19 5 2) 19 5 tk0) 19 5 tk1) 19 5 tk2)) (L' := [some (.ref 19), some (.int 3), some (.int 16), some (.int 20)]) (st' := [.int 32, .int 32]) (g_c dX2_nextWord_69 g_n) rfl rfl ?_
        refine V_icmp_ne C (tgt := 105) dX2_nextWord_71 (by decide) (fun z => absurd z (by decide)) (fun _ => ?_)
        refine V_blk C (pc' := 78) (σ' := (g_up (g_up (g_up (g_up (g_up σ 19 4 (nI (q_run (q_let (q_l (σ 20) n)) 160 i))) 19 5 2) 19 5 tk0) 19 5 tk1) 19 5 tk2)) (L' := [some (.ref 19), some (.int 3), some (.int 16), some (.int 20)]) (st' := [.int 20, .int 16, .ref 19, .ref 19]) (g_c dX2_nextWord_74 (g_c dX2_nextWord_75 (g_c dX2_nextWord_76 (g_c dX2_nextWord_77 g_n)))) rfl rfl ?_
        refine V_callVI C cv_X2_117 (c_X2_isWord3 (g_up (g_up (g_up (g_up (g_up σ 19 4 (nI (q_run (q_let (q_l (σ 20) n)) 160 i))) 19 5 2) 19 5 tk0) 19 5 tk1) 19 5 tk2) hn hn160 hge hle rfl h6) ⟨_, _, _, _, rfl, rfl⟩ (by rfl) (by decide) (by decide) (fun _ h => h) (As := [.int 16, .int 20]) (rest := [.ref 19]) rfl rfl (Nat.le_of_ble_eq_true rfl) dX2_nextWord_78 ?_
        refine V_join (P := q_is (q_l (σ 20) n) i (q_run (q_let (q_l (σ 20) n)) 160 i) [114, 97, 116, 101] = true) (a := 100) (b := tk2) (pcJ := 95) (rest := [.ref 19]) (fun tk3 htk3 => ?_) (fun kT kF => ?_)
        · skip
          refine V_blk C (pc' := 108) (σ' := (g_up (g_up (g_up (g_up (g_up (g_up σ 19 4 (nI (q_run (q_let (q_l (σ 20) n)) 160 i))) 19 5 2) 19 5 tk0) 19 5 tk1) 19 5 tk2) 19 5 tk3)) (L' := [some (.ref 19), some (.int 4), some (.int 21), some (.int 21)]) (st' := []) (g_c dX2_nextWord_95 (g_c dX2_nextWord_98 (g_c dX2_nextWord_101 (g_c dX2_nextWord_102 (g_c dX2_nextWord_103 (g_c dX2_nextWord_104 (g_c dX2_nextWord_105 g_n))))))) rfl rfl ?_
          refine V_goto C (tgt := 54) dX2_nextWord_108 (by decide) ?_
          refine V_blk C (pc' := 55) (σ' := (g_up (g_up (g_up (g_up (g_up (g_up σ 19 4 (nI (q_run (q_let (q_l (σ 20) n)) 160 i))) 19 5 2) 19 5 tk0) 19 5 tk1) 19 5 tk2) 19 5 tk3)) (L' := [some (.ref 19), some (.int 4), some (.int 21), some (.int 21)]) (st' := [.int 21]) (g_c dX2_nextWord_54 g_n) rfl rfl ?_
          refine V_ldcS1 C dX2_nextWord_55 ?_
          refine V_eq rfl rfl (st' := [.ref (100 + 1), .int 21]) rfl ?_
          refine V_callVs C (i := 1) cv_X2_110 (c_lenW (g_up (g_up (g_up (g_up (g_up (g_up σ 19 4 (nI (q_run (q_let (q_l (σ 20) n)) 160 i))) 19 5 2) 19 5 tk0) 19 5 tk1) 19 5 tk2) 19 5 tk3)) (by decide) rfl (by decide) (by decide) (fun _ h => h) (As := []) (rest := [.int 21]) rfl rfl (Nat.le_of_ble_eq_true rfl) dX2_nextWord_57 ?_
          refine V_icmp_ge2 C (tgt := 111) dX2_nextWord_60 (by decide) (fun z => absurd z (by decide)) (fun _ => ?_)
          refine V_ldcS1 C dX2_nextWord_63 ?_
          refine V_eq rfl rfl (st' := [.ref (100 + 1)]) rfl ?_
          refine V_blk C (pc' := 66) (σ' := (g_up (g_up (g_up (g_up (g_up (g_up σ 19 4 (nI (q_run (q_let (q_l (σ 20) n)) 160 i))) 19 5 2) 19 5 tk0) 19 5 tk1) 19 5 tk2) 19 5 tk3)) (L' := [some (.ref 19), some (.int 4), some (.int 21), some (.int 21)]) (st' := [.int 21, .ref (100 + 1)]) (g_c dX2_nextWord_65 g_n) rfl rfl ?_
          refine V_callVs C (i := 1) cv_X2_113 (c_chW (g_up (g_up (g_up (g_up (g_up (g_up σ 19 4 (nI (q_run (q_let (q_l (σ 20) n)) 160 i))) 19 5 2) 19 5 tk0) 19 5 tk1) 19 5 tk2) 19 5 tk3) (k := 21) (c := 115) (by decide) (by decide)) (by decide) rfl (by decide) (by decide) (fun _ h => h) (As := [.int 21]) (rest := []) rfl rfl (Nat.le_of_ble_eq_true rfl) dX2_nextWord_66 ?_
          refine V_blk C (pc' := 71) (σ' := (g_up (g_up (g_up (g_up (g_up (g_up σ 19 4 (nI (q_run (q_let (q_l (σ 20) n)) 160 i))) 19 5 2) 19 5 tk0) 19 5 tk1) 19 5 tk2) 19 5 tk3)) (L' := [some (.ref 19), some (.int 4), some (.int 21), some (.int 21)]) (st' := [.int 32, .int 115]) (g_c dX2_nextWord_69 g_n) rfl rfl ?_
          refine V_icmp_ne C (tgt := 105) dX2_nextWord_71 (by decide) (fun _ => ?_) (fun z => absurd z (by decide))
          refine V_blk C (pc' := 108) (σ' := (g_up (g_up (g_up (g_up (g_up (g_up σ 19 4 (nI (q_run (q_let (q_l (σ 20) n)) 160 i))) 19 5 2) 19 5 tk0) 19 5 tk1) 19 5 tk2) 19 5 tk3)) (L' := [some (.ref 19), some (.int 4), some (.int 21), some (.int 22)]) (st' := []) (g_c dX2_nextWord_105 g_n) rfl rfl ?_
          refine V_goto C (tgt := 54) dX2_nextWord_108 (by decide) ?_
          refine V_blk C (pc' := 55) (σ' := (g_up (g_up (g_up (g_up (g_up (g_up σ 19 4 (nI (q_run (q_let (q_l (σ 20) n)) 160 i))) 19 5 2) 19 5 tk0) 19 5 tk1) 19 5 tk2) 19 5 tk3)) (L' := [some (.ref 19), some (.int 4), some (.int 21), some (.int 22)]) (st' := [.int 22]) (g_c dX2_nextWord_54 g_n) rfl rfl ?_
          refine V_ldcS1 C dX2_nextWord_55 ?_
          refine V_eq rfl rfl (st' := [.ref (100 + 1), .int 22]) rfl ?_
          refine V_callVs C (i := 1) cv_X2_110 (c_lenW (g_up (g_up (g_up (g_up (g_up (g_up σ 19 4 (nI (q_run (q_let (q_l (σ 20) n)) 160 i))) 19 5 2) 19 5 tk0) 19 5 tk1) 19 5 tk2) 19 5 tk3)) (by decide) rfl (by decide) (by decide) (fun _ h => h) (As := []) (rest := [.int 22]) rfl rfl (Nat.le_of_ble_eq_true rfl) dX2_nextWord_57 ?_
          refine V_icmp_ge2 C (tgt := 111) dX2_nextWord_60 (by decide) (fun z => absurd z (by decide)) (fun _ => ?_)
          refine V_ldcS1 C dX2_nextWord_63 ?_
          refine V_eq rfl rfl (st' := [.ref (100 + 1)]) rfl ?_
          refine V_blk C (pc' := 66) (σ' := (g_up (g_up (g_up (g_up (g_up (g_up σ 19 4 (nI (q_run (q_let (q_l (σ 20) n)) 160 i))) 19 5 2) 19 5 tk0) 19 5 tk1) 19 5 tk2) 19 5 tk3)) (L' := [some (.ref 19), some (.int 4), some (.int 21), some (.int 22)]) (st' := [.int 22, .ref (100 + 1)]) (g_c dX2_nextWord_65 g_n) rfl rfl ?_
          refine V_callVs C (i := 1) cv_X2_113 (c_chW (g_up (g_up (g_up (g_up (g_up (g_up σ 19 4 (nI (q_run (q_let (q_l (σ 20) n)) 160 i))) 19 5 2) 19 5 tk0) 19 5 tk1) 19 5 tk2) 19 5 tk3) (k := 22) (c := 105) (by decide) (by decide)) (by decide) rfl (by decide) (by decide) (fun _ h => h) (As := [.int 22]) (rest := []) rfl rfl (Nat.le_of_ble_eq_true rfl) dX2_nextWord_66 ?_
          refine V_blk C (pc' := 71) (σ' := (g_up (g_up (g_up (g_up (g_up (g_up σ 19 4 (nI (q_run (q_let (q_l (σ 20) n)) 160 i))) 19 5 2) 19 5 tk0) 19 5 tk1) 19 5 tk2) 19 5 tk3)) (L' := [some (.ref 19), some (.int 4), some (.int 21), some (.int 22)]) (st' := [.int 32, .int 105]) (g_c dX2_nextWord_69 g_n) rfl rfl ?_
          refine V_icmp_ne C (tgt := 105) dX2_nextWord_71 (by decide) (fun _ => ?_) (fun z => absurd z (by decide))
          refine V_blk C (pc' := 108) (σ' := (g_up (g_up (g_up (g_up (g_up (g_up σ 19 4 (nI (q_run (q_let (q_l (σ 20) n)) 160 i))) 19 5 2) 19 5 tk0) 19 5 tk1) 19 5 tk2) 19 5 tk3)) (L' := [some (.ref 19), some (.int 4), some (.int 21), some (.int 23)]) (st' := []) (g_c dX2_nextWord_105 g_n) rfl rfl ?_
          refine V_goto C (tgt := 54) dX2_nextWord_108 (by decide) ?_
          refine V_blk C (pc' := 55) (σ' := (g_up (g_up (g_up (g_up (g_up (g_up σ 19 4 (nI (q_run (q_let (q_l (σ 20) n)) 160 i))) 19 5 2) 19 5 tk0) 19 5 tk1) 19 5 tk2) 19 5 tk3)) (L' := [some (.ref 19), some (.int 4), some (.int 21), some (.int 23)]) (st' := [.int 23]) (g_c dX2_nextWord_54 g_n) rfl rfl ?_
          refine V_ldcS1 C dX2_nextWord_55 ?_
          refine V_eq rfl rfl (st' := [.ref (100 + 1), .int 23]) rfl ?_
          refine V_callVs C (i := 1) cv_X2_110 (c_lenW (g_up (g_up (g_up (g_up (g_up (g_up σ 19 4 (nI (q_run (q_let (q_l (σ 20) n)) 160 i))) 19 5 2) 19 5 tk0) 19 5 tk1) 19 5 tk2) 19 5 tk3)) (by decide) rfl (by decide) (by decide) (fun _ h => h) (As := []) (rest := [.int 23]) rfl rfl (Nat.le_of_ble_eq_true rfl) dX2_nextWord_57 ?_
          refine V_icmp_ge2 C (tgt := 111) dX2_nextWord_60 (by decide) (fun z => absurd z (by decide)) (fun _ => ?_)
          refine V_ldcS1 C dX2_nextWord_63 ?_
          refine V_eq rfl rfl (st' := [.ref (100 + 1)]) rfl ?_
          refine V_blk C (pc' := 66) (σ' := (g_up (g_up (g_up (g_up (g_up (g_up σ 19 4 (nI (q_run (q_let (q_l (σ 20) n)) 160 i))) 19 5 2) 19 5 tk0) 19 5 tk1) 19 5 tk2) 19 5 tk3)) (L' := [some (.ref 19), some (.int 4), some (.int 21), some (.int 23)]) (st' := [.int 23, .ref (100 + 1)]) (g_c dX2_nextWord_65 g_n) rfl rfl ?_
          refine V_callVs C (i := 1) cv_X2_113 (c_chW (g_up (g_up (g_up (g_up (g_up (g_up σ 19 4 (nI (q_run (q_let (q_l (σ 20) n)) 160 i))) 19 5 2) 19 5 tk0) 19 5 tk1) 19 5 tk2) 19 5 tk3) (k := 23) (c := 122) (by decide) (by decide)) (by decide) rfl (by decide) (by decide) (fun _ h => h) (As := [.int 23]) (rest := []) rfl rfl (Nat.le_of_ble_eq_true rfl) dX2_nextWord_66 ?_
          refine V_blk C (pc' := 71) (σ' := (g_up (g_up (g_up (g_up (g_up (g_up σ 19 4 (nI (q_run (q_let (q_l (σ 20) n)) 160 i))) 19 5 2) 19 5 tk0) 19 5 tk1) 19 5 tk2) 19 5 tk3)) (L' := [some (.ref 19), some (.int 4), some (.int 21), some (.int 23)]) (st' := [.int 32, .int 122]) (g_c dX2_nextWord_69 g_n) rfl rfl ?_
          refine V_icmp_ne C (tgt := 105) dX2_nextWord_71 (by decide) (fun _ => ?_) (fun z => absurd z (by decide))
          refine V_blk C (pc' := 108) (σ' := (g_up (g_up (g_up (g_up (g_up (g_up σ 19 4 (nI (q_run (q_let (q_l (σ 20) n)) 160 i))) 19 5 2) 19 5 tk0) 19 5 tk1) 19 5 tk2) 19 5 tk3)) (L' := [some (.ref 19), some (.int 4), some (.int 21), some (.int 24)]) (st' := []) (g_c dX2_nextWord_105 g_n) rfl rfl ?_
          refine V_goto C (tgt := 54) dX2_nextWord_108 (by decide) ?_
          refine V_blk C (pc' := 55) (σ' := (g_up (g_up (g_up (g_up (g_up (g_up σ 19 4 (nI (q_run (q_let (q_l (σ 20) n)) 160 i))) 19 5 2) 19 5 tk0) 19 5 tk1) 19 5 tk2) 19 5 tk3)) (L' := [some (.ref 19), some (.int 4), some (.int 21), some (.int 24)]) (st' := [.int 24]) (g_c dX2_nextWord_54 g_n) rfl rfl ?_
          refine V_ldcS1 C dX2_nextWord_55 ?_
          refine V_eq rfl rfl (st' := [.ref (100 + 1), .int 24]) rfl ?_
          refine V_callVs C (i := 1) cv_X2_110 (c_lenW (g_up (g_up (g_up (g_up (g_up (g_up σ 19 4 (nI (q_run (q_let (q_l (σ 20) n)) 160 i))) 19 5 2) 19 5 tk0) 19 5 tk1) 19 5 tk2) 19 5 tk3)) (by decide) rfl (by decide) (by decide) (fun _ h => h) (As := []) (rest := [.int 24]) rfl rfl (Nat.le_of_ble_eq_true rfl) dX2_nextWord_57 ?_
          refine V_icmp_ge2 C (tgt := 111) dX2_nextWord_60 (by decide) (fun z => absurd z (by decide)) (fun _ => ?_)
          refine V_ldcS1 C dX2_nextWord_63 ?_
          refine V_eq rfl rfl (st' := [.ref (100 + 1)]) rfl ?_
          refine V_blk C (pc' := 66) (σ' := (g_up (g_up (g_up (g_up (g_up (g_up σ 19 4 (nI (q_run (q_let (q_l (σ 20) n)) 160 i))) 19 5 2) 19 5 tk0) 19 5 tk1) 19 5 tk2) 19 5 tk3)) (L' := [some (.ref 19), some (.int 4), some (.int 21), some (.int 24)]) (st' := [.int 24, .ref (100 + 1)]) (g_c dX2_nextWord_65 g_n) rfl rfl ?_
          refine V_callVs C (i := 1) cv_X2_113 (c_chW (g_up (g_up (g_up (g_up (g_up (g_up σ 19 4 (nI (q_run (q_let (q_l (σ 20) n)) 160 i))) 19 5 2) 19 5 tk0) 19 5 tk1) 19 5 tk2) 19 5 tk3) (k := 24) (c := 101) (by decide) (by decide)) (by decide) rfl (by decide) (by decide) (fun _ h => h) (As := [.int 24]) (rest := []) rfl rfl (Nat.le_of_ble_eq_true rfl) dX2_nextWord_66 ?_
          refine V_blk C (pc' := 71) (σ' := (g_up (g_up (g_up (g_up (g_up (g_up σ 19 4 (nI (q_run (q_let (q_l (σ 20) n)) 160 i))) 19 5 2) 19 5 tk0) 19 5 tk1) 19 5 tk2) 19 5 tk3)) (L' := [some (.ref 19), some (.int 4), some (.int 21), some (.int 24)]) (st' := [.int 32, .int 101]) (g_c dX2_nextWord_69 g_n) rfl rfl ?_
          refine V_icmp_ne C (tgt := 105) dX2_nextWord_71 (by decide) (fun _ => ?_) (fun z => absurd z (by decide))
          refine V_blk C (pc' := 108) (σ' := (g_up (g_up (g_up (g_up (g_up (g_up σ 19 4 (nI (q_run (q_let (q_l (σ 20) n)) 160 i))) 19 5 2) 19 5 tk0) 19 5 tk1) 19 5 tk2) 19 5 tk3)) (L' := [some (.ref 19), some (.int 4), some (.int 21), some (.int 25)]) (st' := []) (g_c dX2_nextWord_105 g_n) rfl rfl ?_
          refine V_goto C (tgt := 54) dX2_nextWord_108 (by decide) ?_
          refine V_blk C (pc' := 55) (σ' := (g_up (g_up (g_up (g_up (g_up (g_up σ 19 4 (nI (q_run (q_let (q_l (σ 20) n)) 160 i))) 19 5 2) 19 5 tk0) 19 5 tk1) 19 5 tk2) 19 5 tk3)) (L' := [some (.ref 19), some (.int 4), some (.int 21), some (.int 25)]) (st' := [.int 25]) (g_c dX2_nextWord_54 g_n) rfl rfl ?_
          refine V_ldcS1 C dX2_nextWord_55 ?_
          refine V_eq rfl rfl (st' := [.ref (100 + 1), .int 25]) rfl ?_
          refine V_callVs C (i := 1) cv_X2_110 (c_lenW (g_up (g_up (g_up (g_up (g_up (g_up σ 19 4 (nI (q_run (q_let (q_l (σ 20) n)) 160 i))) 19 5 2) 19 5 tk0) 19 5 tk1) 19 5 tk2) 19 5 tk3)) (by decide) rfl (by decide) (by decide) (fun _ h => h) (As := []) (rest := [.int 25]) rfl rfl (Nat.le_of_ble_eq_true rfl) dX2_nextWord_57 ?_
          refine V_icmp_ge2 C (tgt := 111) dX2_nextWord_60 (by decide) (fun z => absurd z (by decide)) (fun _ => ?_)
          refine V_ldcS1 C dX2_nextWord_63 ?_
          refine V_eq rfl rfl (st' := [.ref (100 + 1)]) rfl ?_
          refine V_blk C (pc' := 66) (σ' := (g_up (g_up (g_up (g_up (g_up (g_up σ 19 4 (nI (q_run (q_let (q_l (σ 20) n)) 160 i))) 19 5 2) 19 5 tk0) 19 5 tk1) 19 5 tk2) 19 5 tk3)) (L' := [some (.ref 19), some (.int 4), some (.int 21), some (.int 25)]) (st' := [.int 25, .ref (100 + 1)]) (g_c dX2_nextWord_65 g_n) rfl rfl ?_
          refine V_callVs C (i := 1) cv_X2_113 (c_chW (g_up (g_up (g_up (g_up (g_up (g_up σ 19 4 (nI (q_run (q_let (q_l (σ 20) n)) 160 i))) 19 5 2) 19 5 tk0) 19 5 tk1) 19 5 tk2) 19 5 tk3) (k := 25) (c := 32) (by decide) (by decide)) (by decide) rfl (by decide) (by decide) (fun _ h => h) (As := [.int 25]) (rest := []) rfl rfl (Nat.le_of_ble_eq_true rfl) dX2_nextWord_66 ?_
          refine V_blk C (pc' := 71) (σ' := (g_up (g_up (g_up (g_up (g_up (g_up σ 19 4 (nI (q_run (q_let (q_l (σ 20) n)) 160 i))) 19 5 2) 19 5 tk0) 19 5 tk1) 19 5 tk2) 19 5 tk3)) (L' := [some (.ref 19), some (.int 4), some (.int 21), some (.int 25)]) (st' := [.int 32, .int 32]) (g_c dX2_nextWord_69 g_n) rfl rfl ?_
          refine V_icmp_ne C (tgt := 105) dX2_nextWord_71 (by decide) (fun z => absurd z (by decide)) (fun _ => ?_)
          refine V_blk C (pc' := 78) (σ' := (g_up (g_up (g_up (g_up (g_up (g_up σ 19 4 (nI (q_run (q_let (q_l (σ 20) n)) 160 i))) 19 5 2) 19 5 tk0) 19 5 tk1) 19 5 tk2) 19 5 tk3)) (L' := [some (.ref 19), some (.int 4), some (.int 21), some (.int 25)]) (st' := [.int 25, .int 21, .ref 19, .ref 19]) (g_c dX2_nextWord_74 (g_c dX2_nextWord_75 (g_c dX2_nextWord_76 (g_c dX2_nextWord_77 g_n)))) rfl rfl ?_
          refine V_callVI C cv_X2_117 (c_X2_isWord4 (g_up (g_up (g_up (g_up (g_up (g_up σ 19 4 (nI (q_run (q_let (q_l (σ 20) n)) 160 i))) 19 5 2) 19 5 tk0) 19 5 tk1) 19 5 tk2) 19 5 tk3) hn hn160 hge hle rfl h6) ⟨_, _, _, _, rfl, rfl⟩ (by rfl) (by decide) (by decide) (fun _ h => h) (As := [.int 21, .int 25]) (rest := [.ref 19]) rfl rfl (Nat.le_of_ble_eq_true rfl) dX2_nextWord_78 ?_
          refine V_join (P := q_is (q_l (σ 20) n) i (q_run (q_let (q_l (σ 20) n)) 160 i) [115, 105, 122, 101] = true) (a := 101) (b := tk3) (pcJ := 95) (rest := [.ref 19]) (fun tk4 htk4 => ?_) (fun kT kF => ?_)
          · skip
            refine V_blk C (pc' := 108) (σ' := (g_up (g_up (g_up (g_up (g_up (g_up (g_up σ 19 4 (nI (q_run (q_let (q_l (σ 20) n)) 160 i))) 19 5 2) 19 5 tk0) 19 5 tk1) 19 5 tk2) 19 5 tk3) 19 5 tk4)) (L' := [some (.ref 19), some (.int 5), some (.int 26), some (.int 26)]) (st' := []) (g_c dX2_nextWord_95 (g_c dX2_nextWord_98 (g_c dX2_nextWord_101 (g_c dX2_nextWord_102 (g_c dX2_nextWord_103 (g_c dX2_nextWord_104 (g_c dX2_nextWord_105 g_n))))))) rfl rfl ?_
            refine V_goto C (tgt := 54) dX2_nextWord_108 (by decide) ?_
            refine V_blk C (pc' := 55) (σ' := (g_up (g_up (g_up (g_up (g_up (g_up (g_up σ 19 4 (nI (q_run (q_let (q_l (σ 20) n)) 160 i))) 19 5 2) 19 5 tk0) 19 5 tk1) 19 5 tk2) 19 5 tk3) 19 5 tk4)) (L' := [some (.ref 19), some (.int 5), some (.int 26), some (.int 26)]) (st' := [.int 26]) (g_c dX2_nextWord_54 g_n) rfl rfl ?_
            refine V_ldcS1 C dX2_nextWord_55 ?_
            refine V_eq rfl rfl (st' := [.ref (100 + 1), .int 26]) rfl ?_
            refine V_callVs C (i := 1) cv_X2_110 (c_lenW (g_up (g_up (g_up (g_up (g_up (g_up (g_up σ 19 4 (nI (q_run (q_let (q_l (σ 20) n)) 160 i))) 19 5 2) 19 5 tk0) 19 5 tk1) 19 5 tk2) 19 5 tk3) 19 5 tk4)) (by decide) rfl (by decide) (by decide) (fun _ h => h) (As := []) (rest := [.int 26]) rfl rfl (Nat.le_of_ble_eq_true rfl) dX2_nextWord_57 ?_
            refine V_icmp_ge2 C (tgt := 111) dX2_nextWord_60 (by decide) (fun z => absurd z (by decide)) (fun _ => ?_)
            refine V_ldcS1 C dX2_nextWord_63 ?_
            refine V_eq rfl rfl (st' := [.ref (100 + 1)]) rfl ?_
            refine V_blk C (pc' := 66) (σ' := (g_up (g_up (g_up (g_up (g_up (g_up (g_up σ 19 4 (nI (q_run (q_let (q_l (σ 20) n)) 160 i))) 19 5 2) 19 5 tk0) 19 5 tk1) 19 5 tk2) 19 5 tk3) 19 5 tk4)) (L' := [some (.ref 19), some (.int 5), some (.int 26), some (.int 26)]) (st' := [.int 26, .ref (100 + 1)]) (g_c dX2_nextWord_65 g_n) rfl rfl ?_
            refine V_callVs C (i := 1) cv_X2_113 (c_chW (g_up (g_up (g_up (g_up (g_up (g_up (g_up σ 19 4 (nI (q_run (q_let (q_l (σ 20) n)) 160 i))) 19 5 2) 19 5 tk0) 19 5 tk1) 19 5 tk2) 19 5 tk3) 19 5 tk4) (k := 26) (c := 103) (by decide) (by decide)) (by decide) rfl (by decide) (by decide) (fun _ h => h) (As := [.int 26]) (rest := []) rfl rfl (Nat.le_of_ble_eq_true rfl) dX2_nextWord_66 ?_
            refine V_blk C (pc' := 71) (σ' := (g_up (g_up (g_up (g_up (g_up (g_up (g_up σ 19 4 (nI (q_run (q_let (q_l (σ 20) n)) 160 i))) 19 5 2) 19 5 tk0) 19 5 tk1) 19 5 tk2) 19 5 tk3) 19 5 tk4)) (L' := [some (.ref 19), some (.int 5), some (.int 26), some (.int 26)]) (st' := [.int 32, .int 103]) (g_c dX2_nextWord_69 g_n) rfl rfl ?_
            refine V_icmp_ne C (tgt := 105) dX2_nextWord_71 (by decide) (fun _ => ?_) (fun z => absurd z (by decide))
            refine V_blk C (pc' := 108) (σ' := (g_up (g_up (g_up (g_up (g_up (g_up (g_up σ 19 4 (nI (q_run (q_let (q_l (σ 20) n)) 160 i))) 19 5 2) 19 5 tk0) 19 5 tk1) 19 5 tk2) 19 5 tk3) 19 5 tk4)) (L' := [some (.ref 19), some (.int 5), some (.int 26), some (.int 27)]) (st' := []) (g_c dX2_nextWord_105 g_n) rfl rfl ?_
            refine V_goto C (tgt := 54) dX2_nextWord_108 (by decide) ?_
            refine V_blk C (pc' := 55) (σ' := (g_up (g_up (g_up (g_up (g_up (g_up (g_up σ 19 4 (nI (q_run (q_let (q_l (σ 20) n)) 160 i))) 19 5 2) 19 5 tk0) 19 5 tk1) 19 5 tk2) 19 5 tk3) 19 5 tk4)) (L' := [some (.ref 19), some (.int 5), some (.int 26), some (.int 27)]) (st' := [.int 27]) (g_c dX2_nextWord_54 g_n) rfl rfl ?_
            refine V_ldcS1 C dX2_nextWord_55 ?_
            refine V_eq rfl rfl (st' := [.ref (100 + 1), .int 27]) rfl ?_
            refine V_callVs C (i := 1) cv_X2_110 (c_lenW (g_up (g_up (g_up (g_up (g_up (g_up (g_up σ 19 4 (nI (q_run (q_let (q_l (σ 20) n)) 160 i))) 19 5 2) 19 5 tk0) 19 5 tk1) 19 5 tk2) 19 5 tk3) 19 5 tk4)) (by decide) rfl (by decide) (by decide) (fun _ h => h) (As := []) (rest := [.int 27]) rfl rfl (Nat.le_of_ble_eq_true rfl) dX2_nextWord_57 ?_
            refine V_icmp_ge2 C (tgt := 111) dX2_nextWord_60 (by decide) (fun z => absurd z (by decide)) (fun _ => ?_)
            refine V_ldcS1 C dX2_nextWord_63 ?_
            refine V_eq rfl rfl (st' := [.ref (100 + 1)]) rfl ?_
            refine V_blk C (pc' := 66) (σ' := (g_up (g_up (g_up (g_up (g_up (g_up (g_up σ 19 4 (nI (q_run (q_let (q_l (σ 20) n)) 160 i))) 19 5 2) 19 5 tk0) 19 5 tk1) 19 5 tk2) 19 5 tk3) 19 5 tk4)) (L' := [some (.ref 19), some (.int 5), some (.int 26), some (.int 27)]) (st' := [.int 27, .ref (100 + 1)]) (g_c dX2_nextWord_65 g_n) rfl rfl ?_
            refine V_callVs C (i := 1) cv_X2_113 (c_chW (g_up (g_up (g_up (g_up (g_up (g_up (g_up σ 19 4 (nI (q_run (q_let (q_l (σ 20) n)) 160 i))) 19 5 2) 19 5 tk0) 19 5 tk1) 19 5 tk2) 19 5 tk3) 19 5 tk4) (k := 27) (c := 111) (by decide) (by decide)) (by decide) rfl (by decide) (by decide) (fun _ h => h) (As := [.int 27]) (rest := []) rfl rfl (Nat.le_of_ble_eq_true rfl) dX2_nextWord_66 ?_
            refine V_blk C (pc' := 71) (σ' := (g_up (g_up (g_up (g_up (g_up (g_up (g_up σ 19 4 (nI (q_run (q_let (q_l (σ 20) n)) 160 i))) 19 5 2) 19 5 tk0) 19 5 tk1) 19 5 tk2) 19 5 tk3) 19 5 tk4)) (L' := [some (.ref 19), some (.int 5), some (.int 26), some (.int 27)]) (st' := [.int 32, .int 111]) (g_c dX2_nextWord_69 g_n) rfl rfl ?_
            refine V_icmp_ne C (tgt := 105) dX2_nextWord_71 (by decide) (fun _ => ?_) (fun z => absurd z (by decide))
            refine V_blk C (pc' := 108) (σ' := (g_up (g_up (g_up (g_up (g_up (g_up (g_up σ 19 4 (nI (q_run (q_let (q_l (σ 20) n)) 160 i))) 19 5 2) 19 5 tk0) 19 5 tk1) 19 5 tk2) 19 5 tk3) 19 5 tk4)) (L' := [some (.ref 19), some (.int 5), some (.int 26), some (.int 28)]) (st' := []) (g_c dX2_nextWord_105 g_n) rfl rfl ?_
            refine V_goto C (tgt := 54) dX2_nextWord_108 (by decide) ?_
            refine V_blk C (pc' := 55) (σ' := (g_up (g_up (g_up (g_up (g_up (g_up (g_up σ 19 4 (nI (q_run (q_let (q_l (σ 20) n)) 160 i))) 19 5 2) 19 5 tk0) 19 5 tk1) 19 5 tk2) 19 5 tk3) 19 5 tk4)) (L' := [some (.ref 19), some (.int 5), some (.int 26), some (.int 28)]) (st' := [.int 28]) (g_c dX2_nextWord_54 g_n) rfl rfl ?_
            refine V_ldcS1 C dX2_nextWord_55 ?_
            refine V_eq rfl rfl (st' := [.ref (100 + 1), .int 28]) rfl ?_
            refine V_callVs C (i := 1) cv_X2_110 (c_lenW (g_up (g_up (g_up (g_up (g_up (g_up (g_up σ 19 4 (nI (q_run (q_let (q_l (σ 20) n)) 160 i))) 19 5 2) 19 5 tk0) 19 5 tk1) 19 5 tk2) 19 5 tk3) 19 5 tk4)) (by decide) rfl (by decide) (by decide) (fun _ h => h) (As := []) (rest := [.int 28]) rfl rfl (Nat.le_of_ble_eq_true rfl) dX2_nextWord_57 ?_
            refine V_icmp_ge2 C (tgt := 111) dX2_nextWord_60 (by decide) (fun z => absurd z (by decide)) (fun _ => ?_)
            refine V_ldcS1 C dX2_nextWord_63 ?_
            refine V_eq rfl rfl (st' := [.ref (100 + 1)]) rfl ?_
            refine V_blk C (pc' := 66) (σ' := (g_up (g_up (g_up (g_up (g_up (g_up (g_up σ 19 4 (nI (q_run (q_let (q_l (σ 20) n)) 160 i))) 19 5 2) 19 5 tk0) 19 5 tk1) 19 5 tk2) 19 5 tk3) 19 5 tk4)) (L' := [some (.ref 19), some (.int 5), some (.int 26), some (.int 28)]) (st' := [.int 28, .ref (100 + 1)]) (g_c dX2_nextWord_65 g_n) rfl rfl ?_
            refine V_callVs C (i := 1) cv_X2_113 (c_chW (g_up (g_up (g_up (g_up (g_up (g_up (g_up σ 19 4 (nI (q_run (q_let (q_l (σ 20) n)) 160 i))) 19 5 2) 19 5 tk0) 19 5 tk1) 19 5 tk2) 19 5 tk3) 19 5 tk4) (k := 28) (c := 110) (by decide) (by decide)) (by decide) rfl (by decide) (by decide) (fun _ h => h) (As := [.int 28]) (rest := []) rfl rfl (Nat.le_of_ble_eq_true rfl) dX2_nextWord_66 ?_
            refine V_blk C (pc' := 71) (σ' := (g_up (g_up (g_up (g_up (g_up (g_up (g_up σ 19 4 (nI (q_run (q_let (q_l (σ 20) n)) 160 i))) 19 5 2) 19 5 tk0) 19 5 tk1) 19 5 tk2) 19 5 tk3) 19 5 tk4)) (L' := [some (.ref 19), some (.int 5), some (.int 26), some (.int 28)]) (st' := [.int 32, .int 110]) (g_c dX2_nextWord_69 g_n) rfl rfl ?_
            refine V_icmp_ne C (tgt := 105) dX2_nextWord_71 (by decide) (fun _ => ?_) (fun z => absurd z (by decide))
            refine V_blk C (pc' := 108) (σ' := (g_up (g_up (g_up (g_up (g_up (g_up (g_up σ 19 4 (nI (q_run (q_let (q_l (σ 20) n)) 160 i))) 19 5 2) 19 5 tk0) 19 5 tk1) 19 5 tk2) 19 5 tk3) 19 5 tk4)) (L' := [some (.ref 19), some (.int 5), some (.int 26), some (.int 29)]) (st' := []) (g_c dX2_nextWord_105 g_n) rfl rfl ?_
            refine V_goto C (tgt := 54) dX2_nextWord_108 (by decide) ?_
            refine V_blk C (pc' := 55) (σ' := (g_up (g_up (g_up (g_up (g_up (g_up (g_up σ 19 4 (nI (q_run (q_let (q_l (σ 20) n)) 160 i))) 19 5 2) 19 5 tk0) 19 5 tk1) 19 5 tk2) 19 5 tk3) 19 5 tk4)) (L' := [some (.ref 19), some (.int 5), some (.int 26), some (.int 29)]) (st' := [.int 29]) (g_c dX2_nextWord_54 g_n) rfl rfl ?_
            refine V_ldcS1 C dX2_nextWord_55 ?_
            refine V_eq rfl rfl (st' := [.ref (100 + 1), .int 29]) rfl ?_
            refine V_callVs C (i := 1) cv_X2_110 (c_lenW (g_up (g_up (g_up (g_up (g_up (g_up (g_up σ 19 4 (nI (q_run (q_let (q_l (σ 20) n)) 160 i))) 19 5 2) 19 5 tk0) 19 5 tk1) 19 5 tk2) 19 5 tk3) 19 5 tk4)) (by decide) rfl (by decide) (by decide) (fun _ h => h) (As := []) (rest := [.int 29]) rfl rfl (Nat.le_of_ble_eq_true rfl) dX2_nextWord_57 ?_
            refine V_icmp_ge2 C (tgt := 111) dX2_nextWord_60 (by decide) (fun z => absurd z (by decide)) (fun _ => ?_)
            refine V_ldcS1 C dX2_nextWord_63 ?_
            refine V_eq rfl rfl (st' := [.ref (100 + 1)]) rfl ?_
            refine V_blk C (pc' := 66) (σ' := (g_up (g_up (g_up (g_up (g_up (g_up (g_up σ 19 4 (nI (q_run (q_let (q_l (σ 20) n)) 160 i))) 19 5 2) 19 5 tk0) 19 5 tk1) 19 5 tk2) 19 5 tk3) 19 5 tk4)) (L' := [some (.ref 19), some (.int 5), some (.int 26), some (.int 29)]) (st' := [.int 29, .ref (100 + 1)]) (g_c dX2_nextWord_65 g_n) rfl rfl ?_
            refine V_callVs C (i := 1) cv_X2_113 (c_chW (g_up (g_up (g_up (g_up (g_up (g_up (g_up σ 19 4 (nI (q_run (q_let (q_l (σ 20) n)) 160 i))) 19 5 2) 19 5 tk0) 19 5 tk1) 19 5 tk2) 19 5 tk3) 19 5 tk4) (k := 29) (c := 101) (by decide) (by decide)) (by decide) rfl (by decide) (by decide) (fun _ h => h) (As := [.int 29]) (rest := []) rfl rfl (Nat.le_of_ble_eq_true rfl) dX2_nextWord_66 ?_
            refine V_blk C (pc' := 71) (σ' := (g_up (g_up (g_up (g_up (g_up (g_up (g_up σ 19 4 (nI (q_run (q_let (q_l (σ 20) n)) 160 i))) 19 5 2) 19 5 tk0) 19 5 tk1) 19 5 tk2) 19 5 tk3) 19 5 tk4)) (L' := [some (.ref 19), some (.int 5), some (.int 26), some (.int 29)]) (st' := [.int 32, .int 101]) (g_c dX2_nextWord_69 g_n) rfl rfl ?_
            refine V_icmp_ne C (tgt := 105) dX2_nextWord_71 (by decide) (fun _ => ?_) (fun z => absurd z (by decide))
            refine V_blk C (pc' := 108) (σ' := (g_up (g_up (g_up (g_up (g_up (g_up (g_up σ 19 4 (nI (q_run (q_let (q_l (σ 20) n)) 160 i))) 19 5 2) 19 5 tk0) 19 5 tk1) 19 5 tk2) 19 5 tk3) 19 5 tk4)) (L' := [some (.ref 19), some (.int 5), some (.int 26), some (.int 30)]) (st' := []) (g_c dX2_nextWord_105 g_n) rfl rfl ?_
            refine V_goto C (tgt := 54) dX2_nextWord_108 (by decide) ?_
            refine V_blk C (pc' := 55) (σ' := (g_up (g_up (g_up (g_up (g_up (g_up (g_up σ 19 4 (nI (q_run (q_let (q_l (σ 20) n)) 160 i))) 19 5 2) 19 5 tk0) 19 5 tk1) 19 5 tk2) 19 5 tk3) 19 5 tk4)) (L' := [some (.ref 19), some (.int 5), some (.int 26), some (.int 30)]) (st' := [.int 30]) (g_c dX2_nextWord_54 g_n) rfl rfl ?_
            refine V_ldcS1 C dX2_nextWord_55 ?_
            refine V_eq rfl rfl (st' := [.ref (100 + 1), .int 30]) rfl ?_
            refine V_callVs C (i := 1) cv_X2_110 (c_lenW (g_up (g_up (g_up (g_up (g_up (g_up (g_up σ 19 4 (nI (q_run (q_let (q_l (σ 20) n)) 160 i))) 19 5 2) 19 5 tk0) 19 5 tk1) 19 5 tk2) 19 5 tk3) 19 5 tk4)) (by decide) rfl (by decide) (by decide) (fun _ h => h) (As := []) (rest := [.int 30]) rfl rfl (Nat.le_of_ble_eq_true rfl) dX2_nextWord_57 ?_
            refine V_icmp_ge2 C (tgt := 111) dX2_nextWord_60 (by decide) (fun z => absurd z (by decide)) (fun _ => ?_)
            refine V_ldcS1 C dX2_nextWord_63 ?_
            refine V_eq rfl rfl (st' := [.ref (100 + 1)]) rfl ?_
            refine V_blk C (pc' := 66) (σ' := (g_up (g_up (g_up (g_up (g_up (g_up (g_up σ 19 4 (nI (q_run (q_let (q_l (σ 20) n)) 160 i))) 19 5 2) 19 5 tk0) 19 5 tk1) 19 5 tk2) 19 5 tk3) 19 5 tk4)) (L' := [some (.ref 19), some (.int 5), some (.int 26), some (.int 30)]) (st' := [.int 30, .ref (100 + 1)]) (g_c dX2_nextWord_65 g_n) rfl rfl ?_
            refine V_callVs C (i := 1) cv_X2_113 (c_chW (g_up (g_up (g_up (g_up (g_up (g_up (g_up σ 19 4 (nI (q_run (q_let (q_l (σ 20) n)) 160 i))) 19 5 2) 19 5 tk0) 19 5 tk1) 19 5 tk2) 19 5 tk3) 19 5 tk4) (k := 30) (c := 32) (by decide) (by decide)) (by decide) rfl (by decide) (by decide) (fun _ h => h) (As := [.int 30]) (rest := []) rfl rfl (Nat.le_of_ble_eq_true rfl) dX2_nextWord_66 ?_
            refine V_blk C (pc' := 71) (σ' := (g_up (g_up (g_up (g_up (g_up (g_up (g_up σ 19 4 (nI (q_run (q_let (q_l (σ 20) n)) 160 i))) 19 5 2) 19 5 tk0) 19 5 tk1) 19 5 tk2) 19 5 tk3) 19 5 tk4)) (L' := [some (.ref 19), some (.int 5), some (.int 26), some (.int 30)]) (st' := [.int 32, .int 32]) (g_c dX2_nextWord_69 g_n) rfl rfl ?_
            refine V_icmp_ne C (tgt := 105) dX2_nextWord_71 (by decide) (fun z => absurd z (by decide)) (fun _ => ?_)
            refine V_blk C (pc' := 78) (σ' := (g_up (g_up (g_up (g_up (g_up (g_up (g_up σ 19 4 (nI (q_run (q_let (q_l (σ 20) n)) 160 i))) 19 5 2) 19 5 tk0) 19 5 tk1) 19 5 tk2) 19 5 tk3) 19 5 tk4)) (L' := [some (.ref 19), some (.int 5), some (.int 26), some (.int 30)]) (st' := [.int 30, .int 26, .ref 19, .ref 19]) (g_c dX2_nextWord_74 (g_c dX2_nextWord_75 (g_c dX2_nextWord_76 (g_c dX2_nextWord_77 g_n)))) rfl rfl ?_
            refine V_callVI C cv_X2_117 (c_X2_isWord5 (g_up (g_up (g_up (g_up (g_up (g_up (g_up σ 19 4 (nI (q_run (q_let (q_l (σ 20) n)) 160 i))) 19 5 2) 19 5 tk0) 19 5 tk1) 19 5 tk2) 19 5 tk3) 19 5 tk4) hn hn160 hge hle rfl h6) ⟨_, _, _, _, rfl, rfl⟩ (by rfl) (by decide) (by decide) (fun _ h => h) (As := [.int 26, .int 30]) (rest := [.ref 19]) rfl rfl (Nat.le_of_ble_eq_true rfl) dX2_nextWord_78 ?_
            refine V_join (P := q_is (q_l (σ 20) n) i (q_run (q_let (q_l (σ 20) n)) 160 i) [103, 111, 110, 101] = true) (a := 102) (b := tk4) (pcJ := 95) (rest := [.ref 19]) (fun tk5 htk5 => ?_) (fun kT kF => ?_)
            · skip
              refine V_blk C (pc' := 108) (σ' := (g_up (g_up (g_up (g_up (g_up (g_up (g_up (g_up σ 19 4 (nI (q_run (q_let (q_l (σ 20) n)) 160 i))) 19 5 2) 19 5 tk0) 19 5 tk1) 19 5 tk2) 19 5 tk3) 19 5 tk4) 19 5 tk5)) (L' := [some (.ref 19), some (.int 6), some (.int 31), some (.int 31)]) (st' := []) (g_c dX2_nextWord_95 (g_c dX2_nextWord_98 (g_c dX2_nextWord_101 (g_c dX2_nextWord_102 (g_c dX2_nextWord_103 (g_c dX2_nextWord_104 (g_c dX2_nextWord_105 g_n))))))) rfl rfl ?_
              refine V_goto C (tgt := 54) dX2_nextWord_108 (by decide) ?_
              refine V_blk C (pc' := 55) (σ' := (g_up (g_up (g_up (g_up (g_up (g_up (g_up (g_up σ 19 4 (nI (q_run (q_let (q_l (σ 20) n)) 160 i))) 19 5 2) 19 5 tk0) 19 5 tk1) 19 5 tk2) 19 5 tk3) 19 5 tk4) 19 5 tk5)) (L' := [some (.ref 19), some (.int 6), some (.int 31), some (.int 31)]) (st' := [.int 31]) (g_c dX2_nextWord_54 g_n) rfl rfl ?_
              refine V_ldcS1 C dX2_nextWord_55 ?_
              refine V_eq rfl rfl (st' := [.ref (100 + 1), .int 31]) rfl ?_
              refine V_callVs C (i := 1) cv_X2_110 (c_lenW (g_up (g_up (g_up (g_up (g_up (g_up (g_up (g_up σ 19 4 (nI (q_run (q_let (q_l (σ 20) n)) 160 i))) 19 5 2) 19 5 tk0) 19 5 tk1) 19 5 tk2) 19 5 tk3) 19 5 tk4) 19 5 tk5)) (by decide) rfl (by decide) (by decide) (fun _ h => h) (As := []) (rest := [.int 31]) rfl rfl (Nat.le_of_ble_eq_true rfl) dX2_nextWord_57 ?_
              refine V_icmp_ge2 C (tgt := 111) dX2_nextWord_60 (by decide) (fun z => absurd z (by decide)) (fun _ => ?_)
              refine V_ldcS1 C dX2_nextWord_63 ?_
              refine V_eq rfl rfl (st' := [.ref (100 + 1)]) rfl ?_
              refine V_blk C (pc' := 66) (σ' := (g_up (g_up (g_up (g_up (g_up (g_up (g_up (g_up σ 19 4 (nI (q_run (q_let (q_l (σ 20) n)) 160 i))) 19 5 2) 19 5 tk0) 19 5 tk1) 19 5 tk2) 19 5 tk3) 19 5 tk4) 19 5 tk5)) (L' := [some (.ref 19), some (.int 6), some (.int 31), some (.int 31)]) (st' := [.int 31, .ref (100 + 1)]) (g_c dX2_nextWord_65 g_n) rfl rfl ?_
              refine V_callVs C (i := 1) cv_X2_113 (c_chW (g_up (g_up (g_up (g_up (g_up (g_up (g_up (g_up σ 19 4 (nI (q_run (q_let (q_l (σ 20) n)) 160 i))) 19 5 2) 19 5 tk0) 19 5 tk1) 19 5 tk2) 19 5 tk3) 19 5 tk4) 19 5 tk5) (k := 31) (c := 102) (by decide) (by decide)) (by decide) rfl (by decide) (by decide) (fun _ h => h) (As := [.int 31]) (rest := []) rfl rfl (Nat.le_of_ble_eq_true rfl) dX2_nextWord_66 ?_
              refine V_blk C (pc' := 71) (σ' := (g_up (g_up (g_up (g_up (g_up (g_up (g_up (g_up σ 19 4 (nI (q_run (q_let (q_l (σ 20) n)) 160 i))) 19 5 2) 19 5 tk0) 19 5 tk1) 19 5 tk2) 19 5 tk3) 19 5 tk4) 19 5 tk5)) (L' := [some (.ref 19), some (.int 6), some (.int 31), some (.int 31)]) (st' := [.int 32, .int 102]) (g_c dX2_nextWord_69 g_n) rfl rfl ?_
              refine V_icmp_ne C (tgt := 105) dX2_nextWord_71 (by decide) (fun _ => ?_) (fun z => absurd z (by decide))
              refine V_blk C (pc' := 108) (σ' := (g_up (g_up (g_up (g_up (g_up (g_up (g_up (g_up σ 19 4 (nI (q_run (q_let (q_l (σ 20) n)) 160 i))) 19 5 2) 19 5 tk0) 19 5 tk1) 19 5 tk2) 19 5 tk3) 19 5 tk4) 19 5 tk5)) (L' := [some (.ref 19), some (.int 6), some (.int 31), some (.int 32)]) (st' := []) (g_c dX2_nextWord_105 g_n) rfl rfl ?_
              refine V_goto C (tgt := 54) dX2_nextWord_108 (by decide) ?_
              refine V_blk C (pc' := 55) (σ' := (g_up (g_up (g_up (g_up (g_up (g_up (g_up (g_up σ 19 4 (nI (q_run (q_let (q_l (σ 20) n)) 160 i))) 19 5 2) 19 5 tk0) 19 5 tk1) 19 5 tk2) 19 5 tk3) 19 5 tk4) 19 5 tk5)) (L' := [some (.ref 19), some (.int 6), some (.int 31), some (.int 32)]) (st' := [.int 32]) (g_c dX2_nextWord_54 g_n) rfl rfl ?_
              refine V_ldcS1 C dX2_nextWord_55 ?_
              refine V_eq rfl rfl (st' := [.ref (100 + 1), .int 32]) rfl ?_
              refine V_callVs C (i := 1) cv_X2_110 (c_lenW (g_up (g_up (g_up (g_up (g_up (g_up (g_up (g_up σ 19 4 (nI (q_run (q_let (q_l (σ 20) n)) 160 i))) 19 5 2) 19 5 tk0) 19 5 tk1) 19 5 tk2) 19 5 tk3) 19 5 tk4) 19 5 tk5)) (by decide) rfl (by decide) (by decide) (fun _ h => h) (As := []) (rest := [.int 32]) rfl rfl (Nat.le_of_ble_eq_true rfl) dX2_nextWord_57 ?_
              refine V_icmp_ge2 C (tgt := 111) dX2_nextWord_60 (by decide) (fun z => absurd z (by decide)) (fun _ => ?_)
              refine V_ldcS1 C dX2_nextWord_63 ?_
              refine V_eq rfl rfl (st' := [.ref (100 + 1)]) rfl ?_
              refine V_blk C (pc' := 66) (σ' := (g_up (g_up (g_up (g_up (g_up (g_up (g_up (g_up σ 19 4 (nI (q_run (q_let (q_l (σ 20) n)) 160 i))) 19 5 2) 19 5 tk0) 19 5 tk1) 19 5 tk2) 19 5 tk3) 19 5 tk4) 19 5 tk5)) (L' := [some (.ref 19), some (.int 6), some (.int 31), some (.int 32)]) (st' := [.int 32, .ref (100 + 1)]) (g_c dX2_nextWord_65 g_n) rfl rfl ?_
              refine V_callVs C (i := 1) cv_X2_113 (c_chW (g_up (g_up (g_up (g_up (g_up (g_up (g_up (g_up σ 19 4 (nI (q_run (q_let (q_l (σ 20) n)) 160 i))) 19 5 2) 19 5 tk0) 19 5 tk1) 19 5 tk2) 19 5 tk3) 19 5 tk4) 19 5 tk5) (k := 32) (c := 97) (by decide) (by decide)) (by decide) rfl (by decide) (by decide) (fun _ h => h) (As := [.int 32]) (rest := []) rfl rfl (Nat.le_of_ble_eq_true rfl) dX2_nextWord_66 ?_
              refine V_blk C (pc' := 71) (σ' := (g_up (g_up (g_up (g_up (g_up (g_up (g_up (g_up σ 19 4 (nI (q_run (q_let (q_l (σ 20) n)) 160 i))) 19 5 2) 19 5 tk0) 19 5 tk1) 19 5 tk2) 19 5 tk3) 19 5 tk4) 19 5 tk5)) (L' := [some (.ref 19), some (.int 6), some (.int 31), some (.int 32)]) (st' := [.int 32, .int 97]) (g_c dX2_nextWord_69 g_n) rfl rfl ?_
              refine V_icmp_ne C (tgt := 105) dX2_nextWord_71 (by decide) (fun _ => ?_) (fun z => absurd z (by decide))
              refine V_blk C (pc' := 108) (σ' := (g_up (g_up (g_up (g_up (g_up (g_up (g_up (g_up σ 19 4 (nI (q_run (q_let (q_l (σ 20) n)) 160 i))) 19 5 2) 19 5 tk0) 19 5 tk1) 19 5 tk2) 19 5 tk3) 19 5 tk4) 19 5 tk5)) (L' := [some (.ref 19), some (.int 6), some (.int 31), some (.int 33)]) (st' := []) (g_c dX2_nextWord_105 g_n) rfl rfl ?_
              refine V_goto C (tgt := 54) dX2_nextWord_108 (by decide) ?_
              refine V_blk C (pc' := 55) (σ' := (g_up (g_up (g_up (g_up (g_up (g_up (g_up (g_up σ 19 4 (nI (q_run (q_let (q_l (σ 20) n)) 160 i))) 19 5 2) 19 5 tk0) 19 5 tk1) 19 5 tk2) 19 5 tk3) 19 5 tk4) 19 5 tk5)) (L' := [some (.ref 19), some (.int 6), some (.int 31), some (.int 33)]) (st' := [.int 33]) (g_c dX2_nextWord_54 g_n) rfl rfl ?_
              refine V_ldcS1 C dX2_nextWord_55 ?_
              refine V_eq rfl rfl (st' := [.ref (100 + 1), .int 33]) rfl ?_
              refine V_callVs C (i := 1) cv_X2_110 (c_lenW (g_up (g_up (g_up (g_up (g_up (g_up (g_up (g_up σ 19 4 (nI (q_run (q_let (q_l (σ 20) n)) 160 i))) 19 5 2) 19 5 tk0) 19 5 tk1) 19 5 tk2) 19 5 tk3) 19 5 tk4) 19 5 tk5)) (by decide) rfl (by decide) (by decide) (fun _ h => h) (As := []) (rest := [.int 33]) rfl rfl (Nat.le_of_ble_eq_true rfl) dX2_nextWord_57 ?_
              refine V_icmp_ge2 C (tgt := 111) dX2_nextWord_60 (by decide) (fun z => absurd z (by decide)) (fun _ => ?_)
              refine V_ldcS1 C dX2_nextWord_63 ?_
              refine V_eq rfl rfl (st' := [.ref (100 + 1)]) rfl ?_
              refine V_blk C (pc' := 66) (σ' := (g_up (g_up (g_up (g_up (g_up (g_up (g_up (g_up σ 19 4 (nI (q_run (q_let (q_l (σ 20) n)) 160 i))) 19 5 2) 19 5 tk0) 19 5 tk1) 19 5 tk2) 19 5 tk3) 19 5 tk4) 19 5 tk5)) (L' := [some (.ref 19), some (.int 6), some (.int 31), some (.int 33)]) (st' := [.int 33, .ref (100 + 1)]) (g_c dX2_nextWord_65 g_n) rfl rfl ?_
              refine V_callVs C (i := 1) cv_X2_113 (c_chW (g_up (g_up (g_up (g_up (g_up (g_up (g_up (g_up σ 19 4 (nI (q_run (q_let (q_l (σ 20) n)) 160 i))) 19 5 2) 19 5 tk0) 19 5 tk1) 19 5 tk2) 19 5 tk3) 19 5 tk4) 19 5 tk5) (k := 33) (c := 108) (by decide) (by decide)) (by decide) rfl (by decide) (by decide) (fun _ h => h) (As := [.int 33]) (rest := []) rfl rfl (Nat.le_of_ble_eq_true rfl) dX2_nextWord_66 ?_
              refine V_blk C (pc' := 71) (σ' := (g_up (g_up (g_up (g_up (g_up (g_up (g_up (g_up σ 19 4 (nI (q_run (q_let (q_l (σ 20) n)) 160 i))) 19 5 2) 19 5 tk0) 19 5 tk1) 19 5 tk2) 19 5 tk3) 19 5 tk4) 19 5 tk5)) (L' := [some (.ref 19), some (.int 6), some (.int 31), some (.int 33)]) (st' := [.int 32, .int 108]) (g_c dX2_nextWord_69 g_n) rfl rfl ?_
              refine V_icmp_ne C (tgt := 105) dX2_nextWord_71 (by decide) (fun _ => ?_) (fun z => absurd z (by decide))
              refine V_blk C (pc' := 108) (σ' := (g_up (g_up (g_up (g_up (g_up (g_up (g_up (g_up σ 19 4 (nI (q_run (q_let (q_l (σ 20) n)) 160 i))) 19 5 2) 19 5 tk0) 19 5 tk1) 19 5 tk2) 19 5 tk3) 19 5 tk4) 19 5 tk5)) (L' := [some (.ref 19), some (.int 6), some (.int 31), some (.int 34)]) (st' := []) (g_c dX2_nextWord_105 g_n) rfl rfl ?_
              refine V_goto C (tgt := 54) dX2_nextWord_108 (by decide) ?_
              refine V_blk C (pc' := 55) (σ' := (g_up (g_up (g_up (g_up (g_up (g_up (g_up (g_up σ 19 4 (nI (q_run (q_let (q_l (σ 20) n)) 160 i))) 19 5 2) 19 5 tk0) 19 5 tk1) 19 5 tk2) 19 5 tk3) 19 5 tk4) 19 5 tk5)) (L' := [some (.ref 19), some (.int 6), some (.int 31), some (.int 34)]) (st' := [.int 34]) (g_c dX2_nextWord_54 g_n) rfl rfl ?_
              refine V_ldcS1 C dX2_nextWord_55 ?_
              refine V_eq rfl rfl (st' := [.ref (100 + 1), .int 34]) rfl ?_
              refine V_callVs C (i := 1) cv_X2_110 (c_lenW (g_up (g_up (g_up (g_up (g_up (g_up (g_up (g_up σ 19 4 (nI (q_run (q_let (q_l (σ 20) n)) 160 i))) 19 5 2) 19 5 tk0) 19 5 tk1) 19 5 tk2) 19 5 tk3) 19 5 tk4) 19 5 tk5)) (by decide) rfl (by decide) (by decide) (fun _ h => h) (As := []) (rest := [.int 34]) rfl rfl (Nat.le_of_ble_eq_true rfl) dX2_nextWord_57 ?_
              refine V_icmp_ge2 C (tgt := 111) dX2_nextWord_60 (by decide) (fun z => absurd z (by decide)) (fun _ => ?_)
              refine V_ldcS1 C dX2_nextWord_63 ?_
              refine V_eq rfl rfl (st' := [.ref (100 + 1)]) rfl ?_
              refine V_blk C (pc' := 66) (σ' := (g_up (g_up (g_up (g_up (g_up (g_up (g_up (g_up σ 19 4 (nI (q_run (q_let (q_l (σ 20) n)) 160 i))) 19 5 2) 19 5 tk0) 19 5 tk1) 19 5 tk2) 19 5 tk3) 19 5 tk4) 19 5 tk5)) (L' := [some (.ref 19), some (.int 6), some (.int 31), some (.int 34)]) (st' := [.int 34, .ref (100 + 1)]) (g_c dX2_nextWord_65 g_n) rfl rfl ?_
              refine V_callVs C (i := 1) cv_X2_113 (c_chW (g_up (g_up (g_up (g_up (g_up (g_up (g_up (g_up σ 19 4 (nI (q_run (q_let (q_l (σ 20) n)) 160 i))) 19 5 2) 19 5 tk0) 19 5 tk1) 19 5 tk2) 19 5 tk3) 19 5 tk4) 19 5 tk5) (k := 34) (c := 108) (by decide) (by decide)) (by decide) rfl (by decide) (by decide) (fun _ h => h) (As := [.int 34]) (rest := []) rfl rfl (Nat.le_of_ble_eq_true rfl) dX2_nextWord_66 ?_
              refine V_blk C (pc' := 71) (σ' := (g_up (g_up (g_up (g_up (g_up (g_up (g_up (g_up σ 19 4 (nI (q_run (q_let (q_l (σ 20) n)) 160 i))) 19 5 2) 19 5 tk0) 19 5 tk1) 19 5 tk2) 19 5 tk3) 19 5 tk4) 19 5 tk5)) (L' := [some (.ref 19), some (.int 6), some (.int 31), some (.int 34)]) (st' := [.int 32, .int 108]) (g_c dX2_nextWord_69 g_n) rfl rfl ?_
              refine V_icmp_ne C (tgt := 105) dX2_nextWord_71 (by decide) (fun _ => ?_) (fun z => absurd z (by decide))
              refine V_blk C (pc' := 108) (σ' := (g_up (g_up (g_up (g_up (g_up (g_up (g_up (g_up σ 19 4 (nI (q_run (q_let (q_l (σ 20) n)) 160 i))) 19 5 2) 19 5 tk0) 19 5 tk1) 19 5 tk2) 19 5 tk3) 19 5 tk4) 19 5 tk5)) (L' := [some (.ref 19), some (.int 6), some (.int 31), some (.int 35)]) (st' := []) (g_c dX2_nextWord_105 g_n) rfl rfl ?_
              refine V_goto C (tgt := 54) dX2_nextWord_108 (by decide) ?_
              refine V_blk C (pc' := 55) (σ' := (g_up (g_up (g_up (g_up (g_up (g_up (g_up (g_up σ 19 4 (nI (q_run (q_let (q_l (σ 20) n)) 160 i))) 19 5 2) 19 5 tk0) 19 5 tk1) 19 5 tk2) 19 5 tk3) 19 5 tk4) 19 5 tk5)) (L' := [some (.ref 19), some (.int 6), some (.int 31), some (.int 35)]) (st' := [.int 35]) (g_c dX2_nextWord_54 g_n) rfl rfl ?_
              refine V_ldcS1 C dX2_nextWord_55 ?_
              refine V_eq rfl rfl (st' := [.ref (100 + 1), .int 35]) rfl ?_
              refine V_callVs C (i := 1) cv_X2_110 (c_lenW (g_up (g_up (g_up (g_up (g_up (g_up (g_up (g_up σ 19 4 (nI (q_run (q_let (q_l (σ 20) n)) 160 i))) 19 5 2) 19 5 tk0) 19 5 tk1) 19 5 tk2) 19 5 tk3) 19 5 tk4) 19 5 tk5)) (by decide) rfl (by decide) (by decide) (fun _ h => h) (As := []) (rest := [.int 35]) rfl rfl (Nat.le_of_ble_eq_true rfl) dX2_nextWord_57 ?_
              refine V_icmp_ge2 C (tgt := 111) dX2_nextWord_60 (by decide) (fun z => absurd z (by decide)) (fun _ => ?_)
              refine V_ldcS1 C dX2_nextWord_63 ?_
              refine V_eq rfl rfl (st' := [.ref (100 + 1)]) rfl ?_
              refine V_blk C (pc' := 66) (σ' := (g_up (g_up (g_up (g_up (g_up (g_up (g_up (g_up σ 19 4 (nI (q_run (q_let (q_l (σ 20) n)) 160 i))) 19 5 2) 19 5 tk0) 19 5 tk1) 19 5 tk2) 19 5 tk3) 19 5 tk4) 19 5 tk5)) (L' := [some (.ref 19), some (.int 6), some (.int 31), some (.int 35)]) (st' := [.int 35, .ref (100 + 1)]) (g_c dX2_nextWord_65 g_n) rfl rfl ?_
              refine V_callVs C (i := 1) cv_X2_113 (c_chW (g_up (g_up (g_up (g_up (g_up (g_up (g_up (g_up σ 19 4 (nI (q_run (q_let (q_l (σ 20) n)) 160 i))) 19 5 2) 19 5 tk0) 19 5 tk1) 19 5 tk2) 19 5 tk3) 19 5 tk4) 19 5 tk5) (k := 35) (c := 115) (by decide) (by decide)) (by decide) rfl (by decide) (by decide) (fun _ h => h) (As := [.int 35]) (rest := []) rfl rfl (Nat.le_of_ble_eq_true rfl) dX2_nextWord_66 ?_
              refine V_blk C (pc' := 71) (σ' := (g_up (g_up (g_up (g_up (g_up (g_up (g_up (g_up σ 19 4 (nI (q_run (q_let (q_l (σ 20) n)) 160 i))) 19 5 2) 19 5 tk0) 19 5 tk1) 19 5 tk2) 19 5 tk3) 19 5 tk4) 19 5 tk5)) (L' := [some (.ref 19), some (.int 6), some (.int 31), some (.int 35)]) (st' := [.int 32, .int 115]) (g_c dX2_nextWord_69 g_n) rfl rfl ?_
              refine V_icmp_ne C (tgt := 105) dX2_nextWord_71 (by decide) (fun _ => ?_) (fun z => absurd z (by decide))
              refine V_blk C (pc' := 108) (σ' := (g_up (g_up (g_up (g_up (g_up (g_up (g_up (g_up σ 19 4 (nI (q_run (q_let (q_l (σ 20) n)) 160 i))) 19 5 2) 19 5 tk0) 19 5 tk1) 19 5 tk2) 19 5 tk3) 19 5 tk4) 19 5 tk5)) (L' := [some (.ref 19), some (.int 6), some (.int 31), some (.int 36)]) (st' := []) (g_c dX2_nextWord_105 g_n) rfl rfl ?_
              refine V_goto C (tgt := 54) dX2_nextWord_108 (by decide) ?_
              refine V_blk C (pc' := 55) (σ' := (g_up (g_up (g_up (g_up (g_up (g_up (g_up (g_up σ 19 4 (nI (q_run (q_let (q_l (σ 20) n)) 160 i))) 19 5 2) 19 5 tk0) 19 5 tk1) 19 5 tk2) 19 5 tk3) 19 5 tk4) 19 5 tk5)) (L' := [some (.ref 19), some (.int 6), some (.int 31), some (.int 36)]) (st' := [.int 36]) (g_c dX2_nextWord_54 g_n) rfl rfl ?_
              refine V_ldcS1 C dX2_nextWord_55 ?_
              refine V_eq rfl rfl (st' := [.ref (100 + 1), .int 36]) rfl ?_
              refine V_callVs C (i := 1) cv_X2_110 (c_lenW (g_up (g_up (g_up (g_up (g_up (g_up (g_up (g_up σ 19 4 (nI (q_run (q_let (q_l (σ 20) n)) 160 i))) 19 5 2) 19 5 tk0) 19 5 tk1) 19 5 tk2) 19 5 tk3) 19 5 tk4) 19 5 tk5)) (by decide) rfl (by decide) (by decide) (fun _ h => h) (As := []) (rest := [.int 36]) rfl rfl (Nat.le_of_ble_eq_true rfl) dX2_nextWord_57 ?_
              refine V_icmp_ge2 C (tgt := 111) dX2_nextWord_60 (by decide) (fun z => absurd z (by decide)) (fun _ => ?_)
              refine V_ldcS1 C dX2_nextWord_63 ?_
              refine V_eq rfl rfl (st' := [.ref (100 + 1)]) rfl ?_
              refine V_blk C (pc' := 66) (σ' := (g_up (g_up (g_up (g_up (g_up (g_up (g_up (g_up σ 19 4 (nI (q_run (q_let (q_l (σ 20) n)) 160 i))) 19 5 2) 19 5 tk0) 19 5 tk1) 19 5 tk2) 19 5 tk3) 19 5 tk4) 19 5 tk5)) (L' := [some (.ref 19), some (.int 6), some (.int 31), some (.int 36)]) (st' := [.int 36, .ref (100 + 1)]) (g_c dX2_nextWord_65 g_n) rfl rfl ?_
              refine V_callVs C (i := 1) cv_X2_113 (c_chW (g_up (g_up (g_up (g_up (g_up (g_up (g_up (g_up σ 19 4 (nI (q_run (q_let (q_l (σ 20) n)) 160 i))) 19 5 2) 19 5 tk0) 19 5 tk1) 19 5 tk2) 19 5 tk3) 19 5 tk4) 19 5 tk5) (k := 36) (c := 32) (by decide) (by decide)) (by decide) rfl (by decide) (by decide) (fun _ h => h) (As := [.int 36]) (rest := []) rfl rfl (Nat.le_of_ble_eq_true rfl) dX2_nextWord_66 ?_
              refine V_blk C (pc' := 71) (σ' := (g_up (g_up (g_up (g_up (g_up (g_up (g_up (g_up σ 19 4 (nI (q_run (q_let (q_l (σ 20) n)) 160 i))) 19 5 2) 19 5 tk0) 19 5 tk1) 19 5 tk2) 19 5 tk3) 19 5 tk4) 19 5 tk5)) (L' := [some (.ref 19), some (.int 6), some (.int 31), some (.int 36)]) (st' := [.int 32, .int 32]) (g_c dX2_nextWord_69 g_n) rfl rfl ?_
              refine V_icmp_ne C (tgt := 105) dX2_nextWord_71 (by decide) (fun z => absurd z (by decide)) (fun _ => ?_)
              refine V_blk C (pc' := 78) (σ' := (g_up (g_up (g_up (g_up (g_up (g_up (g_up (g_up σ 19 4 (nI (q_run (q_let (q_l (σ 20) n)) 160 i))) 19 5 2) 19 5 tk0) 19 5 tk1) 19 5 tk2) 19 5 tk3) 19 5 tk4) 19 5 tk5)) (L' := [some (.ref 19), some (.int 6), some (.int 31), some (.int 36)]) (st' := [.int 36, .int 31, .ref 19, .ref 19]) (g_c dX2_nextWord_74 (g_c dX2_nextWord_75 (g_c dX2_nextWord_76 (g_c dX2_nextWord_77 g_n)))) rfl rfl ?_
              refine V_callVI C cv_X2_117 (c_X2_isWord6 (g_up (g_up (g_up (g_up (g_up (g_up (g_up (g_up σ 19 4 (nI (q_run (q_let (q_l (σ 20) n)) 160 i))) 19 5 2) 19 5 tk0) 19 5 tk1) 19 5 tk2) 19 5 tk3) 19 5 tk4) 19 5 tk5) hn hn160 hge hle rfl h6) ⟨_, _, _, _, rfl, rfl⟩ (by rfl) (by decide) (by decide) (fun _ h => h) (As := [.int 31, .int 36]) (rest := [.ref 19]) rfl rfl (Nat.le_of_ble_eq_true rfl) dX2_nextWord_78 ?_
              refine V_join (P := q_is (q_l (σ 20) n) i (q_run (q_let (q_l (σ 20) n)) 160 i) [102, 97, 108, 108, 115] = true) (a := 103) (b := tk5) (pcJ := 95) (rest := [.ref 19]) (fun tk6 htk6 => ?_) (fun kT kF => ?_)
              · skip
                refine V_blk C (pc' := 108) (σ' := (g_up (g_up (g_up (g_up (g_up (g_up (g_up (g_up (g_up σ 19 4 (nI (q_run (q_let (q_l (σ 20) n)) 160 i))) 19 5 2) 19 5 tk0) 19 5 tk1) 19 5 tk2) 19 5 tk3) 19 5 tk4) 19 5 tk5) 19 5 tk6)) (L' := [some (.ref 19), some (.int 7), some (.int 37), some (.int 37)]) (st' := []) (g_c dX2_nextWord_95 (g_c dX2_nextWord_98 (g_c dX2_nextWord_101 (g_c dX2_nextWord_102 (g_c dX2_nextWord_103 (g_c dX2_nextWord_104 (g_c dX2_nextWord_105 g_n))))))) rfl rfl ?_
                refine V_goto C (tgt := 54) dX2_nextWord_108 (by decide) ?_
                refine V_blk C (pc' := 55) (σ' := (g_up (g_up (g_up (g_up (g_up (g_up (g_up (g_up (g_up σ 19 4 (nI (q_run (q_let (q_l (σ 20) n)) 160 i))) 19 5 2) 19 5 tk0) 19 5 tk1) 19 5 tk2) 19 5 tk3) 19 5 tk4) 19 5 tk5) 19 5 tk6)) (L' := [some (.ref 19), some (.int 7), some (.int 37), some (.int 37)]) (st' := [.int 37]) (g_c dX2_nextWord_54 g_n) rfl rfl ?_
                refine V_ldcS1 C dX2_nextWord_55 ?_
                refine V_eq rfl rfl (st' := [.ref (100 + 1), .int 37]) rfl ?_
                refine V_callVs C (i := 1) cv_X2_110 (c_lenW (g_up (g_up (g_up (g_up (g_up (g_up (g_up (g_up (g_up σ 19 4 (nI (q_run (q_let (q_l (σ 20) n)) 160 i))) 19 5 2) 19 5 tk0) 19 5 tk1) 19 5 tk2) 19 5 tk3) 19 5 tk4) 19 5 tk5) 19 5 tk6)) (by decide) rfl (by decide) (by decide) (fun _ h => h) (As := []) (rest := [.int 37]) rfl rfl (Nat.le_of_ble_eq_true rfl) dX2_nextWord_57 ?_
                refine V_icmp_ge2 C (tgt := 111) dX2_nextWord_60 (by decide) (fun z => absurd z (by decide)) (fun _ => ?_)
                refine V_ldcS1 C dX2_nextWord_63 ?_
                refine V_eq rfl rfl (st' := [.ref (100 + 1)]) rfl ?_
                refine V_blk C (pc' := 66) (σ' := (g_up (g_up (g_up (g_up (g_up (g_up (g_up (g_up (g_up σ 19 4 (nI (q_run (q_let (q_l (σ 20) n)) 160 i))) 19 5 2) 19 5 tk0) 19 5 tk1) 19 5 tk2) 19 5 tk3) 19 5 tk4) 19 5 tk5) 19 5 tk6)) (L' := [some (.ref 19), some (.int 7), some (.int 37), some (.int 37)]) (st' := [.int 37, .ref (100 + 1)]) (g_c dX2_nextWord_65 g_n) rfl rfl ?_
                refine V_callVs C (i := 1) cv_X2_113 (c_chW (g_up (g_up (g_up (g_up (g_up (g_up (g_up (g_up (g_up σ 19 4 (nI (q_run (q_let (q_l (σ 20) n)) 160 i))) 19 5 2) 19 5 tk0) 19 5 tk1) 19 5 tk2) 19 5 tk3) 19 5 tk4) 19 5 tk5) 19 5 tk6) (k := 37) (c := 104) (by decide) (by decide)) (by decide) rfl (by decide) (by decide) (fun _ h => h) (As := [.int 37]) (rest := []) rfl rfl (Nat.le_of_ble_eq_true rfl) dX2_nextWord_66 ?_
                refine V_blk C (pc' := 71) (σ' := (g_up (g_up (g_up (g_up (g_up (g_up (g_up (g_up (g_up σ 19 4 (nI (q_run (q_let (q_l (σ 20) n)) 160 i))) 19 5 2) 19 5 tk0) 19 5 tk1) 19 5 tk2) 19 5 tk3) 19 5 tk4) 19 5 tk5) 19 5 tk6)) (L' := [some (.ref 19), some (.int 7), some (.int 37), some (.int 37)]) (st' := [.int 32, .int 104]) (g_c dX2_nextWord_69 g_n) rfl rfl ?_
                refine V_icmp_ne C (tgt := 105) dX2_nextWord_71 (by decide) (fun _ => ?_) (fun z => absurd z (by decide))
                refine V_blk C (pc' := 108) (σ' := (g_up (g_up (g_up (g_up (g_up (g_up (g_up (g_up (g_up σ 19 4 (nI (q_run (q_let (q_l (σ 20) n)) 160 i))) 19 5 2) 19 5 tk0) 19 5 tk1) 19 5 tk2) 19 5 tk3) 19 5 tk4) 19 5 tk5) 19 5 tk6)) (L' := [some (.ref 19), some (.int 7), some (.int 37), some (.int 38)]) (st' := []) (g_c dX2_nextWord_105 g_n) rfl rfl ?_
                refine V_goto C (tgt := 54) dX2_nextWord_108 (by decide) ?_
                refine V_blk C (pc' := 55) (σ' := (g_up (g_up (g_up (g_up (g_up (g_up (g_up (g_up (g_up σ 19 4 (nI (q_run (q_let (q_l (σ 20) n)) 160 i))) 19 5 2) 19 5 tk0) 19 5 tk1) 19 5 tk2) 19 5 tk3) 19 5 tk4) 19 5 tk5) 19 5 tk6)) (L' := [some (.ref 19), some (.int 7), some (.int 37), some (.int 38)]) (st' := [.int 38]) (g_c dX2_nextWord_54 g_n) rfl rfl ?_
                refine V_ldcS1 C dX2_nextWord_55 ?_
                refine V_eq rfl rfl (st' := [.ref (100 + 1), .int 38]) rfl ?_
                refine V_callVs C (i := 1) cv_X2_110 (c_lenW (g_up (g_up (g_up (g_up (g_up (g_up (g_up (g_up (g_up σ 19 4 (nI (q_run (q_let (q_l (σ 20) n)) 160 i))) 19 5 2) 19 5 tk0) 19 5 tk1) 19 5 tk2) 19 5 tk3) 19 5 tk4) 19 5 tk5) 19 5 tk6)) (by decide) rfl (by decide) (by decide) (fun _ h => h) (As := []) (rest := [.int 38]) rfl rfl (Nat.le_of_ble_eq_true rfl) dX2_nextWord_57 ?_
                refine V_icmp_ge2 C (tgt := 111) dX2_nextWord_60 (by decide) (fun z => absurd z (by decide)) (fun _ => ?_)
                refine V_ldcS1 C dX2_nextWord_63 ?_
                refine V_eq rfl rfl (st' := [.ref (100 + 1)]) rfl ?_
                refine V_blk C (pc' := 66) (σ' := (g_up (g_up (g_up (g_up (g_up (g_up (g_up (g_up (g_up σ 19 4 (nI (q_run (q_let (q_l (σ 20) n)) 160 i))) 19 5 2) 19 5 tk0) 19 5 tk1) 19 5 tk2) 19 5 tk3) 19 5 tk4) 19 5 tk5) 19 5 tk6)) (L' := [some (.ref 19), some (.int 7), some (.int 37), some (.int 38)]) (st' := [.int 38, .ref (100 + 1)]) (g_c dX2_nextWord_65 g_n) rfl rfl ?_
                refine V_callVs C (i := 1) cv_X2_113 (c_chW (g_up (g_up (g_up (g_up (g_up (g_up (g_up (g_up (g_up σ 19 4 (nI (q_run (q_let (q_l (σ 20) n)) 160 i))) 19 5 2) 19 5 tk0) 19 5 tk1) 19 5 tk2) 19 5 tk3) 19 5 tk4) 19 5 tk5) 19 5 tk6) (k := 38) (c := 97) (by decide) (by decide)) (by decide) rfl (by decide) (by decide) (fun _ h => h) (As := [.int 38]) (rest := []) rfl rfl (Nat.le_of_ble_eq_true rfl) dX2_nextWord_66 ?_
                refine V_blk C (pc' := 71) (σ' := (g_up (g_up (g_up (g_up (g_up (g_up (g_up (g_up (g_up σ 19 4 (nI (q_run (q_let (q_l (σ 20) n)) 160 i))) 19 5 2) 19 5 tk0) 19 5 tk1) 19 5 tk2) 19 5 tk3) 19 5 tk4) 19 5 tk5) 19 5 tk6)) (L' := [some (.ref 19), some (.int 7), some (.int 37), some (.int 38)]) (st' := [.int 32, .int 97]) (g_c dX2_nextWord_69 g_n) rfl rfl ?_
                refine V_icmp_ne C (tgt := 105) dX2_nextWord_71 (by decide) (fun _ => ?_) (fun z => absurd z (by decide))
                refine V_blk C (pc' := 108) (σ' := (g_up (g_up (g_up (g_up (g_up (g_up (g_up (g_up (g_up σ 19 4 (nI (q_run (q_let (q_l (σ 20) n)) 160 i))) 19 5 2) 19 5 tk0) 19 5 tk1) 19 5 tk2) 19 5 tk3) 19 5 tk4) 19 5 tk5) 19 5 tk6)) (L' := [some (.ref 19), some (.int 7), some (.int 37), some (.int 39)]) (st' := []) (g_c dX2_nextWord_105 g_n) rfl rfl ?_
                refine V_goto C (tgt := 54) dX2_nextWord_108 (by decide) ?_
                refine V_blk C (pc' := 55) (σ' := (g_up (g_up (g_up (g_up (g_up (g_up (g_up (g_up (g_up σ 19 4 (nI (q_run (q_let (q_l (σ 20) n)) 160 i))) 19 5 2) 19 5 tk0) 19 5 tk1) 19 5 tk2) 19 5 tk3) 19 5 tk4) 19 5 tk5) 19 5 tk6)) (L' := [some (.ref 19), some (.int 7), some (.int 37), some (.int 39)]) (st' := [.int 39]) (g_c dX2_nextWord_54 g_n) rfl rfl ?_
                refine V_ldcS1 C dX2_nextWord_55 ?_
                refine V_eq rfl rfl (st' := [.ref (100 + 1), .int 39]) rfl ?_
                refine V_callVs C (i := 1) cv_X2_110 (c_lenW (g_up (g_up (g_up (g_up (g_up (g_up (g_up (g_up (g_up σ 19 4 (nI (q_run (q_let (q_l (σ 20) n)) 160 i))) 19 5 2) 19 5 tk0) 19 5 tk1) 19 5 tk2) 19 5 tk3) 19 5 tk4) 19 5 tk5) 19 5 tk6)) (by decide) rfl (by decide) (by decide) (fun _ h => h) (As := []) (rest := [.int 39]) rfl rfl (Nat.le_of_ble_eq_true rfl) dX2_nextWord_57 ?_
                refine V_icmp_ge2 C (tgt := 111) dX2_nextWord_60 (by decide) (fun z => absurd z (by decide)) (fun _ => ?_)
                refine V_ldcS1 C dX2_nextWord_63 ?_
                refine V_eq rfl rfl (st' := [.ref (100 + 1)]) rfl ?_
                refine V_blk C (pc' := 66) (σ' := (g_up (g_up (g_up (g_up (g_up (g_up (g_up (g_up (g_up σ 19 4 (nI (q_run (q_let (q_l (σ 20) n)) 160 i))) 19 5 2) 19 5 tk0) 19 5 tk1) 19 5 tk2) 19 5 tk3) 19 5 tk4) 19 5 tk5) 19 5 tk6)) (L' := [some (.ref 19), some (.int 7), some (.int 37), some (.int 39)]) (st' := [.int 39, .ref (100 + 1)]) (g_c dX2_nextWord_65 g_n) rfl rfl ?_
                refine V_callVs C (i := 1) cv_X2_113 (c_chW (g_up (g_up (g_up (g_up (g_up (g_up (g_up (g_up (g_up σ 19 4 (nI (q_run (q_let (q_l (σ 20) n)) 160 i))) 19 5 2) 19 5 tk0) 19 5 tk1) 19 5 tk2) 19 5 tk3) 19 5 tk4) 19 5 tk5) 19 5 tk6) (k := 39) (c := 114) (by decide) (by decide)) (by decide) rfl (by decide) (by decide) (fun _ h => h) (As := [.int 39]) (rest := []) rfl rfl (Nat.le_of_ble_eq_true rfl) dX2_nextWord_66 ?_
                refine V_blk C (pc' := 71) (σ' := (g_up (g_up (g_up (g_up (g_up (g_up (g_up (g_up (g_up σ 19 4 (nI (q_run (q_let (q_l (σ 20) n)) 160 i))) 19 5 2) 19 5 tk0) 19 5 tk1) 19 5 tk2) 19 5 tk3) 19 5 tk4) 19 5 tk5) 19 5 tk6)) (L' := [some (.ref 19), some (.int 7), some (.int 37), some (.int 39)]) (st' := [.int 32, .int 114]) (g_c dX2_nextWord_69 g_n) rfl rfl ?_
                refine V_icmp_ne C (tgt := 105) dX2_nextWord_71 (by decide) (fun _ => ?_) (fun z => absurd z (by decide))
                refine V_blk C (pc' := 108) (σ' := (g_up (g_up (g_up (g_up (g_up (g_up (g_up (g_up (g_up σ 19 4 (nI (q_run (q_let (q_l (σ 20) n)) 160 i))) 19 5 2) 19 5 tk0) 19 5 tk1) 19 5 tk2) 19 5 tk3) 19 5 tk4) 19 5 tk5) 19 5 tk6)) (L' := [some (.ref 19), some (.int 7), some (.int 37), some (.int 40)]) (st' := []) (g_c dX2_nextWord_105 g_n) rfl rfl ?_
                refine V_goto C (tgt := 54) dX2_nextWord_108 (by decide) ?_
                refine V_blk C (pc' := 55) (σ' := (g_up (g_up (g_up (g_up (g_up (g_up (g_up (g_up (g_up σ 19 4 (nI (q_run (q_let (q_l (σ 20) n)) 160 i))) 19 5 2) 19 5 tk0) 19 5 tk1) 19 5 tk2) 19 5 tk3) 19 5 tk4) 19 5 tk5) 19 5 tk6)) (L' := [some (.ref 19), some (.int 7), some (.int 37), some (.int 40)]) (st' := [.int 40]) (g_c dX2_nextWord_54 g_n) rfl rfl ?_
                refine V_ldcS1 C dX2_nextWord_55 ?_
                refine V_eq rfl rfl (st' := [.ref (100 + 1), .int 40]) rfl ?_
                refine V_callVs C (i := 1) cv_X2_110 (c_lenW (g_up (g_up (g_up (g_up (g_up (g_up (g_up (g_up (g_up σ 19 4 (nI (q_run (q_let (q_l (σ 20) n)) 160 i))) 19 5 2) 19 5 tk0) 19 5 tk1) 19 5 tk2) 19 5 tk3) 19 5 tk4) 19 5 tk5) 19 5 tk6)) (by decide) rfl (by decide) (by decide) (fun _ h => h) (As := []) (rest := [.int 40]) rfl rfl (Nat.le_of_ble_eq_true rfl) dX2_nextWord_57 ?_
                refine V_icmp_ge2 C (tgt := 111) dX2_nextWord_60 (by decide) (fun z => absurd z (by decide)) (fun _ => ?_)
                refine V_ldcS1 C dX2_nextWord_63 ?_
                refine V_eq rfl rfl (st' := [.ref (100 + 1)]) rfl ?_
                refine V_blk C (pc' := 66) (σ' := (g_up (g_up (g_up (g_up (g_up (g_up (g_up (g_up (g_up σ 19 4 (nI (q_run (q_let (q_l (σ 20) n)) 160 i))) 19 5 2) 19 5 tk0) 19 5 tk1) 19 5 tk2) 19 5 tk3) 19 5 tk4) 19 5 tk5) 19 5 tk6)) (L' := [some (.ref 19), some (.int 7), some (.int 37), some (.int 40)]) (st' := [.int 40, .ref (100 + 1)]) (g_c dX2_nextWord_65 g_n) rfl rfl ?_
                refine V_callVs C (i := 1) cv_X2_113 (c_chW (g_up (g_up (g_up (g_up (g_up (g_up (g_up (g_up (g_up σ 19 4 (nI (q_run (q_let (q_l (σ 20) n)) 160 i))) 19 5 2) 19 5 tk0) 19 5 tk1) 19 5 tk2) 19 5 tk3) 19 5 tk4) 19 5 tk5) 19 5 tk6) (k := 40) (c := 109) (by decide) (by decide)) (by decide) rfl (by decide) (by decide) (fun _ h => h) (As := [.int 40]) (rest := []) rfl rfl (Nat.le_of_ble_eq_true rfl) dX2_nextWord_66 ?_
                refine V_blk C (pc' := 71) (σ' := (g_up (g_up (g_up (g_up (g_up (g_up (g_up (g_up (g_up σ 19 4 (nI (q_run (q_let (q_l (σ 20) n)) 160 i))) 19 5 2) 19 5 tk0) 19 5 tk1) 19 5 tk2) 19 5 tk3) 19 5 tk4) 19 5 tk5) 19 5 tk6)) (L' := [some (.ref 19), some (.int 7), some (.int 37), some (.int 40)]) (st' := [.int 32, .int 109]) (g_c dX2_nextWord_69 g_n) rfl rfl ?_
                refine V_icmp_ne C (tgt := 105) dX2_nextWord_71 (by decide) (fun _ => ?_) (fun z => absurd z (by decide))
                refine V_blk C (pc' := 108) (σ' := (g_up (g_up (g_up (g_up (g_up (g_up (g_up (g_up (g_up σ 19 4 (nI (q_run (q_let (q_l (σ 20) n)) 160 i))) 19 5 2) 19 5 tk0) 19 5 tk1) 19 5 tk2) 19 5 tk3) 19 5 tk4) 19 5 tk5) 19 5 tk6)) (L' := [some (.ref 19), some (.int 7), some (.int 37), some (.int 41)]) (st' := []) (g_c dX2_nextWord_105 g_n) rfl rfl ?_
                refine V_goto C (tgt := 54) dX2_nextWord_108 (by decide) ?_
                refine V_blk C (pc' := 55) (σ' := (g_up (g_up (g_up (g_up (g_up (g_up (g_up (g_up (g_up σ 19 4 (nI (q_run (q_let (q_l (σ 20) n)) 160 i))) 19 5 2) 19 5 tk0) 19 5 tk1) 19 5 tk2) 19 5 tk3) 19 5 tk4) 19 5 tk5) 19 5 tk6)) (L' := [some (.ref 19), some (.int 7), some (.int 37), some (.int 41)]) (st' := [.int 41]) (g_c dX2_nextWord_54 g_n) rfl rfl ?_
                refine V_ldcS1 C dX2_nextWord_55 ?_
                refine V_eq rfl rfl (st' := [.ref (100 + 1), .int 41]) rfl ?_
                refine V_callVs C (i := 1) cv_X2_110 (c_lenW (g_up (g_up (g_up (g_up (g_up (g_up (g_up (g_up (g_up σ 19 4 (nI (q_run (q_let (q_l (σ 20) n)) 160 i))) 19 5 2) 19 5 tk0) 19 5 tk1) 19 5 tk2) 19 5 tk3) 19 5 tk4) 19 5 tk5) 19 5 tk6)) (by decide) rfl (by decide) (by decide) (fun _ h => h) (As := []) (rest := [.int 41]) rfl rfl (Nat.le_of_ble_eq_true rfl) dX2_nextWord_57 ?_
                refine V_icmp_ge2 C (tgt := 111) dX2_nextWord_60 (by decide) (fun z => absurd z (by decide)) (fun _ => ?_)
                refine V_ldcS1 C dX2_nextWord_63 ?_
                refine V_eq rfl rfl (st' := [.ref (100 + 1)]) rfl ?_
                refine V_blk C (pc' := 66) (σ' := (g_up (g_up (g_up (g_up (g_up (g_up (g_up (g_up (g_up σ 19 4 (nI (q_run (q_let (q_l (σ 20) n)) 160 i))) 19 5 2) 19 5 tk0) 19 5 tk1) 19 5 tk2) 19 5 tk3) 19 5 tk4) 19 5 tk5) 19 5 tk6)) (L' := [some (.ref 19), some (.int 7), some (.int 37), some (.int 41)]) (st' := [.int 41, .ref (100 + 1)]) (g_c dX2_nextWord_65 g_n) rfl rfl ?_
                refine V_callVs C (i := 1) cv_X2_113 (c_chW (g_up (g_up (g_up (g_up (g_up (g_up (g_up (g_up (g_up σ 19 4 (nI (q_run (q_let (q_l (σ 20) n)) 160 i))) 19 5 2) 19 5 tk0) 19 5 tk1) 19 5 tk2) 19 5 tk3) 19 5 tk4) 19 5 tk5) 19 5 tk6) (k := 41) (c := 115) (by decide) (by decide)) (by decide) rfl (by decide) (by decide) (fun _ h => h) (As := [.int 41]) (rest := []) rfl rfl (Nat.le_of_ble_eq_true rfl) dX2_nextWord_66 ?_
                refine V_blk C (pc' := 71) (σ' := (g_up (g_up (g_up (g_up (g_up (g_up (g_up (g_up (g_up σ 19 4 (nI (q_run (q_let (q_l (σ 20) n)) 160 i))) 19 5 2) 19 5 tk0) 19 5 tk1) 19 5 tk2) 19 5 tk3) 19 5 tk4) 19 5 tk5) 19 5 tk6)) (L' := [some (.ref 19), some (.int 7), some (.int 37), some (.int 41)]) (st' := [.int 32, .int 115]) (g_c dX2_nextWord_69 g_n) rfl rfl ?_
                refine V_icmp_ne C (tgt := 105) dX2_nextWord_71 (by decide) (fun _ => ?_) (fun z => absurd z (by decide))
                refine V_blk C (pc' := 108) (σ' := (g_up (g_up (g_up (g_up (g_up (g_up (g_up (g_up (g_up σ 19 4 (nI (q_run (q_let (q_l (σ 20) n)) 160 i))) 19 5 2) 19 5 tk0) 19 5 tk1) 19 5 tk2) 19 5 tk3) 19 5 tk4) 19 5 tk5) 19 5 tk6)) (L' := [some (.ref 19), some (.int 7), some (.int 37), some (.int 42)]) (st' := []) (g_c dX2_nextWord_105 g_n) rfl rfl ?_
                refine V_goto C (tgt := 54) dX2_nextWord_108 (by decide) ?_
                refine V_blk C (pc' := 55) (σ' := (g_up (g_up (g_up (g_up (g_up (g_up (g_up (g_up (g_up σ 19 4 (nI (q_run (q_let (q_l (σ 20) n)) 160 i))) 19 5 2) 19 5 tk0) 19 5 tk1) 19 5 tk2) 19 5 tk3) 19 5 tk4) 19 5 tk5) 19 5 tk6)) (L' := [some (.ref 19), some (.int 7), some (.int 37), some (.int 42)]) (st' := [.int 42]) (g_c dX2_nextWord_54 g_n) rfl rfl ?_
                refine V_ldcS1 C dX2_nextWord_55 ?_
                refine V_eq rfl rfl (st' := [.ref (100 + 1), .int 42]) rfl ?_
                refine V_callVs C (i := 1) cv_X2_110 (c_lenW (g_up (g_up (g_up (g_up (g_up (g_up (g_up (g_up (g_up σ 19 4 (nI (q_run (q_let (q_l (σ 20) n)) 160 i))) 19 5 2) 19 5 tk0) 19 5 tk1) 19 5 tk2) 19 5 tk3) 19 5 tk4) 19 5 tk5) 19 5 tk6)) (by decide) rfl (by decide) (by decide) (fun _ h => h) (As := []) (rest := [.int 42]) rfl rfl (Nat.le_of_ble_eq_true rfl) dX2_nextWord_57 ?_
                refine V_icmp_ge2 C (tgt := 111) dX2_nextWord_60 (by decide) (fun z => absurd z (by decide)) (fun _ => ?_)
                refine V_ldcS1 C dX2_nextWord_63 ?_
                refine V_eq rfl rfl (st' := [.ref (100 + 1)]) rfl ?_
                refine V_blk C (pc' := 66) (σ' := (g_up (g_up (g_up (g_up (g_up (g_up (g_up (g_up (g_up σ 19 4 (nI (q_run (q_let (q_l (σ 20) n)) 160 i))) 19 5 2) 19 5 tk0) 19 5 tk1) 19 5 tk2) 19 5 tk3) 19 5 tk4) 19 5 tk5) 19 5 tk6)) (L' := [some (.ref 19), some (.int 7), some (.int 37), some (.int 42)]) (st' := [.int 42, .ref (100 + 1)]) (g_c dX2_nextWord_65 g_n) rfl rfl ?_
                refine V_callVs C (i := 1) cv_X2_113 (c_chW (g_up (g_up (g_up (g_up (g_up (g_up (g_up (g_up (g_up σ 19 4 (nI (q_run (q_let (q_l (σ 20) n)) 160 i))) 19 5 2) 19 5 tk0) 19 5 tk1) 19 5 tk2) 19 5 tk3) 19 5 tk4) 19 5 tk5) 19 5 tk6) (k := 42) (c := 32) (by decide) (by decide)) (by decide) rfl (by decide) (by decide) (fun _ h => h) (As := [.int 42]) (rest := []) rfl rfl (Nat.le_of_ble_eq_true rfl) dX2_nextWord_66 ?_
                refine V_blk C (pc' := 71) (σ' := (g_up (g_up (g_up (g_up (g_up (g_up (g_up (g_up (g_up σ 19 4 (nI (q_run (q_let (q_l (σ 20) n)) 160 i))) 19 5 2) 19 5 tk0) 19 5 tk1) 19 5 tk2) 19 5 tk3) 19 5 tk4) 19 5 tk5) 19 5 tk6)) (L' := [some (.ref 19), some (.int 7), some (.int 37), some (.int 42)]) (st' := [.int 32, .int 32]) (g_c dX2_nextWord_69 g_n) rfl rfl ?_
                refine V_icmp_ne C (tgt := 105) dX2_nextWord_71 (by decide) (fun z => absurd z (by decide)) (fun _ => ?_)
                refine V_blk C (pc' := 78) (σ' := (g_up (g_up (g_up (g_up (g_up (g_up (g_up (g_up (g_up σ 19 4 (nI (q_run (q_let (q_l (σ 20) n)) 160 i))) 19 5 2) 19 5 tk0) 19 5 tk1) 19 5 tk2) 19 5 tk3) 19 5 tk4) 19 5 tk5) 19 5 tk6)) (L' := [some (.ref 19), some (.int 7), some (.int 37), some (.int 42)]) (st' := [.int 42, .int 37, .ref 19, .ref 19]) (g_c dX2_nextWord_74 (g_c dX2_nextWord_75 (g_c dX2_nextWord_76 (g_c dX2_nextWord_77 g_n)))) rfl rfl ?_
                refine V_callVI C cv_X2_117 (c_X2_isWord7 (g_up (g_up (g_up (g_up (g_up (g_up (g_up (g_up (g_up σ 19 4 (nI (q_run (q_let (q_l (σ 20) n)) 160 i))) 19 5 2) 19 5 tk0) 19 5 tk1) 19 5 tk2) 19 5 tk3) 19 5 tk4) 19 5 tk5) 19 5 tk6) hn hn160 hge hle rfl h6) ⟨_, _, _, _, rfl, rfl⟩ (by rfl) (by decide) (by decide) (fun _ h => h) (As := [.int 37, .int 42]) (rest := [.ref 19]) rfl rfl (Nat.le_of_ble_eq_true rfl) dX2_nextWord_78 ?_
                refine V_join (P := q_is (q_l (σ 20) n) i (q_run (q_let (q_l (σ 20) n)) 160 i) [104, 97, 114, 109, 115] = true) (a := 104) (b := tk6) (pcJ := 95) (rest := [.ref 19]) (fun tk7 htk7 => ?_) (fun kT kF => ?_)
                · skip
                  refine V_blk C (pc' := 108) (σ' := (g_up (g_up (g_up (g_up (g_up (g_up (g_up (g_up (g_up (g_up σ 19 4 (nI (q_run (q_let (q_l (σ 20) n)) 160 i))) 19 5 2) 19 5 tk0) 19 5 tk1) 19 5 tk2) 19 5 tk3) 19 5 tk4) 19 5 tk5) 19 5 tk6) 19 5 tk7)) (L' := [some (.ref 19), some (.int 8), some (.int 43), some (.int 43)]) (st' := []) (g_c dX2_nextWord_95 (g_c dX2_nextWord_98 (g_c dX2_nextWord_101 (g_c dX2_nextWord_102 (g_c dX2_nextWord_103 (g_c dX2_nextWord_104 (g_c dX2_nextWord_105 g_n))))))) rfl rfl ?_
                  refine V_goto C (tgt := 54) dX2_nextWord_108 (by decide) ?_
                  refine V_blk C (pc' := 55) (σ' := (g_up (g_up (g_up (g_up (g_up (g_up (g_up (g_up (g_up (g_up σ 19 4 (nI (q_run (q_let (q_l (σ 20) n)) 160 i))) 19 5 2) 19 5 tk0) 19 5 tk1) 19 5 tk2) 19 5 tk3) 19 5 tk4) 19 5 tk5) 19 5 tk6) 19 5 tk7)) (L' := [some (.ref 19), some (.int 8), some (.int 43), some (.int 43)]) (st' := [.int 43]) (g_c dX2_nextWord_54 g_n) rfl rfl ?_
                  refine V_ldcS1 C dX2_nextWord_55 ?_
                  refine V_eq rfl rfl (st' := [.ref (100 + 1), .int 43]) rfl ?_
                  refine V_callVs C (i := 1) cv_X2_110 (c_lenW (g_up (g_up (g_up (g_up (g_up (g_up (g_up (g_up (g_up (g_up σ 19 4 (nI (q_run (q_let (q_l (σ 20) n)) 160 i))) 19 5 2) 19 5 tk0) 19 5 tk1) 19 5 tk2) 19 5 tk3) 19 5 tk4) 19 5 tk5) 19 5 tk6) 19 5 tk7)) (by decide) rfl (by decide) (by decide) (fun _ h => h) (As := []) (rest := [.int 43]) rfl rfl (Nat.le_of_ble_eq_true rfl) dX2_nextWord_57 ?_
                  refine V_icmp_ge2 C (tgt := 111) dX2_nextWord_60 (by decide) (fun z => absurd z (by decide)) (fun _ => ?_)
                  refine V_ldcS1 C dX2_nextWord_63 ?_
                  refine V_eq rfl rfl (st' := [.ref (100 + 1)]) rfl ?_
                  refine V_blk C (pc' := 66) (σ' := (g_up (g_up (g_up (g_up (g_up (g_up (g_up (g_up (g_up (g_up σ 19 4 (nI (q_run (q_let (q_l (σ 20) n)) 160 i))) 19 5 2) 19 5 tk0) 19 5 tk1) 19 5 tk2) 19 5 tk3) 19 5 tk4) 19 5 tk5) 19 5 tk6) 19 5 tk7)) (L' := [some (.ref 19), some (.int 8), some (.int 43), some (.int 43)]) (st' := [.int 43, .ref (100 + 1)]) (g_c dX2_nextWord_65 g_n) rfl rfl ?_
                  refine V_callVs C (i := 1) cv_X2_113 (c_chW (g_up (g_up (g_up (g_up (g_up (g_up (g_up (g_up (g_up (g_up σ 19 4 (nI (q_run (q_let (q_l (σ 20) n)) 160 i))) 19 5 2) 19 5 tk0) 19 5 tk1) 19 5 tk2) 19 5 tk3) 19 5 tk4) 19 5 tk5) 19 5 tk6) 19 5 tk7) (k := 43) (c := 119) (by decide) (by decide)) (by decide) rfl (by decide) (by decide) (fun _ h => h) (As := [.int 43]) (rest := []) rfl rfl (Nat.le_of_ble_eq_true rfl) dX2_nextWord_66 ?_
                  refine V_blk C (pc' := 71) (σ' := (g_up (g_up (g_up (g_up (g_up (g_up (g_up (g_up (g_up (g_up σ 19 4 (nI (q_run (q_let (q_l (σ 20) n)) 160 i))) 19 5 2) 19 5 tk0) 19 5 tk1) 19 5 tk2) 19 5 tk3) 19 5 tk4) 19 5 tk5) 19 5 tk6) 19 5 tk7)) (L' := [some (.ref 19), some (.int 8), some (.int 43), some (.int 43)]) (st' := [.int 32, .int 119]) (g_c dX2_nextWord_69 g_n) rfl rfl ?_
                  refine V_icmp_ne C (tgt := 105) dX2_nextWord_71 (by decide) (fun _ => ?_) (fun z => absurd z (by decide))
                  refine V_blk C (pc' := 108) (σ' := (g_up (g_up (g_up (g_up (g_up (g_up (g_up (g_up (g_up (g_up σ 19 4 (nI (q_run (q_let (q_l (σ 20) n)) 160 i))) 19 5 2) 19 5 tk0) 19 5 tk1) 19 5 tk2) 19 5 tk3) 19 5 tk4) 19 5 tk5) 19 5 tk6) 19 5 tk7)) (L' := [some (.ref 19), some (.int 8), some (.int 43), some (.int 44)]) (st' := []) (g_c dX2_nextWord_105 g_n) rfl rfl ?_
                  refine V_goto C (tgt := 54) dX2_nextWord_108 (by decide) ?_
                  refine V_blk C (pc' := 55) (σ' := (g_up (g_up (g_up (g_up (g_up (g_up (g_up (g_up (g_up (g_up σ 19 4 (nI (q_run (q_let (q_l (σ 20) n)) 160 i))) 19 5 2) 19 5 tk0) 19 5 tk1) 19 5 tk2) 19 5 tk3) 19 5 tk4) 19 5 tk5) 19 5 tk6) 19 5 tk7)) (L' := [some (.ref 19), some (.int 8), some (.int 43), some (.int 44)]) (st' := [.int 44]) (g_c dX2_nextWord_54 g_n) rfl rfl ?_
                  refine V_ldcS1 C dX2_nextWord_55 ?_
                  refine V_eq rfl rfl (st' := [.ref (100 + 1), .int 44]) rfl ?_
                  refine V_callVs C (i := 1) cv_X2_110 (c_lenW (g_up (g_up (g_up (g_up (g_up (g_up (g_up (g_up (g_up (g_up σ 19 4 (nI (q_run (q_let (q_l (σ 20) n)) 160 i))) 19 5 2) 19 5 tk0) 19 5 tk1) 19 5 tk2) 19 5 tk3) 19 5 tk4) 19 5 tk5) 19 5 tk6) 19 5 tk7)) (by decide) rfl (by decide) (by decide) (fun _ h => h) (As := []) (rest := [.int 44]) rfl rfl (Nat.le_of_ble_eq_true rfl) dX2_nextWord_57 ?_
                  refine V_icmp_ge2 C (tgt := 111) dX2_nextWord_60 (by decide) (fun z => absurd z (by decide)) (fun _ => ?_)
                  refine V_ldcS1 C dX2_nextWord_63 ?_
                  refine V_eq rfl rfl (st' := [.ref (100 + 1)]) rfl ?_
                  refine V_blk C (pc' := 66) (σ' := (g_up (g_up (g_up (g_up (g_up (g_up (g_up (g_up (g_up (g_up σ 19 4 (nI (q_run (q_let (q_l (σ 20) n)) 160 i))) 19 5 2) 19 5 tk0) 19 5 tk1) 19 5 tk2) 19 5 tk3) 19 5 tk4) 19 5 tk5) 19 5 tk6) 19 5 tk7)) (L' := [some (.ref 19), some (.int 8), some (.int 43), some (.int 44)]) (st' := [.int 44, .ref (100 + 1)]) (g_c dX2_nextWord_65 g_n) rfl rfl ?_
                  refine V_callVs C (i := 1) cv_X2_113 (c_chW (g_up (g_up (g_up (g_up (g_up (g_up (g_up (g_up (g_up (g_up σ 19 4 (nI (q_run (q_let (q_l (σ 20) n)) 160 i))) 19 5 2) 19 5 tk0) 19 5 tk1) 19 5 tk2) 19 5 tk3) 19 5 tk4) 19 5 tk5) 19 5 tk6) 19 5 tk7) (k := 44) (c := 97) (by decide) (by decide)) (by decide) rfl (by decide) (by decide) (fun _ h => h) (As := [.int 44]) (rest := []) rfl rfl (Nat.le_of_ble_eq_true rfl) dX2_nextWord_66 ?_
                  refine V_blk C (pc' := 71) (σ' := (g_up (g_up (g_up (g_up (g_up (g_up (g_up (g_up (g_up (g_up σ 19 4 (nI (q_run (q_let (q_l (σ 20) n)) 160 i))) 19 5 2) 19 5 tk0) 19 5 tk1) 19 5 tk2) 19 5 tk3) 19 5 tk4) 19 5 tk5) 19 5 tk6) 19 5 tk7)) (L' := [some (.ref 19), some (.int 8), some (.int 43), some (.int 44)]) (st' := [.int 32, .int 97]) (g_c dX2_nextWord_69 g_n) rfl rfl ?_
                  refine V_icmp_ne C (tgt := 105) dX2_nextWord_71 (by decide) (fun _ => ?_) (fun z => absurd z (by decide))
                  refine V_blk C (pc' := 108) (σ' := (g_up (g_up (g_up (g_up (g_up (g_up (g_up (g_up (g_up (g_up σ 19 4 (nI (q_run (q_let (q_l (σ 20) n)) 160 i))) 19 5 2) 19 5 tk0) 19 5 tk1) 19 5 tk2) 19 5 tk3) 19 5 tk4) 19 5 tk5) 19 5 tk6) 19 5 tk7)) (L' := [some (.ref 19), some (.int 8), some (.int 43), some (.int 45)]) (st' := []) (g_c dX2_nextWord_105 g_n) rfl rfl ?_
                  refine V_goto C (tgt := 54) dX2_nextWord_108 (by decide) ?_
                  refine V_blk C (pc' := 55) (σ' := (g_up (g_up (g_up (g_up (g_up (g_up (g_up (g_up (g_up (g_up σ 19 4 (nI (q_run (q_let (q_l (σ 20) n)) 160 i))) 19 5 2) 19 5 tk0) 19 5 tk1) 19 5 tk2) 19 5 tk3) 19 5 tk4) 19 5 tk5) 19 5 tk6) 19 5 tk7)) (L' := [some (.ref 19), some (.int 8), some (.int 43), some (.int 45)]) (st' := [.int 45]) (g_c dX2_nextWord_54 g_n) rfl rfl ?_
                  refine V_ldcS1 C dX2_nextWord_55 ?_
                  refine V_eq rfl rfl (st' := [.ref (100 + 1), .int 45]) rfl ?_
                  refine V_callVs C (i := 1) cv_X2_110 (c_lenW (g_up (g_up (g_up (g_up (g_up (g_up (g_up (g_up (g_up (g_up σ 19 4 (nI (q_run (q_let (q_l (σ 20) n)) 160 i))) 19 5 2) 19 5 tk0) 19 5 tk1) 19 5 tk2) 19 5 tk3) 19 5 tk4) 19 5 tk5) 19 5 tk6) 19 5 tk7)) (by decide) rfl (by decide) (by decide) (fun _ h => h) (As := []) (rest := [.int 45]) rfl rfl (Nat.le_of_ble_eq_true rfl) dX2_nextWord_57 ?_
                  refine V_icmp_ge2 C (tgt := 111) dX2_nextWord_60 (by decide) (fun z => absurd z (by decide)) (fun _ => ?_)
                  refine V_ldcS1 C dX2_nextWord_63 ?_
                  refine V_eq rfl rfl (st' := [.ref (100 + 1)]) rfl ?_
                  refine V_blk C (pc' := 66) (σ' := (g_up (g_up (g_up (g_up (g_up (g_up (g_up (g_up (g_up (g_up σ 19 4 (nI (q_run (q_let (q_l (σ 20) n)) 160 i))) 19 5 2) 19 5 tk0) 19 5 tk1) 19 5 tk2) 19 5 tk3) 19 5 tk4) 19 5 tk5) 19 5 tk6) 19 5 tk7)) (L' := [some (.ref 19), some (.int 8), some (.int 43), some (.int 45)]) (st' := [.int 45, .ref (100 + 1)]) (g_c dX2_nextWord_65 g_n) rfl rfl ?_
                  refine V_callVs C (i := 1) cv_X2_113 (c_chW (g_up (g_up (g_up (g_up (g_up (g_up (g_up (g_up (g_up (g_up σ 19 4 (nI (q_run (q_let (q_l (σ 20) n)) 160 i))) 19 5 2) 19 5 tk0) 19 5 tk1) 19 5 tk2) 19 5 tk3) 19 5 tk4) 19 5 tk5) 19 5 tk6) 19 5 tk7) (k := 45) (c := 107) (by decide) (by decide)) (by decide) rfl (by decide) (by decide) (fun _ h => h) (As := [.int 45]) (rest := []) rfl rfl (Nat.le_of_ble_eq_true rfl) dX2_nextWord_66 ?_
                  refine V_blk C (pc' := 71) (σ' := (g_up (g_up (g_up (g_up (g_up (g_up (g_up (g_up (g_up (g_up σ 19 4 (nI (q_run (q_let (q_l (σ 20) n)) 160 i))) 19 5 2) 19 5 tk0) 19 5 tk1) 19 5 tk2) 19 5 tk3) 19 5 tk4) 19 5 tk5) 19 5 tk6) 19 5 tk7)) (L' := [some (.ref 19), some (.int 8), some (.int 43), some (.int 45)]) (st' := [.int 32, .int 107]) (g_c dX2_nextWord_69 g_n) rfl rfl ?_
                  refine V_icmp_ne C (tgt := 105) dX2_nextWord_71 (by decide) (fun _ => ?_) (fun z => absurd z (by decide))
                  refine V_blk C (pc' := 108) (σ' := (g_up (g_up (g_up (g_up (g_up (g_up (g_up (g_up (g_up (g_up σ 19 4 (nI (q_run (q_let (q_l (σ 20) n)) 160 i))) 19 5 2) 19 5 tk0) 19 5 tk1) 19 5 tk2) 19 5 tk3) 19 5 tk4) 19 5 tk5) 19 5 tk6) 19 5 tk7)) (L' := [some (.ref 19), some (.int 8), some (.int 43), some (.int 46)]) (st' := []) (g_c dX2_nextWord_105 g_n) rfl rfl ?_
                  refine V_goto C (tgt := 54) dX2_nextWord_108 (by decide) ?_
                  refine V_blk C (pc' := 55) (σ' := (g_up (g_up (g_up (g_up (g_up (g_up (g_up (g_up (g_up (g_up σ 19 4 (nI (q_run (q_let (q_l (σ 20) n)) 160 i))) 19 5 2) 19 5 tk0) 19 5 tk1) 19 5 tk2) 19 5 tk3) 19 5 tk4) 19 5 tk5) 19 5 tk6) 19 5 tk7)) (L' := [some (.ref 19), some (.int 8), some (.int 43), some (.int 46)]) (st' := [.int 46]) (g_c dX2_nextWord_54 g_n) rfl rfl ?_
                  refine V_ldcS1 C dX2_nextWord_55 ?_
                  refine V_eq rfl rfl (st' := [.ref (100 + 1), .int 46]) rfl ?_
                  refine V_callVs C (i := 1) cv_X2_110 (c_lenW (g_up (g_up (g_up (g_up (g_up (g_up (g_up (g_up (g_up (g_up σ 19 4 (nI (q_run (q_let (q_l (σ 20) n)) 160 i))) 19 5 2) 19 5 tk0) 19 5 tk1) 19 5 tk2) 19 5 tk3) 19 5 tk4) 19 5 tk5) 19 5 tk6) 19 5 tk7)) (by decide) rfl (by decide) (by decide) (fun _ h => h) (As := []) (rest := [.int 46]) rfl rfl (Nat.le_of_ble_eq_true rfl) dX2_nextWord_57 ?_
                  refine V_icmp_ge2 C (tgt := 111) dX2_nextWord_60 (by decide) (fun z => absurd z (by decide)) (fun _ => ?_)
                  refine V_ldcS1 C dX2_nextWord_63 ?_
                  refine V_eq rfl rfl (st' := [.ref (100 + 1)]) rfl ?_
                  refine V_blk C (pc' := 66) (σ' := (g_up (g_up (g_up (g_up (g_up (g_up (g_up (g_up (g_up (g_up σ 19 4 (nI (q_run (q_let (q_l (σ 20) n)) 160 i))) 19 5 2) 19 5 tk0) 19 5 tk1) 19 5 tk2) 19 5 tk3) 19 5 tk4) 19 5 tk5) 19 5 tk6) 19 5 tk7)) (L' := [some (.ref 19), some (.int 8), some (.int 43), some (.int 46)]) (st' := [.int 46, .ref (100 + 1)]) (g_c dX2_nextWord_65 g_n) rfl rfl ?_
                  refine V_callVs C (i := 1) cv_X2_113 (c_chW (g_up (g_up (g_up (g_up (g_up (g_up (g_up (g_up (g_up (g_up σ 19 4 (nI (q_run (q_let (q_l (σ 20) n)) 160 i))) 19 5 2) 19 5 tk0) 19 5 tk1) 19 5 tk2) 19 5 tk3) 19 5 tk4) 19 5 tk5) 19 5 tk6) 19 5 tk7) (k := 46) (c := 101) (by decide) (by decide)) (by decide) rfl (by decide) (by decide) (fun _ h => h) (As := [.int 46]) (rest := []) rfl rfl (Nat.le_of_ble_eq_true rfl) dX2_nextWord_66 ?_
                  refine V_blk C (pc' := 71) (σ' := (g_up (g_up (g_up (g_up (g_up (g_up (g_up (g_up (g_up (g_up σ 19 4 (nI (q_run (q_let (q_l (σ 20) n)) 160 i))) 19 5 2) 19 5 tk0) 19 5 tk1) 19 5 tk2) 19 5 tk3) 19 5 tk4) 19 5 tk5) 19 5 tk6) 19 5 tk7)) (L' := [some (.ref 19), some (.int 8), some (.int 43), some (.int 46)]) (st' := [.int 32, .int 101]) (g_c dX2_nextWord_69 g_n) rfl rfl ?_
                  refine V_icmp_ne C (tgt := 105) dX2_nextWord_71 (by decide) (fun _ => ?_) (fun z => absurd z (by decide))
                  refine V_blk C (pc' := 108) (σ' := (g_up (g_up (g_up (g_up (g_up (g_up (g_up (g_up (g_up (g_up σ 19 4 (nI (q_run (q_let (q_l (σ 20) n)) 160 i))) 19 5 2) 19 5 tk0) 19 5 tk1) 19 5 tk2) 19 5 tk3) 19 5 tk4) 19 5 tk5) 19 5 tk6) 19 5 tk7)) (L' := [some (.ref 19), some (.int 8), some (.int 43), some (.int 47)]) (st' := []) (g_c dX2_nextWord_105 g_n) rfl rfl ?_
                  refine V_goto C (tgt := 54) dX2_nextWord_108 (by decide) ?_
                  refine V_blk C (pc' := 55) (σ' := (g_up (g_up (g_up (g_up (g_up (g_up (g_up (g_up (g_up (g_up σ 19 4 (nI (q_run (q_let (q_l (σ 20) n)) 160 i))) 19 5 2) 19 5 tk0) 19 5 tk1) 19 5 tk2) 19 5 tk3) 19 5 tk4) 19 5 tk5) 19 5 tk6) 19 5 tk7)) (L' := [some (.ref 19), some (.int 8), some (.int 43), some (.int 47)]) (st' := [.int 47]) (g_c dX2_nextWord_54 g_n) rfl rfl ?_
                  refine V_ldcS1 C dX2_nextWord_55 ?_
                  refine V_eq rfl rfl (st' := [.ref (100 + 1), .int 47]) rfl ?_
                  refine V_callVs C (i := 1) cv_X2_110 (c_lenW (g_up (g_up (g_up (g_up (g_up (g_up (g_up (g_up (g_up (g_up σ 19 4 (nI (q_run (q_let (q_l (σ 20) n)) 160 i))) 19 5 2) 19 5 tk0) 19 5 tk1) 19 5 tk2) 19 5 tk3) 19 5 tk4) 19 5 tk5) 19 5 tk6) 19 5 tk7)) (by decide) rfl (by decide) (by decide) (fun _ h => h) (As := []) (rest := [.int 47]) rfl rfl (Nat.le_of_ble_eq_true rfl) dX2_nextWord_57 ?_
                  refine V_icmp_ge2 C (tgt := 111) dX2_nextWord_60 (by decide) (fun z => absurd z (by decide)) (fun _ => ?_)
                  refine V_ldcS1 C dX2_nextWord_63 ?_
                  refine V_eq rfl rfl (st' := [.ref (100 + 1)]) rfl ?_
                  refine V_blk C (pc' := 66) (σ' := (g_up (g_up (g_up (g_up (g_up (g_up (g_up (g_up (g_up (g_up σ 19 4 (nI (q_run (q_let (q_l (σ 20) n)) 160 i))) 19 5 2) 19 5 tk0) 19 5 tk1) 19 5 tk2) 19 5 tk3) 19 5 tk4) 19 5 tk5) 19 5 tk6) 19 5 tk7)) (L' := [some (.ref 19), some (.int 8), some (.int 43), some (.int 47)]) (st' := [.int 47, .ref (100 + 1)]) (g_c dX2_nextWord_65 g_n) rfl rfl ?_
                  refine V_callVs C (i := 1) cv_X2_113 (c_chW (g_up (g_up (g_up (g_up (g_up (g_up (g_up (g_up (g_up (g_up σ 19 4 (nI (q_run (q_let (q_l (σ 20) n)) 160 i))) 19 5 2) 19 5 tk0) 19 5 tk1) 19 5 tk2) 19 5 tk3) 19 5 tk4) 19 5 tk5) 19 5 tk6) 19 5 tk7) (k := 47) (c := 115) (by decide) (by decide)) (by decide) rfl (by decide) (by decide) (fun _ h => h) (As := [.int 47]) (rest := []) rfl rfl (Nat.le_of_ble_eq_true rfl) dX2_nextWord_66 ?_
                  refine V_blk C (pc' := 71) (σ' := (g_up (g_up (g_up (g_up (g_up (g_up (g_up (g_up (g_up (g_up σ 19 4 (nI (q_run (q_let (q_l (σ 20) n)) 160 i))) 19 5 2) 19 5 tk0) 19 5 tk1) 19 5 tk2) 19 5 tk3) 19 5 tk4) 19 5 tk5) 19 5 tk6) 19 5 tk7)) (L' := [some (.ref 19), some (.int 8), some (.int 43), some (.int 47)]) (st' := [.int 32, .int 115]) (g_c dX2_nextWord_69 g_n) rfl rfl ?_
                  refine V_icmp_ne C (tgt := 105) dX2_nextWord_71 (by decide) (fun _ => ?_) (fun z => absurd z (by decide))
                  refine V_blk C (pc' := 108) (σ' := (g_up (g_up (g_up (g_up (g_up (g_up (g_up (g_up (g_up (g_up σ 19 4 (nI (q_run (q_let (q_l (σ 20) n)) 160 i))) 19 5 2) 19 5 tk0) 19 5 tk1) 19 5 tk2) 19 5 tk3) 19 5 tk4) 19 5 tk5) 19 5 tk6) 19 5 tk7)) (L' := [some (.ref 19), some (.int 8), some (.int 43), some (.int 48)]) (st' := []) (g_c dX2_nextWord_105 g_n) rfl rfl ?_
                  refine V_goto C (tgt := 54) dX2_nextWord_108 (by decide) ?_
                  refine V_blk C (pc' := 55) (σ' := (g_up (g_up (g_up (g_up (g_up (g_up (g_up (g_up (g_up (g_up σ 19 4 (nI (q_run (q_let (q_l (σ 20) n)) 160 i))) 19 5 2) 19 5 tk0) 19 5 tk1) 19 5 tk2) 19 5 tk3) 19 5 tk4) 19 5 tk5) 19 5 tk6) 19 5 tk7)) (L' := [some (.ref 19), some (.int 8), some (.int 43), some (.int 48)]) (st' := [.int 48]) (g_c dX2_nextWord_54 g_n) rfl rfl ?_
                  refine V_ldcS1 C dX2_nextWord_55 ?_
                  refine V_eq rfl rfl (st' := [.ref (100 + 1), .int 48]) rfl ?_
                  refine V_callVs C (i := 1) cv_X2_110 (c_lenW (g_up (g_up (g_up (g_up (g_up (g_up (g_up (g_up (g_up (g_up σ 19 4 (nI (q_run (q_let (q_l (σ 20) n)) 160 i))) 19 5 2) 19 5 tk0) 19 5 tk1) 19 5 tk2) 19 5 tk3) 19 5 tk4) 19 5 tk5) 19 5 tk6) 19 5 tk7)) (by decide) rfl (by decide) (by decide) (fun _ h => h) (As := []) (rest := [.int 48]) rfl rfl (Nat.le_of_ble_eq_true rfl) dX2_nextWord_57 ?_
                  refine V_icmp_ge2 C (tgt := 111) dX2_nextWord_60 (by decide) (fun z => absurd z (by decide)) (fun _ => ?_)
                  refine V_ldcS1 C dX2_nextWord_63 ?_
                  refine V_eq rfl rfl (st' := [.ref (100 + 1)]) rfl ?_
                  refine V_blk C (pc' := 66) (σ' := (g_up (g_up (g_up (g_up (g_up (g_up (g_up (g_up (g_up (g_up σ 19 4 (nI (q_run (q_let (q_l (σ 20) n)) 160 i))) 19 5 2) 19 5 tk0) 19 5 tk1) 19 5 tk2) 19 5 tk3) 19 5 tk4) 19 5 tk5) 19 5 tk6) 19 5 tk7)) (L' := [some (.ref 19), some (.int 8), some (.int 43), some (.int 48)]) (st' := [.int 48, .ref (100 + 1)]) (g_c dX2_nextWord_65 g_n) rfl rfl ?_
                  refine V_callVs C (i := 1) cv_X2_113 (c_chW (g_up (g_up (g_up (g_up (g_up (g_up (g_up (g_up (g_up (g_up σ 19 4 (nI (q_run (q_let (q_l (σ 20) n)) 160 i))) 19 5 2) 19 5 tk0) 19 5 tk1) 19 5 tk2) 19 5 tk3) 19 5 tk4) 19 5 tk5) 19 5 tk6) 19 5 tk7) (k := 48) (c := 32) (by decide) (by decide)) (by decide) rfl (by decide) (by decide) (fun _ h => h) (As := [.int 48]) (rest := []) rfl rfl (Nat.le_of_ble_eq_true rfl) dX2_nextWord_66 ?_
                  refine V_blk C (pc' := 71) (σ' := (g_up (g_up (g_up (g_up (g_up (g_up (g_up (g_up (g_up (g_up σ 19 4 (nI (q_run (q_let (q_l (σ 20) n)) 160 i))) 19 5 2) 19 5 tk0) 19 5 tk1) 19 5 tk2) 19 5 tk3) 19 5 tk4) 19 5 tk5) 19 5 tk6) 19 5 tk7)) (L' := [some (.ref 19), some (.int 8), some (.int 43), some (.int 48)]) (st' := [.int 32, .int 32]) (g_c dX2_nextWord_69 g_n) rfl rfl ?_
                  refine V_icmp_ne C (tgt := 105) dX2_nextWord_71 (by decide) (fun z => absurd z (by decide)) (fun _ => ?_)
                  refine V_blk C (pc' := 78) (σ' := (g_up (g_up (g_up (g_up (g_up (g_up (g_up (g_up (g_up (g_up σ 19 4 (nI (q_run (q_let (q_l (σ 20) n)) 160 i))) 19 5 2) 19 5 tk0) 19 5 tk1) 19 5 tk2) 19 5 tk3) 19 5 tk4) 19 5 tk5) 19 5 tk6) 19 5 tk7)) (L' := [some (.ref 19), some (.int 8), some (.int 43), some (.int 48)]) (st' := [.int 48, .int 43, .ref 19, .ref 19]) (g_c dX2_nextWord_74 (g_c dX2_nextWord_75 (g_c dX2_nextWord_76 (g_c dX2_nextWord_77 g_n)))) rfl rfl ?_
                  refine V_callVI C cv_X2_117 (c_X2_isWord8 (g_up (g_up (g_up (g_up (g_up (g_up (g_up (g_up (g_up (g_up σ 19 4 (nI (q_run (q_let (q_l (σ 20) n)) 160 i))) 19 5 2) 19 5 tk0) 19 5 tk1) 19 5 tk2) 19 5 tk3) 19 5 tk4) 19 5 tk5) 19 5 tk6) 19 5 tk7) hn hn160 hge hle rfl h6) ⟨_, _, _, _, rfl, rfl⟩ (by rfl) (by decide) (by decide) (fun _ h => h) (As := [.int 43, .int 48]) (rest := [.ref 19]) rfl rfl (Nat.le_of_ble_eq_true rfl) dX2_nextWord_78 ?_
                  refine V_join (P := q_is (q_l (σ 20) n) i (q_run (q_let (q_l (σ 20) n)) 160 i) [119, 97, 107, 101, 115] = true) (a := 105) (b := tk7) (pcJ := 95) (rest := [.ref 19]) (fun tk8 htk8 => ?_) (fun kT kF => ?_)
                  · skip
                    refine V_blk C (pc' := 108) (σ' := (g_up (g_up (g_up (g_up (g_up (g_up (g_up (g_up (g_up (g_up (g_up σ 19 4 (nI (q_run (q_let (q_l (σ 20) n)) 160 i))) 19 5 2) 19 5 tk0) 19 5 tk1) 19 5 tk2) 19 5 tk3) 19 5 tk4) 19 5 tk5) 19 5 tk6) 19 5 tk7) 19 5 tk8)) (L' := [some (.ref 19), some (.int 9), some (.int 49), some (.int 49)]) (st' := []) (g_c dX2_nextWord_95 (g_c dX2_nextWord_98 (g_c dX2_nextWord_101 (g_c dX2_nextWord_102 (g_c dX2_nextWord_103 (g_c dX2_nextWord_104 (g_c dX2_nextWord_105 g_n))))))) rfl rfl ?_
                    refine V_goto C (tgt := 54) dX2_nextWord_108 (by decide) ?_
                    refine V_blk C (pc' := 55) (σ' := (g_up (g_up (g_up (g_up (g_up (g_up (g_up (g_up (g_up (g_up (g_up σ 19 4 (nI (q_run (q_let (q_l (σ 20) n)) 160 i))) 19 5 2) 19 5 tk0) 19 5 tk1) 19 5 tk2) 19 5 tk3) 19 5 tk4) 19 5 tk5) 19 5 tk6) 19 5 tk7) 19 5 tk8)) (L' := [some (.ref 19), some (.int 9), some (.int 49), some (.int 49)]) (st' := [.int 49]) (g_c dX2_nextWord_54 g_n) rfl rfl ?_
                    refine V_ldcS1 C dX2_nextWord_55 ?_
                    refine V_eq rfl rfl (st' := [.ref (100 + 1), .int 49]) rfl ?_
                    refine V_callVs C (i := 1) cv_X2_110 (c_lenW (g_up (g_up (g_up (g_up (g_up (g_up (g_up (g_up (g_up (g_up (g_up σ 19 4 (nI (q_run (q_let (q_l (σ 20) n)) 160 i))) 19 5 2) 19 5 tk0) 19 5 tk1) 19 5 tk2) 19 5 tk3) 19 5 tk4) 19 5 tk5) 19 5 tk6) 19 5 tk7) 19 5 tk8)) (by decide) rfl (by decide) (by decide) (fun _ h => h) (As := []) (rest := [.int 49]) rfl rfl (Nat.le_of_ble_eq_true rfl) dX2_nextWord_57 ?_
                    refine V_icmp_ge2 C (tgt := 111) dX2_nextWord_60 (by decide) (fun z => absurd z (by decide)) (fun _ => ?_)
                    refine V_ldcS1 C dX2_nextWord_63 ?_
                    refine V_eq rfl rfl (st' := [.ref (100 + 1)]) rfl ?_
                    refine V_blk C (pc' := 66) (σ' := (g_up (g_up (g_up (g_up (g_up (g_up (g_up (g_up (g_up (g_up (g_up σ 19 4 (nI (q_run (q_let (q_l (σ 20) n)) 160 i))) 19 5 2) 19 5 tk0) 19 5 tk1) 19 5 tk2) 19 5 tk3) 19 5 tk4) 19 5 tk5) 19 5 tk6) 19 5 tk7) 19 5 tk8)) (L' := [some (.ref 19), some (.int 9), some (.int 49), some (.int 49)]) (st' := [.int 49, .ref (100 + 1)]) (g_c dX2_nextWord_65 g_n) rfl rfl ?_
                    refine V_callVs C (i := 1) cv_X2_113 (c_chW (g_up (g_up (g_up (g_up (g_up (g_up (g_up (g_up (g_up (g_up (g_up σ 19 4 (nI (q_run (q_let (q_l (σ 20) n)) 160 i))) 19 5 2) 19 5 tk0) 19 5 tk1) 19 5 tk2) 19 5 tk3) 19 5 tk4) 19 5 tk5) 19 5 tk6) 19 5 tk7) 19 5 tk8) (k := 49) (c := 111) (by decide) (by decide)) (by decide) rfl (by decide) (by decide) (fun _ h => h) (As := [.int 49]) (rest := []) rfl rfl (Nat.le_of_ble_eq_true rfl) dX2_nextWord_66 ?_
                    refine V_blk C (pc' := 71) (σ' := (g_up (g_up (g_up (g_up (g_up (g_up (g_up (g_up (g_up (g_up (g_up σ 19 4 (nI (q_run (q_let (q_l (σ 20) n)) 160 i))) 19 5 2) 19 5 tk0) 19 5 tk1) 19 5 tk2) 19 5 tk3) 19 5 tk4) 19 5 tk5) 19 5 tk6) 19 5 tk7) 19 5 tk8)) (L' := [some (.ref 19), some (.int 9), some (.int 49), some (.int 49)]) (st' := [.int 32, .int 111]) (g_c dX2_nextWord_69 g_n) rfl rfl ?_
                    refine V_icmp_ne C (tgt := 105) dX2_nextWord_71 (by decide) (fun _ => ?_) (fun z => absurd z (by decide))
                    refine V_blk C (pc' := 108) (σ' := (g_up (g_up (g_up (g_up (g_up (g_up (g_up (g_up (g_up (g_up (g_up σ 19 4 (nI (q_run (q_let (q_l (σ 20) n)) 160 i))) 19 5 2) 19 5 tk0) 19 5 tk1) 19 5 tk2) 19 5 tk3) 19 5 tk4) 19 5 tk5) 19 5 tk6) 19 5 tk7) 19 5 tk8)) (L' := [some (.ref 19), some (.int 9), some (.int 49), some (.int 50)]) (st' := []) (g_c dX2_nextWord_105 g_n) rfl rfl ?_
                    refine V_goto C (tgt := 54) dX2_nextWord_108 (by decide) ?_
                    refine V_blk C (pc' := 55) (σ' := (g_up (g_up (g_up (g_up (g_up (g_up (g_up (g_up (g_up (g_up (g_up σ 19 4 (nI (q_run (q_let (q_l (σ 20) n)) 160 i))) 19 5 2) 19 5 tk0) 19 5 tk1) 19 5 tk2) 19 5 tk3) 19 5 tk4) 19 5 tk5) 19 5 tk6) 19 5 tk7) 19 5 tk8)) (L' := [some (.ref 19), some (.int 9), some (.int 49), some (.int 50)]) (st' := [.int 50]) (g_c dX2_nextWord_54 g_n) rfl rfl ?_
                    refine V_ldcS1 C dX2_nextWord_55 ?_
                    refine V_eq rfl rfl (st' := [.ref (100 + 1), .int 50]) rfl ?_
                    refine V_callVs C (i := 1) cv_X2_110 (c_lenW (g_up (g_up (g_up (g_up (g_up (g_up (g_up (g_up (g_up (g_up (g_up σ 19 4 (nI (q_run (q_let (q_l (σ 20) n)) 160 i))) 19 5 2) 19 5 tk0) 19 5 tk1) 19 5 tk2) 19 5 tk3) 19 5 tk4) 19 5 tk5) 19 5 tk6) 19 5 tk7) 19 5 tk8)) (by decide) rfl (by decide) (by decide) (fun _ h => h) (As := []) (rest := [.int 50]) rfl rfl (Nat.le_of_ble_eq_true rfl) dX2_nextWord_57 ?_
                    refine V_icmp_ge2 C (tgt := 111) dX2_nextWord_60 (by decide) (fun z => absurd z (by decide)) (fun _ => ?_)
                    refine V_ldcS1 C dX2_nextWord_63 ?_
                    refine V_eq rfl rfl (st' := [.ref (100 + 1)]) rfl ?_
                    refine V_blk C (pc' := 66) (σ' := (g_up (g_up (g_up (g_up (g_up (g_up (g_up (g_up (g_up (g_up (g_up σ 19 4 (nI (q_run (q_let (q_l (σ 20) n)) 160 i))) 19 5 2) 19 5 tk0) 19 5 tk1) 19 5 tk2) 19 5 tk3) 19 5 tk4) 19 5 tk5) 19 5 tk6) 19 5 tk7) 19 5 tk8)) (L' := [some (.ref 19), some (.int 9), some (.int 49), some (.int 50)]) (st' := [.int 50, .ref (100 + 1)]) (g_c dX2_nextWord_65 g_n) rfl rfl ?_
                    refine V_callVs C (i := 1) cv_X2_113 (c_chW (g_up (g_up (g_up (g_up (g_up (g_up (g_up (g_up (g_up (g_up (g_up σ 19 4 (nI (q_run (q_let (q_l (σ 20) n)) 160 i))) 19 5 2) 19 5 tk0) 19 5 tk1) 19 5 tk2) 19 5 tk3) 19 5 tk4) 19 5 tk5) 19 5 tk6) 19 5 tk7) 19 5 tk8) (k := 50) (c := 114) (by decide) (by decide)) (by decide) rfl (by decide) (by decide) (fun _ h => h) (As := [.int 50]) (rest := []) rfl rfl (Nat.le_of_ble_eq_true rfl) dX2_nextWord_66 ?_
                    refine V_blk C (pc' := 71) (σ' := (g_up (g_up (g_up (g_up (g_up (g_up (g_up (g_up (g_up (g_up (g_up σ 19 4 (nI (q_run (q_let (q_l (σ 20) n)) 160 i))) 19 5 2) 19 5 tk0) 19 5 tk1) 19 5 tk2) 19 5 tk3) 19 5 tk4) 19 5 tk5) 19 5 tk6) 19 5 tk7) 19 5 tk8)) (L' := [some (.ref 19), some (.int 9), some (.int 49), some (.int 50)]) (st' := [.int 32, .int 114]) (g_c dX2_nextWord_69 g_n) rfl rfl ?_
                    refine V_icmp_ne C (tgt := 105) dX2_nextWord_71 (by decide) (fun _ => ?_) (fun z => absurd z (by decide))
                    refine V_blk C (pc' := 108) (σ' := (g_up (g_up (g_up (g_up (g_up (g_up (g_up (g_up (g_up (g_up (g_up σ 19 4 (nI (q_run (q_let (q_l (σ 20) n)) 160 i))) 19 5 2) 19 5 tk0) 19 5 tk1) 19 5 tk2) 19 5 tk3) 19 5 tk4) 19 5 tk5) 19 5 tk6) 19 5 tk7) 19 5 tk8)) (L' := [some (.ref 19), some (.int 9), some (.int 49), some (.int 51)]) (st' := []) (g_c dX2_nextWord_105 g_n) rfl rfl ?_
                    refine V_goto C (tgt := 54) dX2_nextWord_108 (by decide) ?_
                    refine V_blk C (pc' := 55) (σ' := (g_up (g_up (g_up (g_up (g_up (g_up (g_up (g_up (g_up (g_up (g_up σ 19 4 (nI (q_run (q_let (q_l (σ 20) n)) 160 i))) 19 5 2) 19 5 tk0) 19 5 tk1) 19 5 tk2) 19 5 tk3) 19 5 tk4) 19 5 tk5) 19 5 tk6) 19 5 tk7) 19 5 tk8)) (L' := [some (.ref 19), some (.int 9), some (.int 49), some (.int 51)]) (st' := [.int 51]) (g_c dX2_nextWord_54 g_n) rfl rfl ?_
                    refine V_ldcS1 C dX2_nextWord_55 ?_
                    refine V_eq rfl rfl (st' := [.ref (100 + 1), .int 51]) rfl ?_
                    refine V_callVs C (i := 1) cv_X2_110 (c_lenW (g_up (g_up (g_up (g_up (g_up (g_up (g_up (g_up (g_up (g_up (g_up σ 19 4 (nI (q_run (q_let (q_l (σ 20) n)) 160 i))) 19 5 2) 19 5 tk0) 19 5 tk1) 19 5 tk2) 19 5 tk3) 19 5 tk4) 19 5 tk5) 19 5 tk6) 19 5 tk7) 19 5 tk8)) (by decide) rfl (by decide) (by decide) (fun _ h => h) (As := []) (rest := [.int 51]) rfl rfl (Nat.le_of_ble_eq_true rfl) dX2_nextWord_57 ?_
                    refine V_icmp_ge2 C (tgt := 111) dX2_nextWord_60 (by decide) (fun z => absurd z (by decide)) (fun _ => ?_)
                    refine V_ldcS1 C dX2_nextWord_63 ?_
                    refine V_eq rfl rfl (st' := [.ref (100 + 1)]) rfl ?_
                    refine V_blk C (pc' := 66) (σ' := (g_up (g_up (g_up (g_up (g_up (g_up (g_up (g_up (g_up (g_up (g_up σ 19 4 (nI (q_run (q_let (q_l (σ 20) n)) 160 i))) 19 5 2) 19 5 tk0) 19 5 tk1) 19 5 tk2) 19 5 tk3) 19 5 tk4) 19 5 tk5) 19 5 tk6) 19 5 tk7) 19 5 tk8)) (L' := [some (.ref 19), some (.int 9), some (.int 49), some (.int 51)]) (st' := [.int 51, .ref (100 + 1)]) (g_c dX2_nextWord_65 g_n) rfl rfl ?_
                    refine V_callVs C (i := 1) cv_X2_113 (c_chW (g_up (g_up (g_up (g_up (g_up (g_up (g_up (g_up (g_up (g_up (g_up σ 19 4 (nI (q_run (q_let (q_l (σ 20) n)) 160 i))) 19 5 2) 19 5 tk0) 19 5 tk1) 19 5 tk2) 19 5 tk3) 19 5 tk4) 19 5 tk5) 19 5 tk6) 19 5 tk7) 19 5 tk8) (k := 51) (c := 32) (by decide) (by decide)) (by decide) rfl (by decide) (by decide) (fun _ h => h) (As := [.int 51]) (rest := []) rfl rfl (Nat.le_of_ble_eq_true rfl) dX2_nextWord_66 ?_
                    refine V_blk C (pc' := 71) (σ' := (g_up (g_up (g_up (g_up (g_up (g_up (g_up (g_up (g_up (g_up (g_up σ 19 4 (nI (q_run (q_let (q_l (σ 20) n)) 160 i))) 19 5 2) 19 5 tk0) 19 5 tk1) 19 5 tk2) 19 5 tk3) 19 5 tk4) 19 5 tk5) 19 5 tk6) 19 5 tk7) 19 5 tk8)) (L' := [some (.ref 19), some (.int 9), some (.int 49), some (.int 51)]) (st' := [.int 32, .int 32]) (g_c dX2_nextWord_69 g_n) rfl rfl ?_
                    refine V_icmp_ne C (tgt := 105) dX2_nextWord_71 (by decide) (fun z => absurd z (by decide)) (fun _ => ?_)
                    refine V_blk C (pc' := 78) (σ' := (g_up (g_up (g_up (g_up (g_up (g_up (g_up (g_up (g_up (g_up (g_up σ 19 4 (nI (q_run (q_let (q_l (σ 20) n)) 160 i))) 19 5 2) 19 5 tk0) 19 5 tk1) 19 5 tk2) 19 5 tk3) 19 5 tk4) 19 5 tk5) 19 5 tk6) 19 5 tk7) 19 5 tk8)) (L' := [some (.ref 19), some (.int 9), some (.int 49), some (.int 51)]) (st' := [.int 51, .int 49, .ref 19, .ref 19]) (g_c dX2_nextWord_74 (g_c dX2_nextWord_75 (g_c dX2_nextWord_76 (g_c dX2_nextWord_77 g_n)))) rfl rfl ?_
                    refine V_callVI C cv_X2_117 (c_X2_isWord9 (g_up (g_up (g_up (g_up (g_up (g_up (g_up (g_up (g_up (g_up (g_up σ 19 4 (nI (q_run (q_let (q_l (σ 20) n)) 160 i))) 19 5 2) 19 5 tk0) 19 5 tk1) 19 5 tk2) 19 5 tk3) 19 5 tk4) 19 5 tk5) 19 5 tk6) 19 5 tk7) 19 5 tk8) hn hn160 hge hle rfl h6) ⟨_, _, _, _, rfl, rfl⟩ (by rfl) (by decide) (by decide) (fun _ h => h) (As := [.int 49, .int 51]) (rest := [.ref 19]) rfl rfl (Nat.le_of_ble_eq_true rfl) dX2_nextWord_78 ?_
                    refine V_join (P := q_is (q_l (σ 20) n) i (q_run (q_let (q_l (σ 20) n)) 160 i) [111, 114] = true) (a := 106) (b := tk8) (pcJ := 95) (rest := [.ref 19]) (fun tk9 htk9 => ?_) (fun kT kF => ?_)
                    · skip
                      refine V_blk C (pc' := 108) (σ' := (g_up (g_up (g_up (g_up (g_up (g_up (g_up (g_up (g_up (g_up (g_up (g_up σ 19 4 (nI (q_run (q_let (q_l (σ 20) n)) 160 i))) 19 5 2) 19 5 tk0) 19 5 tk1) 19 5 tk2) 19 5 tk3) 19 5 tk4) 19 5 tk5) 19 5 tk6) 19 5 tk7) 19 5 tk8) 19 5 tk9)) (L' := [some (.ref 19), some (.int 10), some (.int 52), some (.int 52)]) (st' := []) (g_c dX2_nextWord_95 (g_c dX2_nextWord_98 (g_c dX2_nextWord_101 (g_c dX2_nextWord_102 (g_c dX2_nextWord_103 (g_c dX2_nextWord_104 (g_c dX2_nextWord_105 g_n))))))) rfl rfl ?_
                      refine V_goto C (tgt := 54) dX2_nextWord_108 (by decide) ?_
                      refine V_blk C (pc' := 55) (σ' := (g_up (g_up (g_up (g_up (g_up (g_up (g_up (g_up (g_up (g_up (g_up (g_up σ 19 4 (nI (q_run (q_let (q_l (σ 20) n)) 160 i))) 19 5 2) 19 5 tk0) 19 5 tk1) 19 5 tk2) 19 5 tk3) 19 5 tk4) 19 5 tk5) 19 5 tk6) 19 5 tk7) 19 5 tk8) 19 5 tk9)) (L' := [some (.ref 19), some (.int 10), some (.int 52), some (.int 52)]) (st' := [.int 52]) (g_c dX2_nextWord_54 g_n) rfl rfl ?_
                      refine V_ldcS1 C dX2_nextWord_55 ?_
                      refine V_eq rfl rfl (st' := [.ref (100 + 1), .int 52]) rfl ?_
                      refine V_callVs C (i := 1) cv_X2_110 (c_lenW (g_up (g_up (g_up (g_up (g_up (g_up (g_up (g_up (g_up (g_up (g_up (g_up σ 19 4 (nI (q_run (q_let (q_l (σ 20) n)) 160 i))) 19 5 2) 19 5 tk0) 19 5 tk1) 19 5 tk2) 19 5 tk3) 19 5 tk4) 19 5 tk5) 19 5 tk6) 19 5 tk7) 19 5 tk8) 19 5 tk9)) (by decide) rfl (by decide) (by decide) (fun _ h => h) (As := []) (rest := [.int 52]) rfl rfl (Nat.le_of_ble_eq_true rfl) dX2_nextWord_57 ?_
                      refine V_icmp_ge2 C (tgt := 111) dX2_nextWord_60 (by decide) (fun z => absurd z (by decide)) (fun _ => ?_)
                      refine V_ldcS1 C dX2_nextWord_63 ?_
                      refine V_eq rfl rfl (st' := [.ref (100 + 1)]) rfl ?_
                      refine V_blk C (pc' := 66) (σ' := (g_up (g_up (g_up (g_up (g_up (g_up (g_up (g_up (g_up (g_up (g_up (g_up σ 19 4 (nI (q_run (q_let (q_l (σ 20) n)) 160 i))) 19 5 2) 19 5 tk0) 19 5 tk1) 19 5 tk2) 19 5 tk3) 19 5 tk4) 19 5 tk5) 19 5 tk6) 19 5 tk7) 19 5 tk8) 19 5 tk9)) (L' := [some (.ref 19), some (.int 10), some (.int 52), some (.int 52)]) (st' := [.int 52, .ref (100 + 1)]) (g_c dX2_nextWord_65 g_n) rfl rfl ?_
                      refine V_callVs C (i := 1) cv_X2_113 (c_chW (g_up (g_up (g_up (g_up (g_up (g_up (g_up (g_up (g_up (g_up (g_up (g_up σ 19 4 (nI (q_run (q_let (q_l (σ 20) n)) 160 i))) 19 5 2) 19 5 tk0) 19 5 tk1) 19 5 tk2) 19 5 tk3) 19 5 tk4) 19 5 tk5) 19 5 tk6) 19 5 tk7) 19 5 tk8) 19 5 tk9) (k := 52) (c := 97) (by decide) (by decide)) (by decide) rfl (by decide) (by decide) (fun _ h => h) (As := [.int 52]) (rest := []) rfl rfl (Nat.le_of_ble_eq_true rfl) dX2_nextWord_66 ?_
                      refine V_blk C (pc' := 71) (σ' := (g_up (g_up (g_up (g_up (g_up (g_up (g_up (g_up (g_up (g_up (g_up (g_up σ 19 4 (nI (q_run (q_let (q_l (σ 20) n)) 160 i))) 19 5 2) 19 5 tk0) 19 5 tk1) 19 5 tk2) 19 5 tk3) 19 5 tk4) 19 5 tk5) 19 5 tk6) 19 5 tk7) 19 5 tk8) 19 5 tk9)) (L' := [some (.ref 19), some (.int 10), some (.int 52), some (.int 52)]) (st' := [.int 32, .int 97]) (g_c dX2_nextWord_69 g_n) rfl rfl ?_
                      refine V_icmp_ne C (tgt := 105) dX2_nextWord_71 (by decide) (fun _ => ?_) (fun z => absurd z (by decide))
                      refine V_blk C (pc' := 108) (σ' := (g_up (g_up (g_up (g_up (g_up (g_up (g_up (g_up (g_up (g_up (g_up (g_up σ 19 4 (nI (q_run (q_let (q_l (σ 20) n)) 160 i))) 19 5 2) 19 5 tk0) 19 5 tk1) 19 5 tk2) 19 5 tk3) 19 5 tk4) 19 5 tk5) 19 5 tk6) 19 5 tk7) 19 5 tk8) 19 5 tk9)) (L' := [some (.ref 19), some (.int 10), some (.int 52), some (.int 53)]) (st' := []) (g_c dX2_nextWord_105 g_n) rfl rfl ?_
                      refine V_goto C (tgt := 54) dX2_nextWord_108 (by decide) ?_
                      refine V_blk C (pc' := 55) (σ' := (g_up (g_up (g_up (g_up (g_up (g_up (g_up (g_up (g_up (g_up (g_up (g_up σ 19 4 (nI (q_run (q_let (q_l (σ 20) n)) 160 i))) 19 5 2) 19 5 tk0) 19 5 tk1) 19 5 tk2) 19 5 tk3) 19 5 tk4) 19 5 tk5) 19 5 tk6) 19 5 tk7) 19 5 tk8) 19 5 tk9)) (L' := [some (.ref 19), some (.int 10), some (.int 52), some (.int 53)]) (st' := [.int 53]) (g_c dX2_nextWord_54 g_n) rfl rfl ?_
                      refine V_ldcS1 C dX2_nextWord_55 ?_
                      refine V_eq rfl rfl (st' := [.ref (100 + 1), .int 53]) rfl ?_
                      refine V_callVs C (i := 1) cv_X2_110 (c_lenW (g_up (g_up (g_up (g_up (g_up (g_up (g_up (g_up (g_up (g_up (g_up (g_up σ 19 4 (nI (q_run (q_let (q_l (σ 20) n)) 160 i))) 19 5 2) 19 5 tk0) 19 5 tk1) 19 5 tk2) 19 5 tk3) 19 5 tk4) 19 5 tk5) 19 5 tk6) 19 5 tk7) 19 5 tk8) 19 5 tk9)) (by decide) rfl (by decide) (by decide) (fun _ h => h) (As := []) (rest := [.int 53]) rfl rfl (Nat.le_of_ble_eq_true rfl) dX2_nextWord_57 ?_
                      refine V_icmp_ge2 C (tgt := 111) dX2_nextWord_60 (by decide) (fun z => absurd z (by decide)) (fun _ => ?_)
                      refine V_ldcS1 C dX2_nextWord_63 ?_
                      refine V_eq rfl rfl (st' := [.ref (100 + 1)]) rfl ?_
                      refine V_blk C (pc' := 66) (σ' := (g_up (g_up (g_up (g_up (g_up (g_up (g_up (g_up (g_up (g_up (g_up (g_up σ 19 4 (nI (q_run (q_let (q_l (σ 20) n)) 160 i))) 19 5 2) 19 5 tk0) 19 5 tk1) 19 5 tk2) 19 5 tk3) 19 5 tk4) 19 5 tk5) 19 5 tk6) 19 5 tk7) 19 5 tk8) 19 5 tk9)) (L' := [some (.ref 19), some (.int 10), some (.int 52), some (.int 53)]) (st' := [.int 53, .ref (100 + 1)]) (g_c dX2_nextWord_65 g_n) rfl rfl ?_
                      refine V_callVs C (i := 1) cv_X2_113 (c_chW (g_up (g_up (g_up (g_up (g_up (g_up (g_up (g_up (g_up (g_up (g_up (g_up σ 19 4 (nI (q_run (q_let (q_l (σ 20) n)) 160 i))) 19 5 2) 19 5 tk0) 19 5 tk1) 19 5 tk2) 19 5 tk3) 19 5 tk4) 19 5 tk5) 19 5 tk6) 19 5 tk7) 19 5 tk8) 19 5 tk9) (k := 53) (c := 110) (by decide) (by decide)) (by decide) rfl (by decide) (by decide) (fun _ h => h) (As := [.int 53]) (rest := []) rfl rfl (Nat.le_of_ble_eq_true rfl) dX2_nextWord_66 ?_
                      refine V_blk C (pc' := 71) (σ' := (g_up (g_up (g_up (g_up (g_up (g_up (g_up (g_up (g_up (g_up (g_up (g_up σ 19 4 (nI (q_run (q_let (q_l (σ 20) n)) 160 i))) 19 5 2) 19 5 tk0) 19 5 tk1) 19 5 tk2) 19 5 tk3) 19 5 tk4) 19 5 tk5) 19 5 tk6) 19 5 tk7) 19 5 tk8) 19 5 tk9)) (L' := [some (.ref 19), some (.int 10), some (.int 52), some (.int 53)]) (st' := [.int 32, .int 110]) (g_c dX2_nextWord_69 g_n) rfl rfl ?_
                      refine V_icmp_ne C (tgt := 105) dX2_nextWord_71 (by decide) (fun _ => ?_) (fun z => absurd z (by decide))
                      refine V_blk C (pc' := 108) (σ' := (g_up (g_up (g_up (g_up (g_up (g_up (g_up (g_up (g_up (g_up (g_up (g_up σ 19 4 (nI (q_run (q_let (q_l (σ 20) n)) 160 i))) 19 5 2) 19 5 tk0) 19 5 tk1) 19 5 tk2) 19 5 tk3) 19 5 tk4) 19 5 tk5) 19 5 tk6) 19 5 tk7) 19 5 tk8) 19 5 tk9)) (L' := [some (.ref 19), some (.int 10), some (.int 52), some (.int 54)]) (st' := []) (g_c dX2_nextWord_105 g_n) rfl rfl ?_
                      refine V_goto C (tgt := 54) dX2_nextWord_108 (by decide) ?_
                      refine V_blk C (pc' := 55) (σ' := (g_up (g_up (g_up (g_up (g_up (g_up (g_up (g_up (g_up (g_up (g_up (g_up σ 19 4 (nI (q_run (q_let (q_l (σ 20) n)) 160 i))) 19 5 2) 19 5 tk0) 19 5 tk1) 19 5 tk2) 19 5 tk3) 19 5 tk4) 19 5 tk5) 19 5 tk6) 19 5 tk7) 19 5 tk8) 19 5 tk9)) (L' := [some (.ref 19), some (.int 10), some (.int 52), some (.int 54)]) (st' := [.int 54]) (g_c dX2_nextWord_54 g_n) rfl rfl ?_
                      refine V_ldcS1 C dX2_nextWord_55 ?_
                      refine V_eq rfl rfl (st' := [.ref (100 + 1), .int 54]) rfl ?_
                      refine V_callVs C (i := 1) cv_X2_110 (c_lenW (g_up (g_up (g_up (g_up (g_up (g_up (g_up (g_up (g_up (g_up (g_up (g_up σ 19 4 (nI (q_run (q_let (q_l (σ 20) n)) 160 i))) 19 5 2) 19 5 tk0) 19 5 tk1) 19 5 tk2) 19 5 tk3) 19 5 tk4) 19 5 tk5) 19 5 tk6) 19 5 tk7) 19 5 tk8) 19 5 tk9)) (by decide) rfl (by decide) (by decide) (fun _ h => h) (As := []) (rest := [.int 54]) rfl rfl (Nat.le_of_ble_eq_true rfl) dX2_nextWord_57 ?_
                      refine V_icmp_ge2 C (tgt := 111) dX2_nextWord_60 (by decide) (fun z => absurd z (by decide)) (fun _ => ?_)
                      refine V_ldcS1 C dX2_nextWord_63 ?_
                      refine V_eq rfl rfl (st' := [.ref (100 + 1)]) rfl ?_
                      refine V_blk C (pc' := 66) (σ' := (g_up (g_up (g_up (g_up (g_up (g_up (g_up (g_up (g_up (g_up (g_up (g_up σ 19 4 (nI (q_run (q_let (q_l (σ 20) n)) 160 i))) 19 5 2) 19 5 tk0) 19 5 tk1) 19 5 tk2) 19 5 tk3) 19 5 tk4) 19 5 tk5) 19 5 tk6) 19 5 tk7) 19 5 tk8) 19 5 tk9)) (L' := [some (.ref 19), some (.int 10), some (.int 52), some (.int 54)]) (st' := [.int 54, .ref (100 + 1)]) (g_c dX2_nextWord_65 g_n) rfl rfl ?_
                      refine V_callVs C (i := 1) cv_X2_113 (c_chW (g_up (g_up (g_up (g_up (g_up (g_up (g_up (g_up (g_up (g_up (g_up (g_up σ 19 4 (nI (q_run (q_let (q_l (σ 20) n)) 160 i))) 19 5 2) 19 5 tk0) 19 5 tk1) 19 5 tk2) 19 5 tk3) 19 5 tk4) 19 5 tk5) 19 5 tk6) 19 5 tk7) 19 5 tk8) 19 5 tk9) (k := 54) (c := 100) (by decide) (by decide)) (by decide) rfl (by decide) (by decide) (fun _ h => h) (As := [.int 54]) (rest := []) rfl rfl (Nat.le_of_ble_eq_true rfl) dX2_nextWord_66 ?_
                      refine V_blk C (pc' := 71) (σ' := (g_up (g_up (g_up (g_up (g_up (g_up (g_up (g_up (g_up (g_up (g_up (g_up σ 19 4 (nI (q_run (q_let (q_l (σ 20) n)) 160 i))) 19 5 2) 19 5 tk0) 19 5 tk1) 19 5 tk2) 19 5 tk3) 19 5 tk4) 19 5 tk5) 19 5 tk6) 19 5 tk7) 19 5 tk8) 19 5 tk9)) (L' := [some (.ref 19), some (.int 10), some (.int 52), some (.int 54)]) (st' := [.int 32, .int 100]) (g_c dX2_nextWord_69 g_n) rfl rfl ?_
                      refine V_icmp_ne C (tgt := 105) dX2_nextWord_71 (by decide) (fun _ => ?_) (fun z => absurd z (by decide))
                      refine V_blk C (pc' := 108) (σ' := (g_up (g_up (g_up (g_up (g_up (g_up (g_up (g_up (g_up (g_up (g_up (g_up σ 19 4 (nI (q_run (q_let (q_l (σ 20) n)) 160 i))) 19 5 2) 19 5 tk0) 19 5 tk1) 19 5 tk2) 19 5 tk3) 19 5 tk4) 19 5 tk5) 19 5 tk6) 19 5 tk7) 19 5 tk8) 19 5 tk9)) (L' := [some (.ref 19), some (.int 10), some (.int 52), some (.int 55)]) (st' := []) (g_c dX2_nextWord_105 g_n) rfl rfl ?_
                      refine V_goto C (tgt := 54) dX2_nextWord_108 (by decide) ?_
                      refine V_blk C (pc' := 55) (σ' := (g_up (g_up (g_up (g_up (g_up (g_up (g_up (g_up (g_up (g_up (g_up (g_up σ 19 4 (nI (q_run (q_let (q_l (σ 20) n)) 160 i))) 19 5 2) 19 5 tk0) 19 5 tk1) 19 5 tk2) 19 5 tk3) 19 5 tk4) 19 5 tk5) 19 5 tk6) 19 5 tk7) 19 5 tk8) 19 5 tk9)) (L' := [some (.ref 19), some (.int 10), some (.int 52), some (.int 55)]) (st' := [.int 55]) (g_c dX2_nextWord_54 g_n) rfl rfl ?_
                      refine V_ldcS1 C dX2_nextWord_55 ?_
                      refine V_eq rfl rfl (st' := [.ref (100 + 1), .int 55]) rfl ?_
                      refine V_callVs C (i := 1) cv_X2_110 (c_lenW (g_up (g_up (g_up (g_up (g_up (g_up (g_up (g_up (g_up (g_up (g_up (g_up σ 19 4 (nI (q_run (q_let (q_l (σ 20) n)) 160 i))) 19 5 2) 19 5 tk0) 19 5 tk1) 19 5 tk2) 19 5 tk3) 19 5 tk4) 19 5 tk5) 19 5 tk6) 19 5 tk7) 19 5 tk8) 19 5 tk9)) (by decide) rfl (by decide) (by decide) (fun _ h => h) (As := []) (rest := [.int 55]) rfl rfl (Nat.le_of_ble_eq_true rfl) dX2_nextWord_57 ?_
                      refine V_icmp_ge2 C (tgt := 111) dX2_nextWord_60 (by decide) (fun z => absurd z (by decide)) (fun _ => ?_)
                      refine V_ldcS1 C dX2_nextWord_63 ?_
                      refine V_eq rfl rfl (st' := [.ref (100 + 1)]) rfl ?_
                      refine V_blk C (pc' := 66) (σ' := (g_up (g_up (g_up (g_up (g_up (g_up (g_up (g_up (g_up (g_up (g_up (g_up σ 19 4 (nI (q_run (q_let (q_l (σ 20) n)) 160 i))) 19 5 2) 19 5 tk0) 19 5 tk1) 19 5 tk2) 19 5 tk3) 19 5 tk4) 19 5 tk5) 19 5 tk6) 19 5 tk7) 19 5 tk8) 19 5 tk9)) (L' := [some (.ref 19), some (.int 10), some (.int 52), some (.int 55)]) (st' := [.int 55, .ref (100 + 1)]) (g_c dX2_nextWord_65 g_n) rfl rfl ?_
                      refine V_callVs C (i := 1) cv_X2_113 (c_chW (g_up (g_up (g_up (g_up (g_up (g_up (g_up (g_up (g_up (g_up (g_up (g_up σ 19 4 (nI (q_run (q_let (q_l (σ 20) n)) 160 i))) 19 5 2) 19 5 tk0) 19 5 tk1) 19 5 tk2) 19 5 tk3) 19 5 tk4) 19 5 tk5) 19 5 tk6) 19 5 tk7) 19 5 tk8) 19 5 tk9) (k := 55) (c := 32) (by decide) (by decide)) (by decide) rfl (by decide) (by decide) (fun _ h => h) (As := [.int 55]) (rest := []) rfl rfl (Nat.le_of_ble_eq_true rfl) dX2_nextWord_66 ?_
                      refine V_blk C (pc' := 71) (σ' := (g_up (g_up (g_up (g_up (g_up (g_up (g_up (g_up (g_up (g_up (g_up (g_up σ 19 4 (nI (q_run (q_let (q_l (σ 20) n)) 160 i))) 19 5 2) 19 5 tk0) 19 5 tk1) 19 5 tk2) 19 5 tk3) 19 5 tk4) 19 5 tk5) 19 5 tk6) 19 5 tk7) 19 5 tk8) 19 5 tk9)) (L' := [some (.ref 19), some (.int 10), some (.int 52), some (.int 55)]) (st' := [.int 32, .int 32]) (g_c dX2_nextWord_69 g_n) rfl rfl ?_
                      refine V_icmp_ne C (tgt := 105) dX2_nextWord_71 (by decide) (fun z => absurd z (by decide)) (fun _ => ?_)
                      refine V_blk C (pc' := 78) (σ' := (g_up (g_up (g_up (g_up (g_up (g_up (g_up (g_up (g_up (g_up (g_up (g_up σ 19 4 (nI (q_run (q_let (q_l (σ 20) n)) 160 i))) 19 5 2) 19 5 tk0) 19 5 tk1) 19 5 tk2) 19 5 tk3) 19 5 tk4) 19 5 tk5) 19 5 tk6) 19 5 tk7) 19 5 tk8) 19 5 tk9)) (L' := [some (.ref 19), some (.int 10), some (.int 52), some (.int 55)]) (st' := [.int 55, .int 52, .ref 19, .ref 19]) (g_c dX2_nextWord_74 (g_c dX2_nextWord_75 (g_c dX2_nextWord_76 (g_c dX2_nextWord_77 g_n)))) rfl rfl ?_
                      refine V_callVI C cv_X2_117 (c_X2_isWord10 (g_up (g_up (g_up (g_up (g_up (g_up (g_up (g_up (g_up (g_up (g_up (g_up σ 19 4 (nI (q_run (q_let (q_l (σ 20) n)) 160 i))) 19 5 2) 19 5 tk0) 19 5 tk1) 19 5 tk2) 19 5 tk3) 19 5 tk4) 19 5 tk5) 19 5 tk6) 19 5 tk7) 19 5 tk8) 19 5 tk9) hn hn160 hge hle rfl h6) ⟨_, _, _, _, rfl, rfl⟩ (by rfl) (by decide) (by decide) (fun _ h => h) (As := [.int 52, .int 55]) (rest := [.ref 19]) rfl rfl (Nat.le_of_ble_eq_true rfl) dX2_nextWord_78 ?_
                      refine V_join (P := q_is (q_l (σ 20) n) i (q_run (q_let (q_l (σ 20) n)) 160 i) [97, 110, 100] = true) (a := 107) (b := tk9) (pcJ := 95) (rest := [.ref 19]) (fun tk10 htk10 => ?_) (fun kT kF => ?_)
                      · skip
                        refine V_blk C (pc' := 108) (σ' := (g_up (g_up (g_up (g_up (g_up (g_up (g_up (g_up (g_up (g_up (g_up (g_up (g_up σ 19 4 (nI (q_run (q_let (q_l (σ 20) n)) 160 i))) 19 5 2) 19 5 tk0) 19 5 tk1) 19 5 tk2) 19 5 tk3) 19 5 tk4) 19 5 tk5) 19 5 tk6) 19 5 tk7) 19 5 tk8) 19 5 tk9) 19 5 tk10)) (L' := [some (.ref 19), some (.int 11), some (.int 56), some (.int 56)]) (st' := []) (g_c dX2_nextWord_95 (g_c dX2_nextWord_98 (g_c dX2_nextWord_101 (g_c dX2_nextWord_102 (g_c dX2_nextWord_103 (g_c dX2_nextWord_104 (g_c dX2_nextWord_105 g_n))))))) rfl rfl ?_
                        refine V_goto C (tgt := 54) dX2_nextWord_108 (by decide) ?_
                        refine V_blk C (pc' := 55) (σ' := (g_up (g_up (g_up (g_up (g_up (g_up (g_up (g_up (g_up (g_up (g_up (g_up (g_up σ 19 4 (nI (q_run (q_let (q_l (σ 20) n)) 160 i))) 19 5 2) 19 5 tk0) 19 5 tk1) 19 5 tk2) 19 5 tk3) 19 5 tk4) 19 5 tk5) 19 5 tk6) 19 5 tk7) 19 5 tk8) 19 5 tk9) 19 5 tk10)) (L' := [some (.ref 19), some (.int 11), some (.int 56), some (.int 56)]) (st' := [.int 56]) (g_c dX2_nextWord_54 g_n) rfl rfl ?_
                        refine V_ldcS1 C dX2_nextWord_55 ?_
                        refine V_eq rfl rfl (st' := [.ref (100 + 1), .int 56]) rfl ?_
                        refine V_callVs C (i := 1) cv_X2_110 (c_lenW (g_up (g_up (g_up (g_up (g_up (g_up (g_up (g_up (g_up (g_up (g_up (g_up (g_up σ 19 4 (nI (q_run (q_let (q_l (σ 20) n)) 160 i))) 19 5 2) 19 5 tk0) 19 5 tk1) 19 5 tk2) 19 5 tk3) 19 5 tk4) 19 5 tk5) 19 5 tk6) 19 5 tk7) 19 5 tk8) 19 5 tk9) 19 5 tk10)) (by decide) rfl (by decide) (by decide) (fun _ h => h) (As := []) (rest := [.int 56]) rfl rfl (Nat.le_of_ble_eq_true rfl) dX2_nextWord_57 ?_
                        refine V_icmp_ge2 C (tgt := 111) dX2_nextWord_60 (by decide) (fun z => absurd z (by decide)) (fun _ => ?_)
                        refine V_ldcS1 C dX2_nextWord_63 ?_
                        refine V_eq rfl rfl (st' := [.ref (100 + 1)]) rfl ?_
                        refine V_blk C (pc' := 66) (σ' := (g_up (g_up (g_up (g_up (g_up (g_up (g_up (g_up (g_up (g_up (g_up (g_up (g_up σ 19 4 (nI (q_run (q_let (q_l (σ 20) n)) 160 i))) 19 5 2) 19 5 tk0) 19 5 tk1) 19 5 tk2) 19 5 tk3) 19 5 tk4) 19 5 tk5) 19 5 tk6) 19 5 tk7) 19 5 tk8) 19 5 tk9) 19 5 tk10)) (L' := [some (.ref 19), some (.int 11), some (.int 56), some (.int 56)]) (st' := [.int 56, .ref (100 + 1)]) (g_c dX2_nextWord_65 g_n) rfl rfl ?_
                        refine V_callVs C (i := 1) cv_X2_113 (c_chW (g_up (g_up (g_up (g_up (g_up (g_up (g_up (g_up (g_up (g_up (g_up (g_up (g_up σ 19 4 (nI (q_run (q_let (q_l (σ 20) n)) 160 i))) 19 5 2) 19 5 tk0) 19 5 tk1) 19 5 tk2) 19 5 tk3) 19 5 tk4) 19 5 tk5) 19 5 tk6) 19 5 tk7) 19 5 tk8) 19 5 tk9) 19 5 tk10) (k := 56) (c := 110) (by decide) (by decide)) (by decide) rfl (by decide) (by decide) (fun _ h => h) (As := [.int 56]) (rest := []) rfl rfl (Nat.le_of_ble_eq_true rfl) dX2_nextWord_66 ?_
                        refine V_blk C (pc' := 71) (σ' := (g_up (g_up (g_up (g_up (g_up (g_up (g_up (g_up (g_up (g_up (g_up (g_up (g_up σ 19 4 (nI (q_run (q_let (q_l (σ 20) n)) 160 i))) 19 5 2) 19 5 tk0) 19 5 tk1) 19 5 tk2) 19 5 tk3) 19 5 tk4) 19 5 tk5) 19 5 tk6) 19 5 tk7) 19 5 tk8) 19 5 tk9) 19 5 tk10)) (L' := [some (.ref 19), some (.int 11), some (.int 56), some (.int 56)]) (st' := [.int 32, .int 110]) (g_c dX2_nextWord_69 g_n) rfl rfl ?_
                        refine V_icmp_ne C (tgt := 105) dX2_nextWord_71 (by decide) (fun _ => ?_) (fun z => absurd z (by decide))
                        refine V_blk C (pc' := 108) (σ' := (g_up (g_up (g_up (g_up (g_up (g_up (g_up (g_up (g_up (g_up (g_up (g_up (g_up σ 19 4 (nI (q_run (q_let (q_l (σ 20) n)) 160 i))) 19 5 2) 19 5 tk0) 19 5 tk1) 19 5 tk2) 19 5 tk3) 19 5 tk4) 19 5 tk5) 19 5 tk6) 19 5 tk7) 19 5 tk8) 19 5 tk9) 19 5 tk10)) (L' := [some (.ref 19), some (.int 11), some (.int 56), some (.int 57)]) (st' := []) (g_c dX2_nextWord_105 g_n) rfl rfl ?_
                        refine V_goto C (tgt := 54) dX2_nextWord_108 (by decide) ?_
                        refine V_blk C (pc' := 55) (σ' := (g_up (g_up (g_up (g_up (g_up (g_up (g_up (g_up (g_up (g_up (g_up (g_up (g_up σ 19 4 (nI (q_run (q_let (q_l (σ 20) n)) 160 i))) 19 5 2) 19 5 tk0) 19 5 tk1) 19 5 tk2) 19 5 tk3) 19 5 tk4) 19 5 tk5) 19 5 tk6) 19 5 tk7) 19 5 tk8) 19 5 tk9) 19 5 tk10)) (L' := [some (.ref 19), some (.int 11), some (.int 56), some (.int 57)]) (st' := [.int 57]) (g_c dX2_nextWord_54 g_n) rfl rfl ?_
                        refine V_ldcS1 C dX2_nextWord_55 ?_
                        refine V_eq rfl rfl (st' := [.ref (100 + 1), .int 57]) rfl ?_
                        refine V_callVs C (i := 1) cv_X2_110 (c_lenW (g_up (g_up (g_up (g_up (g_up (g_up (g_up (g_up (g_up (g_up (g_up (g_up (g_up σ 19 4 (nI (q_run (q_let (q_l (σ 20) n)) 160 i))) 19 5 2) 19 5 tk0) 19 5 tk1) 19 5 tk2) 19 5 tk3) 19 5 tk4) 19 5 tk5) 19 5 tk6) 19 5 tk7) 19 5 tk8) 19 5 tk9) 19 5 tk10)) (by decide) rfl (by decide) (by decide) (fun _ h => h) (As := []) (rest := [.int 57]) rfl rfl (Nat.le_of_ble_eq_true rfl) dX2_nextWord_57 ?_
                        refine V_icmp_ge2 C (tgt := 111) dX2_nextWord_60 (by decide) (fun z => absurd z (by decide)) (fun _ => ?_)
                        refine V_ldcS1 C dX2_nextWord_63 ?_
                        refine V_eq rfl rfl (st' := [.ref (100 + 1)]) rfl ?_
                        refine V_blk C (pc' := 66) (σ' := (g_up (g_up (g_up (g_up (g_up (g_up (g_up (g_up (g_up (g_up (g_up (g_up (g_up σ 19 4 (nI (q_run (q_let (q_l (σ 20) n)) 160 i))) 19 5 2) 19 5 tk0) 19 5 tk1) 19 5 tk2) 19 5 tk3) 19 5 tk4) 19 5 tk5) 19 5 tk6) 19 5 tk7) 19 5 tk8) 19 5 tk9) 19 5 tk10)) (L' := [some (.ref 19), some (.int 11), some (.int 56), some (.int 57)]) (st' := [.int 57, .ref (100 + 1)]) (g_c dX2_nextWord_65 g_n) rfl rfl ?_
                        refine V_callVs C (i := 1) cv_X2_113 (c_chW (g_up (g_up (g_up (g_up (g_up (g_up (g_up (g_up (g_up (g_up (g_up (g_up (g_up σ 19 4 (nI (q_run (q_let (q_l (σ 20) n)) 160 i))) 19 5 2) 19 5 tk0) 19 5 tk1) 19 5 tk2) 19 5 tk3) 19 5 tk4) 19 5 tk5) 19 5 tk6) 19 5 tk7) 19 5 tk8) 19 5 tk9) 19 5 tk10) (k := 57) (c := 111) (by decide) (by decide)) (by decide) rfl (by decide) (by decide) (fun _ h => h) (As := [.int 57]) (rest := []) rfl rfl (Nat.le_of_ble_eq_true rfl) dX2_nextWord_66 ?_
                        refine V_blk C (pc' := 71) (σ' := (g_up (g_up (g_up (g_up (g_up (g_up (g_up (g_up (g_up (g_up (g_up (g_up (g_up σ 19 4 (nI (q_run (q_let (q_l (σ 20) n)) 160 i))) 19 5 2) 19 5 tk0) 19 5 tk1) 19 5 tk2) 19 5 tk3) 19 5 tk4) 19 5 tk5) 19 5 tk6) 19 5 tk7) 19 5 tk8) 19 5 tk9) 19 5 tk10)) (L' := [some (.ref 19), some (.int 11), some (.int 56), some (.int 57)]) (st' := [.int 32, .int 111]) (g_c dX2_nextWord_69 g_n) rfl rfl ?_
                        refine V_icmp_ne C (tgt := 105) dX2_nextWord_71 (by decide) (fun _ => ?_) (fun z => absurd z (by decide))
                        refine V_blk C (pc' := 108) (σ' := (g_up (g_up (g_up (g_up (g_up (g_up (g_up (g_up (g_up (g_up (g_up (g_up (g_up σ 19 4 (nI (q_run (q_let (q_l (σ 20) n)) 160 i))) 19 5 2) 19 5 tk0) 19 5 tk1) 19 5 tk2) 19 5 tk3) 19 5 tk4) 19 5 tk5) 19 5 tk6) 19 5 tk7) 19 5 tk8) 19 5 tk9) 19 5 tk10)) (L' := [some (.ref 19), some (.int 11), some (.int 56), some (.int 58)]) (st' := []) (g_c dX2_nextWord_105 g_n) rfl rfl ?_
                        refine V_goto C (tgt := 54) dX2_nextWord_108 (by decide) ?_
                        refine V_blk C (pc' := 55) (σ' := (g_up (g_up (g_up (g_up (g_up (g_up (g_up (g_up (g_up (g_up (g_up (g_up (g_up σ 19 4 (nI (q_run (q_let (q_l (σ 20) n)) 160 i))) 19 5 2) 19 5 tk0) 19 5 tk1) 19 5 tk2) 19 5 tk3) 19 5 tk4) 19 5 tk5) 19 5 tk6) 19 5 tk7) 19 5 tk8) 19 5 tk9) 19 5 tk10)) (L' := [some (.ref 19), some (.int 11), some (.int 56), some (.int 58)]) (st' := [.int 58]) (g_c dX2_nextWord_54 g_n) rfl rfl ?_
                        refine V_ldcS1 C dX2_nextWord_55 ?_
                        refine V_eq rfl rfl (st' := [.ref (100 + 1), .int 58]) rfl ?_
                        refine V_callVs C (i := 1) cv_X2_110 (c_lenW (g_up (g_up (g_up (g_up (g_up (g_up (g_up (g_up (g_up (g_up (g_up (g_up (g_up σ 19 4 (nI (q_run (q_let (q_l (σ 20) n)) 160 i))) 19 5 2) 19 5 tk0) 19 5 tk1) 19 5 tk2) 19 5 tk3) 19 5 tk4) 19 5 tk5) 19 5 tk6) 19 5 tk7) 19 5 tk8) 19 5 tk9) 19 5 tk10)) (by decide) rfl (by decide) (by decide) (fun _ h => h) (As := []) (rest := [.int 58]) rfl rfl (Nat.le_of_ble_eq_true rfl) dX2_nextWord_57 ?_
                        refine V_icmp_ge2 C (tgt := 111) dX2_nextWord_60 (by decide) (fun z => absurd z (by decide)) (fun _ => ?_)
                        refine V_ldcS1 C dX2_nextWord_63 ?_
                        refine V_eq rfl rfl (st' := [.ref (100 + 1)]) rfl ?_
                        refine V_blk C (pc' := 66) (σ' := (g_up (g_up (g_up (g_up (g_up (g_up (g_up (g_up (g_up (g_up (g_up (g_up (g_up σ 19 4 (nI (q_run (q_let (q_l (σ 20) n)) 160 i))) 19 5 2) 19 5 tk0) 19 5 tk1) 19 5 tk2) 19 5 tk3) 19 5 tk4) 19 5 tk5) 19 5 tk6) 19 5 tk7) 19 5 tk8) 19 5 tk9) 19 5 tk10)) (L' := [some (.ref 19), some (.int 11), some (.int 56), some (.int 58)]) (st' := [.int 58, .ref (100 + 1)]) (g_c dX2_nextWord_65 g_n) rfl rfl ?_
                        refine V_callVs C (i := 1) cv_X2_113 (c_chW (g_up (g_up (g_up (g_up (g_up (g_up (g_up (g_up (g_up (g_up (g_up (g_up (g_up σ 19 4 (nI (q_run (q_let (q_l (σ 20) n)) 160 i))) 19 5 2) 19 5 tk0) 19 5 tk1) 19 5 tk2) 19 5 tk3) 19 5 tk4) 19 5 tk5) 19 5 tk6) 19 5 tk7) 19 5 tk8) 19 5 tk9) 19 5 tk10) (k := 58) (c := 116) (by decide) (by decide)) (by decide) rfl (by decide) (by decide) (fun _ h => h) (As := [.int 58]) (rest := []) rfl rfl (Nat.le_of_ble_eq_true rfl) dX2_nextWord_66 ?_
                        refine V_blk C (pc' := 71) (σ' := (g_up (g_up (g_up (g_up (g_up (g_up (g_up (g_up (g_up (g_up (g_up (g_up (g_up σ 19 4 (nI (q_run (q_let (q_l (σ 20) n)) 160 i))) 19 5 2) 19 5 tk0) 19 5 tk1) 19 5 tk2) 19 5 tk3) 19 5 tk4) 19 5 tk5) 19 5 tk6) 19 5 tk7) 19 5 tk8) 19 5 tk9) 19 5 tk10)) (L' := [some (.ref 19), some (.int 11), some (.int 56), some (.int 58)]) (st' := [.int 32, .int 116]) (g_c dX2_nextWord_69 g_n) rfl rfl ?_
                        refine V_icmp_ne C (tgt := 105) dX2_nextWord_71 (by decide) (fun _ => ?_) (fun z => absurd z (by decide))
                        refine V_blk C (pc' := 108) (σ' := (g_up (g_up (g_up (g_up (g_up (g_up (g_up (g_up (g_up (g_up (g_up (g_up (g_up σ 19 4 (nI (q_run (q_let (q_l (σ 20) n)) 160 i))) 19 5 2) 19 5 tk0) 19 5 tk1) 19 5 tk2) 19 5 tk3) 19 5 tk4) 19 5 tk5) 19 5 tk6) 19 5 tk7) 19 5 tk8) 19 5 tk9) 19 5 tk10)) (L' := [some (.ref 19), some (.int 11), some (.int 56), some (.int 59)]) (st' := []) (g_c dX2_nextWord_105 g_n) rfl rfl ?_
                        refine V_goto C (tgt := 54) dX2_nextWord_108 (by decide) ?_
                        refine V_blk C (pc' := 55) (σ' := (g_up (g_up (g_up (g_up (g_up (g_up (g_up (g_up (g_up (g_up (g_up (g_up (g_up σ 19 4 (nI (q_run (q_let (q_l (σ 20) n)) 160 i))) 19 5 2) 19 5 tk0) 19 5 tk1) 19 5 tk2) 19 5 tk3) 19 5 tk4) 19 5 tk5) 19 5 tk6) 19 5 tk7) 19 5 tk8) 19 5 tk9) 19 5 tk10)) (L' := [some (.ref 19), some (.int 11), some (.int 56), some (.int 59)]) (st' := [.int 59]) (g_c dX2_nextWord_54 g_n) rfl rfl ?_
                        refine V_ldcS1 C dX2_nextWord_55 ?_
                        refine V_eq rfl rfl (st' := [.ref (100 + 1), .int 59]) rfl ?_
                        refine V_callVs C (i := 1) cv_X2_110 (c_lenW (g_up (g_up (g_up (g_up (g_up (g_up (g_up (g_up (g_up (g_up (g_up (g_up (g_up σ 19 4 (nI (q_run (q_let (q_l (σ 20) n)) 160 i))) 19 5 2) 19 5 tk0) 19 5 tk1) 19 5 tk2) 19 5 tk3) 19 5 tk4) 19 5 tk5) 19 5 tk6) 19 5 tk7) 19 5 tk8) 19 5 tk9) 19 5 tk10)) (by decide) rfl (by decide) (by decide) (fun _ h => h) (As := []) (rest := [.int 59]) rfl rfl (Nat.le_of_ble_eq_true rfl) dX2_nextWord_57 ?_
                        refine V_icmp_ge2 C (tgt := 111) dX2_nextWord_60 (by decide) (fun z => absurd z (by decide)) (fun _ => ?_)
                        refine V_ldcS1 C dX2_nextWord_63 ?_
                        refine V_eq rfl rfl (st' := [.ref (100 + 1)]) rfl ?_
                        refine V_blk C (pc' := 66) (σ' := (g_up (g_up (g_up (g_up (g_up (g_up (g_up (g_up (g_up (g_up (g_up (g_up (g_up σ 19 4 (nI (q_run (q_let (q_l (σ 20) n)) 160 i))) 19 5 2) 19 5 tk0) 19 5 tk1) 19 5 tk2) 19 5 tk3) 19 5 tk4) 19 5 tk5) 19 5 tk6) 19 5 tk7) 19 5 tk8) 19 5 tk9) 19 5 tk10)) (L' := [some (.ref 19), some (.int 11), some (.int 56), some (.int 59)]) (st' := [.int 59, .ref (100 + 1)]) (g_c dX2_nextWord_65 g_n) rfl rfl ?_
                        refine V_callVs C (i := 1) cv_X2_113 (c_chW (g_up (g_up (g_up (g_up (g_up (g_up (g_up (g_up (g_up (g_up (g_up (g_up (g_up σ 19 4 (nI (q_run (q_let (q_l (σ 20) n)) 160 i))) 19 5 2) 19 5 tk0) 19 5 tk1) 19 5 tk2) 19 5 tk3) 19 5 tk4) 19 5 tk5) 19 5 tk6) 19 5 tk7) 19 5 tk8) 19 5 tk9) 19 5 tk10) (k := 59) (c := 32) (by decide) (by decide)) (by decide) rfl (by decide) (by decide) (fun _ h => h) (As := [.int 59]) (rest := []) rfl rfl (Nat.le_of_ble_eq_true rfl) dX2_nextWord_66 ?_
                        refine V_blk C (pc' := 71) (σ' := (g_up (g_up (g_up (g_up (g_up (g_up (g_up (g_up (g_up (g_up (g_up (g_up (g_up σ 19 4 (nI (q_run (q_let (q_l (σ 20) n)) 160 i))) 19 5 2) 19 5 tk0) 19 5 tk1) 19 5 tk2) 19 5 tk3) 19 5 tk4) 19 5 tk5) 19 5 tk6) 19 5 tk7) 19 5 tk8) 19 5 tk9) 19 5 tk10)) (L' := [some (.ref 19), some (.int 11), some (.int 56), some (.int 59)]) (st' := [.int 32, .int 32]) (g_c dX2_nextWord_69 g_n) rfl rfl ?_
                        refine V_icmp_ne C (tgt := 105) dX2_nextWord_71 (by decide) (fun z => absurd z (by decide)) (fun _ => ?_)
                        refine V_blk C (pc' := 78) (σ' := (g_up (g_up (g_up (g_up (g_up (g_up (g_up (g_up (g_up (g_up (g_up (g_up (g_up σ 19 4 (nI (q_run (q_let (q_l (σ 20) n)) 160 i))) 19 5 2) 19 5 tk0) 19 5 tk1) 19 5 tk2) 19 5 tk3) 19 5 tk4) 19 5 tk5) 19 5 tk6) 19 5 tk7) 19 5 tk8) 19 5 tk9) 19 5 tk10)) (L' := [some (.ref 19), some (.int 11), some (.int 56), some (.int 59)]) (st' := [.int 59, .int 56, .ref 19, .ref 19]) (g_c dX2_nextWord_74 (g_c dX2_nextWord_75 (g_c dX2_nextWord_76 (g_c dX2_nextWord_77 g_n)))) rfl rfl ?_
                        refine V_callVI C cv_X2_117 (c_X2_isWord11 (g_up (g_up (g_up (g_up (g_up (g_up (g_up (g_up (g_up (g_up (g_up (g_up (g_up σ 19 4 (nI (q_run (q_let (q_l (σ 20) n)) 160 i))) 19 5 2) 19 5 tk0) 19 5 tk1) 19 5 tk2) 19 5 tk3) 19 5 tk4) 19 5 tk5) 19 5 tk6) 19 5 tk7) 19 5 tk8) 19 5 tk9) 19 5 tk10) hn hn160 hge hle rfl h6) ⟨_, _, _, _, rfl, rfl⟩ (by rfl) (by decide) (by decide) (fun _ h => h) (As := [.int 56, .int 59]) (rest := [.ref 19]) rfl rfl (Nat.le_of_ble_eq_true rfl) dX2_nextWord_78 ?_
                        refine V_join (P := q_is (q_l (σ 20) n) i (q_run (q_let (q_l (σ 20) n)) 160 i) [110, 111, 116] = true) (a := 108) (b := tk10) (pcJ := 95) (rest := [.ref 19]) (fun tk11 htk11 => ?_) (fun kT kF => ?_)
                        · skip
                          refine V_blk C (pc' := 108) (σ' := (g_up (g_up (g_up (g_up (g_up (g_up (g_up (g_up (g_up (g_up (g_up (g_up (g_up (g_up σ 19 4 (nI (q_run (q_let (q_l (σ 20) n)) 160 i))) 19 5 2) 19 5 tk0) 19 5 tk1) 19 5 tk2) 19 5 tk3) 19 5 tk4) 19 5 tk5) 19 5 tk6) 19 5 tk7) 19 5 tk8) 19 5 tk9) 19 5 tk10) 19 5 tk11)) (L' := [some (.ref 19), some (.int 12), some (.int 60), some (.int 60)]) (st' := []) (g_c dX2_nextWord_95 (g_c dX2_nextWord_98 (g_c dX2_nextWord_101 (g_c dX2_nextWord_102 (g_c dX2_nextWord_103 (g_c dX2_nextWord_104 (g_c dX2_nextWord_105 g_n))))))) rfl rfl ?_
                          refine V_goto C (tgt := 54) dX2_nextWord_108 (by decide) ?_
                          refine V_blk C (pc' := 55) (σ' := (g_up (g_up (g_up (g_up (g_up (g_up (g_up (g_up (g_up (g_up (g_up (g_up (g_up (g_up σ 19 4 (nI (q_run (q_let (q_l (σ 20) n)) 160 i))) 19 5 2) 19 5 tk0) 19 5 tk1) 19 5 tk2) 19 5 tk3) 19 5 tk4) 19 5 tk5) 19 5 tk6) 19 5 tk7) 19 5 tk8) 19 5 tk9) 19 5 tk10) 19 5 tk11)) (L' := [some (.ref 19), some (.int 12), some (.int 60), some (.int 60)]) (st' := [.int 60]) (g_c dX2_nextWord_54 g_n) rfl rfl ?_
                          refine V_ldcS1 C dX2_nextWord_55 ?_
                          refine V_eq rfl rfl (st' := [.ref (100 + 1), .int 60]) rfl ?_
                          refine V_callVs C (i := 1) cv_X2_110 (c_lenW (g_up (g_up (g_up (g_up (g_up (g_up (g_up (g_up (g_up (g_up (g_up (g_up (g_up (g_up σ 19 4 (nI (q_run (q_let (q_l (σ 20) n)) 160 i))) 19 5 2) 19 5 tk0) 19 5 tk1) 19 5 tk2) 19 5 tk3) 19 5 tk4) 19 5 tk5) 19 5 tk6) 19 5 tk7) 19 5 tk8) 19 5 tk9) 19 5 tk10) 19 5 tk11)) (by decide) rfl (by decide) (by decide) (fun _ h => h) (As := []) (rest := [.int 60]) rfl rfl (Nat.le_of_ble_eq_true rfl) dX2_nextWord_57 ?_
                          refine V_icmp_ge2 C (tgt := 111) dX2_nextWord_60 (by decide) (fun _ => ?_) (fun z => absurd z (by decide))
                          refine V_vret C dX2_nextWord_111 ?_
                          subst htk11 htk10 htk9 htk8 htk7 htk6 htk5 htk4 htk3 htk2 htk1 htk0
                          exact ⟨rfl, by simp only [g_up_tw]; rfl⟩
                        · refine V_if_eq_b C (tgt := 91) dX2_nextWord_81 (by decide) (fun h81 => ?_) (fun h81 => ?_)
                          · skip
                            refine V_blk C (pc' := 95) (σ' := (g_up (g_up (g_up (g_up (g_up (g_up (g_up (g_up (g_up (g_up (g_up (g_up (g_up σ 19 4 (nI (q_run (q_let (q_l (σ 20) n)) 160 i))) 19 5 2) 19 5 tk0) 19 5 tk1) 19 5 tk2) 19 5 tk3) 19 5 tk4) 19 5 tk5) 19 5 tk6) 19 5 tk7) 19 5 tk8) 19 5 tk9) 19 5 tk10)) (L' := [some (.ref 19), some (.int 11), some (.int 56), some (.int 59)]) (st' := [.int tk10, .ref 19]) (g_c dX2_nextWord_91 (g_c dX2_nextWord_92 g_n)) rfl rfl ?_
                            exact kF h81
                          · skip
                            refine V_blk C (pc' := 88) (σ' := (g_up (g_up (g_up (g_up (g_up (g_up (g_up (g_up (g_up (g_up (g_up (g_up (g_up σ 19 4 (nI (q_run (q_let (q_l (σ 20) n)) 160 i))) 19 5 2) 19 5 tk0) 19 5 tk1) 19 5 tk2) 19 5 tk3) 19 5 tk4) 19 5 tk5) 19 5 tk6) 19 5 tk7) 19 5 tk8) 19 5 tk9) 19 5 tk10)) (L' := [some (.ref 19), some (.int 11), some (.int 56), some (.int 59)]) (st' := [.int 108, .ref 19]) (g_c dX2_nextWord_84 (g_c dX2_nextWord_86 (g_c dX2_nextWord_87 g_n))) rfl rfl ?_
                            refine V_goto C (tgt := 95) dX2_nextWord_88 (by decide) ?_
                            exact kT h81
                      · refine V_if_eq_b C (tgt := 91) dX2_nextWord_81 (by decide) (fun h81 => ?_) (fun h81 => ?_)
                        · skip
                          refine V_blk C (pc' := 95) (σ' := (g_up (g_up (g_up (g_up (g_up (g_up (g_up (g_up (g_up (g_up (g_up (g_up σ 19 4 (nI (q_run (q_let (q_l (σ 20) n)) 160 i))) 19 5 2) 19 5 tk0) 19 5 tk1) 19 5 tk2) 19 5 tk3) 19 5 tk4) 19 5 tk5) 19 5 tk6) 19 5 tk7) 19 5 tk8) 19 5 tk9)) (L' := [some (.ref 19), some (.int 10), some (.int 52), some (.int 55)]) (st' := [.int tk9, .ref 19]) (g_c dX2_nextWord_91 (g_c dX2_nextWord_92 g_n)) rfl rfl ?_
                          exact kF h81
                        · skip
                          refine V_blk C (pc' := 88) (σ' := (g_up (g_up (g_up (g_up (g_up (g_up (g_up (g_up (g_up (g_up (g_up (g_up σ 19 4 (nI (q_run (q_let (q_l (σ 20) n)) 160 i))) 19 5 2) 19 5 tk0) 19 5 tk1) 19 5 tk2) 19 5 tk3) 19 5 tk4) 19 5 tk5) 19 5 tk6) 19 5 tk7) 19 5 tk8) 19 5 tk9)) (L' := [some (.ref 19), some (.int 10), some (.int 52), some (.int 55)]) (st' := [.int 107, .ref 19]) (g_c dX2_nextWord_84 (g_c dX2_nextWord_86 (g_c dX2_nextWord_87 g_n))) rfl rfl ?_
                          refine V_goto C (tgt := 95) dX2_nextWord_88 (by decide) ?_
                          exact kT h81
                    · refine V_if_eq_b C (tgt := 91) dX2_nextWord_81 (by decide) (fun h81 => ?_) (fun h81 => ?_)
                      · skip
                        refine V_blk C (pc' := 95) (σ' := (g_up (g_up (g_up (g_up (g_up (g_up (g_up (g_up (g_up (g_up (g_up σ 19 4 (nI (q_run (q_let (q_l (σ 20) n)) 160 i))) 19 5 2) 19 5 tk0) 19 5 tk1) 19 5 tk2) 19 5 tk3) 19 5 tk4) 19 5 tk5) 19 5 tk6) 19 5 tk7) 19 5 tk8)) (L' := [some (.ref 19), some (.int 9), some (.int 49), some (.int 51)]) (st' := [.int tk8, .ref 19]) (g_c dX2_nextWord_91 (g_c dX2_nextWord_92 g_n)) rfl rfl ?_
                        exact kF h81
                      · skip
                        refine V_blk C (pc' := 88) (σ' := (g_up (g_up (g_up (g_up (g_up (g_up (g_up (g_up (g_up (g_up (g_up σ 19 4 (nI (q_run (q_let (q_l (σ 20) n)) 160 i))) 19 5 2) 19 5 tk0) 19 5 tk1) 19 5 tk2) 19 5 tk3) 19 5 tk4) 19 5 tk5) 19 5 tk6) 19 5 tk7) 19 5 tk8)) (L' := [some (.ref 19), some (.int 9), some (.int 49), some (.int 51)]) (st' := [.int 106, .ref 19]) (g_c dX2_nextWord_84 (g_c dX2_nextWord_86 (g_c dX2_nextWord_87 g_n))) rfl rfl ?_
                        refine V_goto C (tgt := 95) dX2_nextWord_88 (by decide) ?_
                        exact kT h81
                  · refine V_if_eq_b C (tgt := 91) dX2_nextWord_81 (by decide) (fun h81 => ?_) (fun h81 => ?_)
                    · skip
                      refine V_blk C (pc' := 95) (σ' := (g_up (g_up (g_up (g_up (g_up (g_up (g_up (g_up (g_up (g_up σ 19 4 (nI (q_run (q_let (q_l (σ 20) n)) 160 i))) 19 5 2) 19 5 tk0) 19 5 tk1) 19 5 tk2) 19 5 tk3) 19 5 tk4) 19 5 tk5) 19 5 tk6) 19 5 tk7)) (L' := [some (.ref 19), some (.int 8), some (.int 43), some (.int 48)]) (st' := [.int tk7, .ref 19]) (g_c dX2_nextWord_91 (g_c dX2_nextWord_92 g_n)) rfl rfl ?_
                      exact kF h81
                    · skip
                      refine V_blk C (pc' := 88) (σ' := (g_up (g_up (g_up (g_up (g_up (g_up (g_up (g_up (g_up (g_up σ 19 4 (nI (q_run (q_let (q_l (σ 20) n)) 160 i))) 19 5 2) 19 5 tk0) 19 5 tk1) 19 5 tk2) 19 5 tk3) 19 5 tk4) 19 5 tk5) 19 5 tk6) 19 5 tk7)) (L' := [some (.ref 19), some (.int 8), some (.int 43), some (.int 48)]) (st' := [.int 105, .ref 19]) (g_c dX2_nextWord_84 (g_c dX2_nextWord_86 (g_c dX2_nextWord_87 g_n))) rfl rfl ?_
                      refine V_goto C (tgt := 95) dX2_nextWord_88 (by decide) ?_
                      exact kT h81
                · refine V_if_eq_b C (tgt := 91) dX2_nextWord_81 (by decide) (fun h81 => ?_) (fun h81 => ?_)
                  · skip
                    refine V_blk C (pc' := 95) (σ' := (g_up (g_up (g_up (g_up (g_up (g_up (g_up (g_up (g_up σ 19 4 (nI (q_run (q_let (q_l (σ 20) n)) 160 i))) 19 5 2) 19 5 tk0) 19 5 tk1) 19 5 tk2) 19 5 tk3) 19 5 tk4) 19 5 tk5) 19 5 tk6)) (L' := [some (.ref 19), some (.int 7), some (.int 37), some (.int 42)]) (st' := [.int tk6, .ref 19]) (g_c dX2_nextWord_91 (g_c dX2_nextWord_92 g_n)) rfl rfl ?_
                    exact kF h81
                  · skip
                    refine V_blk C (pc' := 88) (σ' := (g_up (g_up (g_up (g_up (g_up (g_up (g_up (g_up (g_up σ 19 4 (nI (q_run (q_let (q_l (σ 20) n)) 160 i))) 19 5 2) 19 5 tk0) 19 5 tk1) 19 5 tk2) 19 5 tk3) 19 5 tk4) 19 5 tk5) 19 5 tk6)) (L' := [some (.ref 19), some (.int 7), some (.int 37), some (.int 42)]) (st' := [.int 104, .ref 19]) (g_c dX2_nextWord_84 (g_c dX2_nextWord_86 (g_c dX2_nextWord_87 g_n))) rfl rfl ?_
                    refine V_goto C (tgt := 95) dX2_nextWord_88 (by decide) ?_
                    exact kT h81
              · refine V_if_eq_b C (tgt := 91) dX2_nextWord_81 (by decide) (fun h81 => ?_) (fun h81 => ?_)
                · skip
                  refine V_blk C (pc' := 95) (σ' := (g_up (g_up (g_up (g_up (g_up (g_up (g_up (g_up σ 19 4 (nI (q_run (q_let (q_l (σ 20) n)) 160 i))) 19 5 2) 19 5 tk0) 19 5 tk1) 19 5 tk2) 19 5 tk3) 19 5 tk4) 19 5 tk5)) (L' := [some (.ref 19), some (.int 6), some (.int 31), some (.int 36)]) (st' := [.int tk5, .ref 19]) (g_c dX2_nextWord_91 (g_c dX2_nextWord_92 g_n)) rfl rfl ?_
                  exact kF h81
                · skip
                  refine V_blk C (pc' := 88) (σ' := (g_up (g_up (g_up (g_up (g_up (g_up (g_up (g_up σ 19 4 (nI (q_run (q_let (q_l (σ 20) n)) 160 i))) 19 5 2) 19 5 tk0) 19 5 tk1) 19 5 tk2) 19 5 tk3) 19 5 tk4) 19 5 tk5)) (L' := [some (.ref 19), some (.int 6), some (.int 31), some (.int 36)]) (st' := [.int 103, .ref 19]) (g_c dX2_nextWord_84 (g_c dX2_nextWord_86 (g_c dX2_nextWord_87 g_n))) rfl rfl ?_
                  refine V_goto C (tgt := 95) dX2_nextWord_88 (by decide) ?_
                  exact kT h81
            · refine V_if_eq_b C (tgt := 91) dX2_nextWord_81 (by decide) (fun h81 => ?_) (fun h81 => ?_)
              · skip
                refine V_blk C (pc' := 95) (σ' := (g_up (g_up (g_up (g_up (g_up (g_up (g_up σ 19 4 (nI (q_run (q_let (q_l (σ 20) n)) 160 i))) 19 5 2) 19 5 tk0) 19 5 tk1) 19 5 tk2) 19 5 tk3) 19 5 tk4)) (L' := [some (.ref 19), some (.int 5), some (.int 26), some (.int 30)]) (st' := [.int tk4, .ref 19]) (g_c dX2_nextWord_91 (g_c dX2_nextWord_92 g_n)) rfl rfl ?_
                exact kF h81
              · skip
                refine V_blk C (pc' := 88) (σ' := (g_up (g_up (g_up (g_up (g_up (g_up (g_up σ 19 4 (nI (q_run (q_let (q_l (σ 20) n)) 160 i))) 19 5 2) 19 5 tk0) 19 5 tk1) 19 5 tk2) 19 5 tk3) 19 5 tk4)) (L' := [some (.ref 19), some (.int 5), some (.int 26), some (.int 30)]) (st' := [.int 102, .ref 19]) (g_c dX2_nextWord_84 (g_c dX2_nextWord_86 (g_c dX2_nextWord_87 g_n))) rfl rfl ?_
                refine V_goto C (tgt := 95) dX2_nextWord_88 (by decide) ?_
                exact kT h81
          · refine V_if_eq_b C (tgt := 91) dX2_nextWord_81 (by decide) (fun h81 => ?_) (fun h81 => ?_)
            · skip
              refine V_blk C (pc' := 95) (σ' := (g_up (g_up (g_up (g_up (g_up (g_up σ 19 4 (nI (q_run (q_let (q_l (σ 20) n)) 160 i))) 19 5 2) 19 5 tk0) 19 5 tk1) 19 5 tk2) 19 5 tk3)) (L' := [some (.ref 19), some (.int 4), some (.int 21), some (.int 25)]) (st' := [.int tk3, .ref 19]) (g_c dX2_nextWord_91 (g_c dX2_nextWord_92 g_n)) rfl rfl ?_
              exact kF h81
            · skip
              refine V_blk C (pc' := 88) (σ' := (g_up (g_up (g_up (g_up (g_up (g_up σ 19 4 (nI (q_run (q_let (q_l (σ 20) n)) 160 i))) 19 5 2) 19 5 tk0) 19 5 tk1) 19 5 tk2) 19 5 tk3)) (L' := [some (.ref 19), some (.int 4), some (.int 21), some (.int 25)]) (st' := [.int 101, .ref 19]) (g_c dX2_nextWord_84 (g_c dX2_nextWord_86 (g_c dX2_nextWord_87 g_n))) rfl rfl ?_
              refine V_goto C (tgt := 95) dX2_nextWord_88 (by decide) ?_
              exact kT h81
        · refine V_if_eq_b C (tgt := 91) dX2_nextWord_81 (by decide) (fun h81 => ?_) (fun h81 => ?_)
          · skip
            refine V_blk C (pc' := 95) (σ' := (g_up (g_up (g_up (g_up (g_up σ 19 4 (nI (q_run (q_let (q_l (σ 20) n)) 160 i))) 19 5 2) 19 5 tk0) 19 5 tk1) 19 5 tk2)) (L' := [some (.ref 19), some (.int 3), some (.int 16), some (.int 20)]) (st' := [.int tk2, .ref 19]) (g_c dX2_nextWord_91 (g_c dX2_nextWord_92 g_n)) rfl rfl ?_
            exact kF h81
          · skip
            refine V_blk C (pc' := 88) (σ' := (g_up (g_up (g_up (g_up (g_up σ 19 4 (nI (q_run (q_let (q_l (σ 20) n)) 160 i))) 19 5 2) 19 5 tk0) 19 5 tk1) 19 5 tk2)) (L' := [some (.ref 19), some (.int 3), some (.int 16), some (.int 20)]) (st' := [.int 100, .ref 19]) (g_c dX2_nextWord_84 (g_c dX2_nextWord_86 (g_c dX2_nextWord_87 g_n))) rfl rfl ?_
            refine V_goto C (tgt := 95) dX2_nextWord_88 (by decide) ?_
            exact kT h81
      · refine V_if_eq_b C (tgt := 91) dX2_nextWord_81 (by decide) (fun h81 => ?_) (fun h81 => ?_)
        · skip
          refine V_blk C (pc' := 95) (σ' := (g_up (g_up (g_up (g_up σ 19 4 (nI (q_run (q_let (q_l (σ 20) n)) 160 i))) 19 5 2) 19 5 tk0) 19 5 tk1)) (L' := [some (.ref 19), some (.int 2), some (.int 10), some (.int 15)]) (st' := [.int tk1, .ref 19]) (g_c dX2_nextWord_91 (g_c dX2_nextWord_92 g_n)) rfl rfl ?_
          exact kF h81
        · skip
          refine V_blk C (pc' := 88) (σ' := (g_up (g_up (g_up (g_up σ 19 4 (nI (q_run (q_let (q_l (σ 20) n)) 160 i))) 19 5 2) 19 5 tk0) 19 5 tk1)) (L' := [some (.ref 19), some (.int 2), some (.int 10), some (.int 15)]) (st' := [.int 99, .ref 19]) (g_c dX2_nextWord_84 (g_c dX2_nextWord_86 (g_c dX2_nextWord_87 g_n))) rfl rfl ?_
          refine V_goto C (tgt := 95) dX2_nextWord_88 (by decide) ?_
          exact kT h81
    · refine V_if_eq_b C (tgt := 91) dX2_nextWord_81 (by decide) (fun h81 => ?_) (fun h81 => ?_)
      · skip
        refine V_blk C (pc' := 95) (σ' := (g_up (g_up (g_up σ 19 4 (nI (q_run (q_let (q_l (σ 20) n)) 160 i))) 19 5 2) 19 5 tk0)) (L' := [some (.ref 19), some (.int 1), some (.int 5), some (.int 9)]) (st' := [.int tk0, .ref 19]) (g_c dX2_nextWord_91 (g_c dX2_nextWord_92 g_n)) rfl rfl ?_
        exact kF h81
      · skip
        refine V_blk C (pc' := 88) (σ' := (g_up (g_up (g_up σ 19 4 (nI (q_run (q_let (q_l (σ 20) n)) 160 i))) 19 5 2) 19 5 tk0)) (L' := [some (.ref 19), some (.int 1), some (.int 5), some (.int 9)]) (st' := [.int 98, .ref 19]) (g_c dX2_nextWord_84 (g_c dX2_nextWord_86 (g_c dX2_nextWord_87 g_n))) rfl rfl ?_
        refine V_goto C (tgt := 95) dX2_nextWord_88 (by decide) ?_
        exact kT h81
  · refine V_if_eq_b C (tgt := 91) dX2_nextWord_81 (by decide) (fun h81 => ?_) (fun h81 => ?_)
    · skip
      refine V_blk C (pc' := 95) (σ' := (g_up (g_up σ 19 4 (nI (q_run (q_let (q_l (σ 20) n)) 160 i))) 19 5 2)) (L' := [some (.ref 19), some (.int 0), some (.int 0), some (.int 4)]) (st' := [.int 2, .ref 19]) (g_c dX2_nextWord_91 (g_c dX2_nextWord_92 g_n)) rfl rfl ?_
      exact kF h81
    · skip
      refine V_blk C (pc' := 88) (σ' := (g_up (g_up σ 19 4 (nI (q_run (q_let (q_l (σ 20) n)) 160 i))) 19 5 2)) (L' := [some (.ref 19), some (.int 0), some (.int 0), some (.int 4)]) (st' := [.int 97, .ref 19]) (g_c dX2_nextWord_84 (g_c dX2_nextWord_86 (g_c dX2_nextWord_87 g_n))) rfl rfl ?_
      refine V_goto C (tgt := 95) dX2_nextWord_88 (by decide) ?_
      exact kT h81
