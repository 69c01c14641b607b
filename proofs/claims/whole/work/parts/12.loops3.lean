/-! IMAGE, BACK, COUNT 8, TAKEN, RAINS -/
theorem g_cp0 (σ : gS) (ks kd sp dp : Nat) : g_cp σ ks kd sp dp 0 = σ := by
  funext a
  by_cases h : a = kd
  · subst h
    funext b
    simp only [g_cp, va_cpy, reduceIte]
    rw [if_neg (by omega)]
  · simp only [g_cp, if_neg h]
set_option maxHeartbeats 4000000 in
set_option maxRecDepth 100000 in
theorem lp_image0 {X : gX} {G : gG} {K : List Nat} {Qp : Option Value → gS → Prop} {σ : gS} (hx : gV X G K 2 Qp (g_cp σ 67 83 0 0 24) [some (.ref 63), some (.int (nI 24))] [] 26) (C : gC X G K kM 2 cX8_image (g_RX 8) (some .int) 3) : ∀ (k : Nat) (v : Nat), (v + k = 24) → gV X G K 2 (Qp) (g_cp σ 67 83 0 0 v) [some (.ref 63), some (.int (nI v))] [] 2 := by
  intro k
  induction k with
  | zero =>
    intro v hk
    have hvn : v = 24 := by omega
    have hlt : ¬ nI v < 24 := by rw [hvn]; decide
    refine V_blk C (pc' := 5) (σ' := (g_cp σ 67 83 0 0 v)) (L' := [some (.ref 63), some (.int (nI v))]) (st' := [.int 24, .int (nI v)]) (g_c dX8_image_2 (g_c dX8_image_3 g_n)) rfl rfl ?_
    refine V_icmp_ge2 C (tgt := 26) dX8_image_5 (by decide) (fun h5 => ?_) (fun h5 => absurd h5 hlt)
    subst hvn
    exact hx
  | succ k ih =>
    intro v hk
    have hlt : nI v < 24 := nI_ltL (b := 24) (by omega) (by omega)
    refine V_blk C (pc' := 5) (σ' := (g_cp σ 67 83 0 0 v)) (L' := [some (.ref 63), some (.int (nI v))]) (st' := [.int 24, .int (nI v)]) (g_c dX8_image_2 (g_c dX8_image_3 g_n)) rfl rfl ?_
    refine V_icmp_ge2 C (tgt := 26) dX8_image_5 (by decide) (fun h5 => absurd hlt h5) (fun h5 => ?_)
    refine V_blk C (pc' := 18) (σ' := (g_cp σ 67 83 0 0 v)) (L' := [some (.ref 63), some (.int (nI v))]) (st' := [.int (nI v), .ref 67, .int (nI v), .ref 83]) (g_c dX8_image_8 (g_c dX8_image_9 (g_c dX8_image_12 (g_c dX8_image_13 (g_c dX8_image_14 (g_c dX8_image_17 g_n)))))) rfl rfl ?_
    refine V_ialdJ C (j := v) (k := 67) (n := 24) (by rfl) (by rfl) rfl (by omega) dX8_image_18 ?_
    refine V_iastJ C (j := v) (k := 83) (n := 24) (by rfl) (by rfl) rfl (by omega) dX8_image_19 ?_
    refine V_blk C (pc' := 23) (σ' := (g_up (g_cp σ 67 83 0 0 v) 83 v ((g_cp σ 67 83 0 0 v) 67 v))) (L' := [some (.ref 63), some (.int ((nI v) + 1))]) (st' := []) (g_c dX8_image_20 g_n) rfl rfl ?_
    refine V_goto C (tgt := 2) dX8_image_23 (by decide) ?_
    have e : (g_up (g_cp σ 67 83 0 0 v) 83 v ((g_cp σ 67 83 0 0 v) 67 v)) = (g_cp σ 67 83 0 0 (v + 1)) := by
      funext a
      by_cases h83 : a = 83
      · subst h83
        funext b
        simp only [g_up, g_cp, va_cpy, reduceIte, Nat.reduceEqDiff, Nat.zero_add, Nat.sub_zero]
        repeat' split
        all_goals first | rfl | omega | (exfalso; omega) | (congr 1; omega) | (subst_vars; congr 1; omega)
      · skip
        simp only [g_up, g_cp, if_neg h83, reduceIte]
    refine V_eq e (by rw [nI_1]) rfl (ih (v + 1) (by omega))
set_option maxHeartbeats 4000000 in
set_option maxRecDepth 100000 in
theorem lp_image1 {X : gX} {G : gG} {K : List Nat} {Qp : Option Value → gS → Prop} {σ : gS} (hx : gV X G K 2 Qp (g_cp (g_cp (g_cp σ 69 84 0 0 6) 70 84 0 6 6) 71 84 0 12 6) [some (.ref 63), some (.int (nI 6))] [] 82) (C : gC X G K kM 2 cX8_image (g_RX 8) (some .int) 3) : ∀ (k : Nat) (v : Nat), (v + k = 6) → gV X G K 2 (Qp) (g_cp (g_cp (g_cp σ 69 84 0 0 v) 70 84 0 6 v) 71 84 0 12 v) [some (.ref 63), some (.int (nI v))] [] 28 := by
  intro k
  induction k with
  | zero =>
    intro v hk
    have hvn : v = 6 := by omega
    have hlt : ¬ nI v < 6 := by rw [hvn]; decide
    refine V_blk C (pc' := 31) (σ' := (g_cp (g_cp (g_cp σ 69 84 0 0 v) 70 84 0 6 v) 71 84 0 12 v)) (L' := [some (.ref 63), some (.int (nI v))]) (st' := [.int 6, .int (nI v)]) (g_c dX8_image_28 (g_c dX8_image_29 g_n)) rfl rfl ?_
    refine V_icmp_ge2 C (tgt := 82) dX8_image_31 (by decide) (fun h31 => ?_) (fun h31 => absurd h31 hlt)
    subst hvn
    exact hx
  | succ k ih =>
    intro v hk
    have hlt : nI v < 6 := nI_ltL (b := 6) (by omega) (by omega)
    refine V_blk C (pc' := 31) (σ' := (g_cp (g_cp (g_cp σ 69 84 0 0 v) 70 84 0 6 v) 71 84 0 12 v)) (L' := [some (.ref 63), some (.int (nI v))]) (st' := [.int 6, .int (nI v)]) (g_c dX8_image_28 (g_c dX8_image_29 g_n)) rfl rfl ?_
    refine V_icmp_ge2 C (tgt := 82) dX8_image_31 (by decide) (fun h31 => absurd hlt h31) (fun h31 => ?_)
    refine V_blk C (pc' := 44) (σ' := (g_cp (g_cp (g_cp σ 69 84 0 0 v) 70 84 0 6 v) 71 84 0 12 v)) (L' := [some (.ref 63), some (.int (nI v))]) (st' := [.int (nI v), .ref 69, .int (nI v), .ref 84]) (g_c dX8_image_34 (g_c dX8_image_35 (g_c dX8_image_38 (g_c dX8_image_39 (g_c dX8_image_40 (g_c dX8_image_43 g_n)))))) rfl rfl ?_
    refine V_ialdJ C (j := v) (k := 69) (n := 6) (by rfl) (by rfl) rfl (by omega) dX8_image_44 ?_
    refine V_iastJ C (j := v) (k := 84) (n := 18) (by rfl) (by rfl) rfl (by omega) dX8_image_45 ?_
    refine V_blk C (pc' := 59) (σ' := (g_up (g_cp (g_cp (g_cp σ 69 84 0 0 v) 70 84 0 6 v) 71 84 0 12 v) 84 v ((g_cp (g_cp (g_cp σ 69 84 0 0 v) 70 84 0 6 v) 71 84 0 12 v) 69 v))) (L' := [some (.ref 63), some (.int (nI v))]) (st' := [.int (nI v), .ref 70, .int (6 + (nI v)), .ref 84]) (g_c dX8_image_46 (g_c dX8_image_47 (g_c dX8_image_50 (g_c dX8_image_52 (g_c dX8_image_53 (g_c dX8_image_54 (g_c dX8_image_55 (g_c dX8_image_58 g_n)))))))) rfl rfl ?_
    refine V_ialdJ C (j := v) (k := 70) (n := 6) (by rfl) (by rfl) rfl (by omega) dX8_image_59 ?_
    refine V_iastJ C (j := (6 + v)) (k := 84) (n := 18) (by rfl) (by rfl) (nI_add 6 v) (by omega) dX8_image_60 ?_
    refine V_blk C (pc' := 74) (σ' := (g_up (g_up (g_cp (g_cp (g_cp σ 69 84 0 0 v) 70 84 0 6 v) 71 84 0 12 v) 84 v ((g_cp (g_cp (g_cp σ 69 84 0 0 v) 70 84 0 6 v) 71 84 0 12 v) 69 v)) 84 (6 + v) ((g_cp (g_cp (g_cp σ 69 84 0 0 v) 70 84 0 6 v) 71 84 0 12 v) 70 v))) (L' := [some (.ref 63), some (.int (nI v))]) (st' := [.int (nI v), .ref 71, .int (12 + (nI v)), .ref 84]) (g_c dX8_image_61 (g_c dX8_image_62 (g_c dX8_image_65 (g_c dX8_image_67 (g_c dX8_image_68 (g_c dX8_image_69 (g_c dX8_image_70 (g_c dX8_image_73 g_n)))))))) rfl rfl ?_
    refine V_ialdJ C (j := v) (k := 71) (n := 6) (by rfl) (by rfl) rfl (by omega) dX8_image_74 ?_
    refine V_iastJ C (j := (12 + v)) (k := 84) (n := 18) (by rfl) (by rfl) (nI_add 12 v) (by omega) dX8_image_75 ?_
    refine V_blk C (pc' := 79) (σ' := (g_up (g_up (g_up (g_cp (g_cp (g_cp σ 69 84 0 0 v) 70 84 0 6 v) 71 84 0 12 v) 84 v ((g_cp (g_cp (g_cp σ 69 84 0 0 v) 70 84 0 6 v) 71 84 0 12 v) 69 v)) 84 (6 + v) ((g_cp (g_cp (g_cp σ 69 84 0 0 v) 70 84 0 6 v) 71 84 0 12 v) 70 v)) 84 (12 + v) ((g_cp (g_cp (g_cp σ 69 84 0 0 v) 70 84 0 6 v) 71 84 0 12 v) 71 v))) (L' := [some (.ref 63), some (.int ((nI v) + 1))]) (st' := []) (g_c dX8_image_76 g_n) rfl rfl ?_
    refine V_goto C (tgt := 28) dX8_image_79 (by decide) ?_
    have e : (g_up (g_up (g_up (g_cp (g_cp (g_cp σ 69 84 0 0 v) 70 84 0 6 v) 71 84 0 12 v) 84 v ((g_cp (g_cp (g_cp σ 69 84 0 0 v) 70 84 0 6 v) 71 84 0 12 v) 69 v)) 84 (6 + v) ((g_cp (g_cp (g_cp σ 69 84 0 0 v) 70 84 0 6 v) 71 84 0 12 v) 70 v)) 84 (12 + v) ((g_cp (g_cp (g_cp σ 69 84 0 0 v) 70 84 0 6 v) 71 84 0 12 v) 71 v)) = (g_cp (g_cp (g_cp σ 69 84 0 0 (v + 1)) 70 84 0 6 (v + 1)) 71 84 0 12 (v + 1)) := by
      funext a
      by_cases h84 : a = 84
      · subst h84
        funext b
        simp only [g_up, g_cp, va_cpy, reduceIte, Nat.reduceEqDiff, Nat.zero_add, Nat.sub_zero]
        repeat' split
        all_goals first | rfl | omega | (exfalso; omega) | (congr 1; omega) | (subst_vars; congr 1; omega)
      · skip
        simp only [g_up, g_cp, if_neg h84, reduceIte]
    refine V_eq e (by rw [nI_1]) rfl (ih (v + 1) (by omega))
set_option maxHeartbeats 4000000 in
set_option maxRecDepth 100000 in
theorem lp_image2 {X : gX} {G : gG} {K : List Nat} {Qp : Option Value → gS → Prop} {σ : gS} (hx : gV X G K 2 Qp (g_cp (g_cp σ 73 85 0 0 5) 74 85 0 5 5) [some (.ref 63), some (.int (nI 5))] [] 121) (C : gC X G K kM 2 cX8_image (g_RX 8) (some .int) 3) : ∀ (k : Nat) (v : Nat), (v + k = 5) → gV X G K 2 (Qp) (g_cp (g_cp σ 73 85 0 0 v) 74 85 0 5 v) [some (.ref 63), some (.int (nI v))] [] 84 := by
  intro k
  induction k with
  | zero =>
    intro v hk
    have hvn : v = 5 := by omega
    have hlt : ¬ nI v < 5 := by rw [hvn]; decide
    refine V_blk C (pc' := 86) (σ' := (g_cp (g_cp σ 73 85 0 0 v) 74 85 0 5 v)) (L' := [some (.ref 63), some (.int (nI v))]) (st' := [.int 5, .int (nI v)]) (g_c dX8_image_84 (g_c dX8_image_85 g_n)) rfl rfl ?_
    refine V_icmp_ge2 C (tgt := 121) dX8_image_86 (by decide) (fun h86 => ?_) (fun h86 => absurd h86 hlt)
    subst hvn
    exact hx
  | succ k ih =>
    intro v hk
    have hlt : nI v < 5 := nI_ltL (b := 5) (by omega) (by omega)
    refine V_blk C (pc' := 86) (σ' := (g_cp (g_cp σ 73 85 0 0 v) 74 85 0 5 v)) (L' := [some (.ref 63), some (.int (nI v))]) (st' := [.int 5, .int (nI v)]) (g_c dX8_image_84 (g_c dX8_image_85 g_n)) rfl rfl ?_
    refine V_icmp_ge2 C (tgt := 121) dX8_image_86 (by decide) (fun h86 => absurd hlt h86) (fun h86 => ?_)
    refine V_blk C (pc' := 99) (σ' := (g_cp (g_cp σ 73 85 0 0 v) 74 85 0 5 v)) (L' := [some (.ref 63), some (.int (nI v))]) (st' := [.int (nI v), .ref 73, .int (nI v), .ref 85]) (g_c dX8_image_89 (g_c dX8_image_90 (g_c dX8_image_93 (g_c dX8_image_94 (g_c dX8_image_95 (g_c dX8_image_98 g_n)))))) rfl rfl ?_
    refine V_ialdJ C (j := v) (k := 73) (n := 5) (by rfl) (by rfl) rfl (by omega) dX8_image_99 ?_
    refine V_iastJ C (j := v) (k := 85) (n := 10) (by rfl) (by rfl) rfl (by omega) dX8_image_100 ?_
    refine V_blk C (pc' := 113) (σ' := (g_up (g_cp (g_cp σ 73 85 0 0 v) 74 85 0 5 v) 85 v ((g_cp (g_cp σ 73 85 0 0 v) 74 85 0 5 v) 73 v))) (L' := [some (.ref 63), some (.int (nI v))]) (st' := [.int (nI v), .ref 74, .int (5 + (nI v)), .ref 85]) (g_c dX8_image_101 (g_c dX8_image_102 (g_c dX8_image_105 (g_c dX8_image_106 (g_c dX8_image_107 (g_c dX8_image_108 (g_c dX8_image_109 (g_c dX8_image_112 g_n)))))))) rfl rfl ?_
    refine V_ialdJ C (j := v) (k := 74) (n := 5) (by rfl) (by rfl) rfl (by omega) dX8_image_113 ?_
    refine V_iastJ C (j := (5 + v)) (k := 85) (n := 10) (by rfl) (by rfl) (nI_add 5 v) (by omega) dX8_image_114 ?_
    refine V_blk C (pc' := 118) (σ' := (g_up (g_up (g_cp (g_cp σ 73 85 0 0 v) 74 85 0 5 v) 85 v ((g_cp (g_cp σ 73 85 0 0 v) 74 85 0 5 v) 73 v)) 85 (5 + v) ((g_cp (g_cp σ 73 85 0 0 v) 74 85 0 5 v) 74 v))) (L' := [some (.ref 63), some (.int ((nI v) + 1))]) (st' := []) (g_c dX8_image_115 g_n) rfl rfl ?_
    refine V_goto C (tgt := 84) dX8_image_118 (by decide) ?_
    have e : (g_up (g_up (g_cp (g_cp σ 73 85 0 0 v) 74 85 0 5 v) 85 v ((g_cp (g_cp σ 73 85 0 0 v) 74 85 0 5 v) 73 v)) 85 (5 + v) ((g_cp (g_cp σ 73 85 0 0 v) 74 85 0 5 v) 74 v)) = (g_cp (g_cp σ 73 85 0 0 (v + 1)) 74 85 0 5 (v + 1)) := by
      funext a
      by_cases h85 : a = 85
      · subst h85
        funext b
        simp only [g_up, g_cp, va_cpy, reduceIte, Nat.reduceEqDiff, Nat.zero_add, Nat.sub_zero]
        repeat' split
        all_goals first | rfl | omega | (exfalso; omega) | (congr 1; omega) | (subst_vars; congr 1; omega)
      · skip
        simp only [g_up, g_cp, if_neg h85, reduceIte]
    refine V_eq e (by rw [nI_1]) rfl (ih (v + 1) (by omega))
set_option maxHeartbeats 4000000 in
set_option maxRecDepth 100000 in
theorem lp_back0 {X : gX} {G : gG} {K : List Nat} {Qp : Option Value → gS → Prop} {σ : gS} (hx : gV X G K 2 Qp (g_cp σ 83 67 0 0 24) [some (.ref 63), some (.int (nI 24))] [] 37) (C : gC X G K kM 2 cX8_back (g_RX 8) (some .int) 3) : ∀ (k : Nat) (v : Nat), (v + k = 24) → gV X G K 2 (Qp) (g_cp σ 83 67 0 0 v) [some (.ref 63), some (.int (nI v))] [] 13 := by
  intro k
  induction k with
  | zero =>
    intro v hk
    have hvn : v = 24 := by omega
    have hlt : ¬ nI v < 24 := by rw [hvn]; decide
    refine V_blk C (pc' := 16) (σ' := (g_cp σ 83 67 0 0 v)) (L' := [some (.ref 63), some (.int (nI v))]) (st' := [.int 24, .int (nI v)]) (g_c dX8_back_13 (g_c dX8_back_14 g_n)) rfl rfl ?_
    refine V_icmp_ge2 C (tgt := 37) dX8_back_16 (by decide) (fun h16 => ?_) (fun h16 => absurd h16 hlt)
    subst hvn
    exact hx
  | succ k ih =>
    intro v hk
    have hlt : nI v < 24 := nI_ltL (b := 24) (by omega) (by omega)
    refine V_blk C (pc' := 16) (σ' := (g_cp σ 83 67 0 0 v)) (L' := [some (.ref 63), some (.int (nI v))]) (st' := [.int 24, .int (nI v)]) (g_c dX8_back_13 (g_c dX8_back_14 g_n)) rfl rfl ?_
    refine V_icmp_ge2 C (tgt := 37) dX8_back_16 (by decide) (fun h16 => absurd hlt h16) (fun h16 => ?_)
    refine V_blk C (pc' := 29) (σ' := (g_cp σ 83 67 0 0 v)) (L' := [some (.ref 63), some (.int (nI v))]) (st' := [.int (nI v), .ref 83, .int (nI v), .ref 67]) (g_c dX8_back_19 (g_c dX8_back_20 (g_c dX8_back_23 (g_c dX8_back_24 (g_c dX8_back_25 (g_c dX8_back_28 g_n)))))) rfl rfl ?_
    refine V_ialdJ C (j := v) (k := 83) (n := 24) (by rfl) (by rfl) rfl (by omega) dX8_back_29 ?_
    refine V_iastJ C (j := v) (k := 67) (n := 24) (by rfl) (by rfl) rfl (by omega) dX8_back_30 ?_
    refine V_blk C (pc' := 34) (σ' := (g_up (g_cp σ 83 67 0 0 v) 67 v ((g_cp σ 83 67 0 0 v) 83 v))) (L' := [some (.ref 63), some (.int ((nI v) + 1))]) (st' := []) (g_c dX8_back_31 g_n) rfl rfl ?_
    refine V_goto C (tgt := 13) dX8_back_34 (by decide) ?_
    have e : (g_up (g_cp σ 83 67 0 0 v) 67 v ((g_cp σ 83 67 0 0 v) 83 v)) = (g_cp σ 83 67 0 0 (v + 1)) := by
      funext a
      by_cases h67 : a = 67
      · subst h67
        funext b
        simp only [g_up, g_cp, va_cpy, reduceIte, Nat.reduceEqDiff, Nat.zero_add, Nat.sub_zero]
        repeat' split
        all_goals first | rfl | omega | (exfalso; omega) | (congr 1; omega) | (subst_vars; congr 1; omega)
      · skip
        simp only [g_up, g_cp, if_neg h67, reduceIte]
    refine V_eq e (by rw [nI_1]) rfl (ih (v + 1) (by omega))
set_option maxHeartbeats 4000000 in
set_option maxRecDepth 100000 in
theorem lp_back1 {X : gX} {G : gG} {K : List Nat} {Qp : Option Value → gS → Prop} {σ : gS} (hx : gV X G K 2 Qp (g_cp (g_cp (g_cp σ 84 69 0 0 6) 84 70 6 0 6) 84 71 12 0 6) [some (.ref 63), some (.int (nI 6))] [] 93) (C : gC X G K kM 2 cX8_back (g_RX 8) (some .int) 3) : ∀ (k : Nat) (v : Nat), (v + k = 6) → gV X G K 2 (Qp) (g_cp (g_cp (g_cp σ 84 69 0 0 v) 84 70 6 0 v) 84 71 12 0 v) [some (.ref 63), some (.int (nI v))] [] 39 := by
  intro k
  induction k with
  | zero =>
    intro v hk
    have hvn : v = 6 := by omega
    have hlt : ¬ nI v < 6 := by rw [hvn]; decide
    refine V_blk C (pc' := 42) (σ' := (g_cp (g_cp (g_cp σ 84 69 0 0 v) 84 70 6 0 v) 84 71 12 0 v)) (L' := [some (.ref 63), some (.int (nI v))]) (st' := [.int 6, .int (nI v)]) (g_c dX8_back_39 (g_c dX8_back_40 g_n)) rfl rfl ?_
    refine V_icmp_ge2 C (tgt := 93) dX8_back_42 (by decide) (fun h42 => ?_) (fun h42 => absurd h42 hlt)
    subst hvn
    exact hx
  | succ k ih =>
    intro v hk
    have hlt : nI v < 6 := nI_ltL (b := 6) (by omega) (by omega)
    refine V_blk C (pc' := 42) (σ' := (g_cp (g_cp (g_cp σ 84 69 0 0 v) 84 70 6 0 v) 84 71 12 0 v)) (L' := [some (.ref 63), some (.int (nI v))]) (st' := [.int 6, .int (nI v)]) (g_c dX8_back_39 (g_c dX8_back_40 g_n)) rfl rfl ?_
    refine V_icmp_ge2 C (tgt := 93) dX8_back_42 (by decide) (fun h42 => absurd hlt h42) (fun h42 => ?_)
    refine V_blk C (pc' := 55) (σ' := (g_cp (g_cp (g_cp σ 84 69 0 0 v) 84 70 6 0 v) 84 71 12 0 v)) (L' := [some (.ref 63), some (.int (nI v))]) (st' := [.int (nI v), .ref 84, .int (nI v), .ref 69]) (g_c dX8_back_45 (g_c dX8_back_46 (g_c dX8_back_49 (g_c dX8_back_50 (g_c dX8_back_51 (g_c dX8_back_54 g_n)))))) rfl rfl ?_
    refine V_ialdJ C (j := v) (k := 84) (n := 18) (by rfl) (by rfl) rfl (by omega) dX8_back_55 ?_
    refine V_iastJ C (j := v) (k := 69) (n := 6) (by rfl) (by rfl) rfl (by omega) dX8_back_56 ?_
    refine V_blk C (pc' := 70) (σ' := (g_up (g_cp (g_cp (g_cp σ 84 69 0 0 v) 84 70 6 0 v) 84 71 12 0 v) 69 v ((g_cp (g_cp (g_cp σ 84 69 0 0 v) 84 70 6 0 v) 84 71 12 0 v) 84 v))) (L' := [some (.ref 63), some (.int (nI v))]) (st' := [.int (6 + (nI v)), .ref 84, .int (nI v), .ref 70]) (g_c dX8_back_57 (g_c dX8_back_58 (g_c dX8_back_61 (g_c dX8_back_62 (g_c dX8_back_63 (g_c dX8_back_66 (g_c dX8_back_68 (g_c dX8_back_69 g_n)))))))) rfl rfl ?_
    refine V_ialdJ C (j := (6 + v)) (k := 84) (n := 18) (by rfl) (by rfl) (nI_add 6 v) (by omega) dX8_back_70 ?_
    refine V_iastJ C (j := v) (k := 70) (n := 6) (by rfl) (by rfl) rfl (by omega) dX8_back_71 ?_
    refine V_blk C (pc' := 85) (σ' := (g_up (g_up (g_cp (g_cp (g_cp σ 84 69 0 0 v) 84 70 6 0 v) 84 71 12 0 v) 69 v ((g_cp (g_cp (g_cp σ 84 69 0 0 v) 84 70 6 0 v) 84 71 12 0 v) 84 v)) 70 v ((g_cp (g_cp (g_cp σ 84 69 0 0 v) 84 70 6 0 v) 84 71 12 0 v) 84 (6 + v)))) (L' := [some (.ref 63), some (.int (nI v))]) (st' := [.int (12 + (nI v)), .ref 84, .int (nI v), .ref 71]) (g_c dX8_back_72 (g_c dX8_back_73 (g_c dX8_back_76 (g_c dX8_back_77 (g_c dX8_back_78 (g_c dX8_back_81 (g_c dX8_back_83 (g_c dX8_back_84 g_n)))))))) rfl rfl ?_
    refine V_ialdJ C (j := (12 + v)) (k := 84) (n := 18) (by rfl) (by rfl) (nI_add 12 v) (by omega) dX8_back_85 ?_
    refine V_iastJ C (j := v) (k := 71) (n := 6) (by rfl) (by rfl) rfl (by omega) dX8_back_86 ?_
    refine V_blk C (pc' := 90) (σ' := (g_up (g_up (g_up (g_cp (g_cp (g_cp σ 84 69 0 0 v) 84 70 6 0 v) 84 71 12 0 v) 69 v ((g_cp (g_cp (g_cp σ 84 69 0 0 v) 84 70 6 0 v) 84 71 12 0 v) 84 v)) 70 v ((g_cp (g_cp (g_cp σ 84 69 0 0 v) 84 70 6 0 v) 84 71 12 0 v) 84 (6 + v))) 71 v ((g_cp (g_cp (g_cp σ 84 69 0 0 v) 84 70 6 0 v) 84 71 12 0 v) 84 (12 + v)))) (L' := [some (.ref 63), some (.int ((nI v) + 1))]) (st' := []) (g_c dX8_back_87 g_n) rfl rfl ?_
    refine V_goto C (tgt := 39) dX8_back_90 (by decide) ?_
    have e : (g_up (g_up (g_up (g_cp (g_cp (g_cp σ 84 69 0 0 v) 84 70 6 0 v) 84 71 12 0 v) 69 v ((g_cp (g_cp (g_cp σ 84 69 0 0 v) 84 70 6 0 v) 84 71 12 0 v) 84 v)) 70 v ((g_cp (g_cp (g_cp σ 84 69 0 0 v) 84 70 6 0 v) 84 71 12 0 v) 84 (6 + v))) 71 v ((g_cp (g_cp (g_cp σ 84 69 0 0 v) 84 70 6 0 v) 84 71 12 0 v) 84 (12 + v))) = (g_cp (g_cp (g_cp σ 84 69 0 0 (v + 1)) 84 70 6 0 (v + 1)) 84 71 12 0 (v + 1)) := by
      funext a
      by_cases h69 : a = 69
      · subst h69
        funext b
        simp only [g_up, g_cp, va_cpy, reduceIte, Nat.reduceEqDiff, Nat.zero_add, Nat.sub_zero]
        repeat' split
        all_goals first | rfl | omega | (exfalso; omega) | (congr 1; omega) | (subst_vars; congr 1; omega)
      · skip
        by_cases h70 : a = 70
        · subst h70
          funext b
          simp only [g_up, g_cp, va_cpy, reduceIte, Nat.reduceEqDiff, Nat.zero_add, Nat.sub_zero]
          repeat' split
          all_goals first | rfl | omega | (exfalso; omega) | (congr 1; omega) | (subst_vars; congr 1; omega)
        · skip
          by_cases h71 : a = 71
          · subst h71
            funext b
            simp only [g_up, g_cp, va_cpy, reduceIte, Nat.reduceEqDiff, Nat.zero_add, Nat.sub_zero]
            repeat' split
            all_goals first | rfl | omega | (exfalso; omega) | (congr 1; omega) | (subst_vars; congr 1; omega)
          · skip
            simp only [g_up, g_cp, if_neg h69, if_neg h70, if_neg h71, reduceIte]
    refine V_eq e (by rw [nI_1]) rfl (ih (v + 1) (by omega))
set_option maxHeartbeats 4000000 in
set_option maxRecDepth 100000 in
theorem lp_back2 {X : gX} {G : gG} {K : List Nat} {Qp : Option Value → gS → Prop} {σ : gS} (hx : gV X G K 2 Qp (g_cp (g_cp σ 85 73 0 0 5) 85 74 5 0 5) [some (.ref 63), some (.int (nI 5))] [] 132) (C : gC X G K kM 2 cX8_back (g_RX 8) (some .int) 3) : ∀ (k : Nat) (v : Nat), (v + k = 5) → gV X G K 2 (Qp) (g_cp (g_cp σ 85 73 0 0 v) 85 74 5 0 v) [some (.ref 63), some (.int (nI v))] [] 95 := by
  intro k
  induction k with
  | zero =>
    intro v hk
    have hvn : v = 5 := by omega
    have hlt : ¬ nI v < 5 := by rw [hvn]; decide
    refine V_blk C (pc' := 97) (σ' := (g_cp (g_cp σ 85 73 0 0 v) 85 74 5 0 v)) (L' := [some (.ref 63), some (.int (nI v))]) (st' := [.int 5, .int (nI v)]) (g_c dX8_back_95 (g_c dX8_back_96 g_n)) rfl rfl ?_
    refine V_icmp_ge2 C (tgt := 132) dX8_back_97 (by decide) (fun h97 => ?_) (fun h97 => absurd h97 hlt)
    subst hvn
    exact hx
  | succ k ih =>
    intro v hk
    have hlt : nI v < 5 := nI_ltL (b := 5) (by omega) (by omega)
    refine V_blk C (pc' := 97) (σ' := (g_cp (g_cp σ 85 73 0 0 v) 85 74 5 0 v)) (L' := [some (.ref 63), some (.int (nI v))]) (st' := [.int 5, .int (nI v)]) (g_c dX8_back_95 (g_c dX8_back_96 g_n)) rfl rfl ?_
    refine V_icmp_ge2 C (tgt := 132) dX8_back_97 (by decide) (fun h97 => absurd hlt h97) (fun h97 => ?_)
    refine V_blk C (pc' := 110) (σ' := (g_cp (g_cp σ 85 73 0 0 v) 85 74 5 0 v)) (L' := [some (.ref 63), some (.int (nI v))]) (st' := [.int (nI v), .ref 85, .int (nI v), .ref 73]) (g_c dX8_back_100 (g_c dX8_back_101 (g_c dX8_back_104 (g_c dX8_back_105 (g_c dX8_back_106 (g_c dX8_back_109 g_n)))))) rfl rfl ?_
    refine V_ialdJ C (j := v) (k := 85) (n := 10) (by rfl) (by rfl) rfl (by omega) dX8_back_110 ?_
    refine V_iastJ C (j := v) (k := 73) (n := 5) (by rfl) (by rfl) rfl (by omega) dX8_back_111 ?_
    refine V_blk C (pc' := 124) (σ' := (g_up (g_cp (g_cp σ 85 73 0 0 v) 85 74 5 0 v) 73 v ((g_cp (g_cp σ 85 73 0 0 v) 85 74 5 0 v) 85 v))) (L' := [some (.ref 63), some (.int (nI v))]) (st' := [.int (5 + (nI v)), .ref 85, .int (nI v), .ref 74]) (g_c dX8_back_112 (g_c dX8_back_113 (g_c dX8_back_116 (g_c dX8_back_117 (g_c dX8_back_118 (g_c dX8_back_121 (g_c dX8_back_122 (g_c dX8_back_123 g_n)))))))) rfl rfl ?_
    refine V_ialdJ C (j := (5 + v)) (k := 85) (n := 10) (by rfl) (by rfl) (nI_add 5 v) (by omega) dX8_back_124 ?_
    refine V_iastJ C (j := v) (k := 74) (n := 5) (by rfl) (by rfl) rfl (by omega) dX8_back_125 ?_
    refine V_blk C (pc' := 129) (σ' := (g_up (g_up (g_cp (g_cp σ 85 73 0 0 v) 85 74 5 0 v) 73 v ((g_cp (g_cp σ 85 73 0 0 v) 85 74 5 0 v) 85 v)) 74 v ((g_cp (g_cp σ 85 73 0 0 v) 85 74 5 0 v) 85 (5 + v)))) (L' := [some (.ref 63), some (.int ((nI v) + 1))]) (st' := []) (g_c dX8_back_126 g_n) rfl rfl ?_
    refine V_goto C (tgt := 95) dX8_back_129 (by decide) ?_
    have e : (g_up (g_up (g_cp (g_cp σ 85 73 0 0 v) 85 74 5 0 v) 73 v ((g_cp (g_cp σ 85 73 0 0 v) 85 74 5 0 v) 85 v)) 74 v ((g_cp (g_cp σ 85 73 0 0 v) 85 74 5 0 v) 85 (5 + v))) = (g_cp (g_cp σ 85 73 0 0 (v + 1)) 85 74 5 0 (v + 1)) := by
      funext a
      by_cases h73 : a = 73
      · subst h73
        funext b
        simp only [g_up, g_cp, va_cpy, reduceIte, Nat.reduceEqDiff, Nat.zero_add, Nat.sub_zero]
        repeat' split
        all_goals first | rfl | omega | (exfalso; omega) | (congr 1; omega) | (subst_vars; congr 1; omega)
      · skip
        by_cases h74 : a = 74
        · subst h74
          funext b
          simp only [g_up, g_cp, va_cpy, reduceIte, Nat.reduceEqDiff, Nat.zero_add, Nat.sub_zero]
          repeat' split
          all_goals first | rfl | omega | (exfalso; omega) | (congr 1; omega) | (subst_vars; congr 1; omega)
        · skip
          simp only [g_up, g_cp, if_neg h73, if_neg h74, reduceIte]
    refine V_eq e (by rw [nI_1]) rfl (ih (v + 1) (by omega))
set_option maxHeartbeats 4000000 in
set_option maxRecDepth 100000 in
theorem c_X8_image (σ : gS) : g_Met yX8_image cX8_image 2 (some .int) 3 kM [.ref 63] σ (fun rv s => rv = some (.int (σ 63 15)) ∧ s = (g_up (g_up (g_up (g_up (g_up (g_up (g_cp (g_cp (g_cp (g_cp (g_cp (g_cp σ 67 83 0 0 24) 69 84 0 0 6) 70 84 0 6 6) 71 84 0 12 6) 73 85 0 0 5) 74 85 0 5 5) 63 54 (σ 63 15)) 63 55 (σ 63 19)) 63 56 (σ 63 8)) 63 57 (σ 63 9)) 63 58 (σ 63 10)) 63 59 (σ 63 4))) := by
  refine g_Met.of (own := 8) (L := [some (.ref 63), none]) (by decide) rfl rfl (fun ad => Nat.le_of_ble_eq_true rfl) (fun ad => rfl) (fun X G K C => ?_)
  refine V_blk C (pc' := 2) (σ' := σ) (L' := [some (.ref 63), some (.int 0)]) (st' := []) (g_c dX8_image_0 (g_c dX8_image_1 g_n)) rfl rfl ?_
  refine V_less (L' := [some (.ref 63), some (.int 0)]) (by simp [g_subL]) ?_
  refine V_eq (σ' := (g_cp σ 67 83 0 0 0)) (by simp only [g_cp0]) rfl rfl (lp_image0 (σ := σ) ?_ C 24 0 (by omega))
  refine V_blk C (pc' := 28) (σ' := (g_cp σ 67 83 0 0 24)) (L' := [some (.ref 63), some (.int 0)]) (st' := []) (g_c dX8_image_26 (g_c dX8_image_27 g_n)) rfl rfl ?_
  refine V_less (L' := [some (.ref 63), some (.int 0)]) (by simp [g_subL]) ?_
  refine V_eq (σ' := (g_cp (g_cp (g_cp (g_cp σ 67 83 0 0 24) 69 84 0 0 0) 70 84 0 6 0) 71 84 0 12 0)) (by simp only [g_cp0]) rfl rfl (lp_image1 (σ := (g_cp σ 67 83 0 0 24)) ?_ C 6 0 (by omega))
  refine V_blk C (pc' := 84) (σ' := (g_cp (g_cp (g_cp (g_cp σ 67 83 0 0 24) 69 84 0 0 6) 70 84 0 6 6) 71 84 0 12 6)) (L' := [some (.ref 63), some (.int 0)]) (st' := []) (g_c dX8_image_82 (g_c dX8_image_83 g_n)) rfl rfl ?_
  refine V_less (L' := [some (.ref 63), some (.int 0)]) (by simp [g_subL]) ?_
  refine V_eq (σ' := (g_cp (g_cp (g_cp (g_cp (g_cp (g_cp σ 67 83 0 0 24) 69 84 0 0 6) 70 84 0 6 6) 71 84 0 12 6) 73 85 0 0 0) 74 85 0 5 0)) (by simp only [g_cp0]) rfl rfl (lp_image2 (σ := (g_cp (g_cp (g_cp (g_cp σ 67 83 0 0 24) 69 84 0 0 6) 70 84 0 6 6) 71 84 0 12 6)) ?_ C 5 0 (by omega))
  refine V_blk C (pc' := 173) (σ' := (g_up (g_up (g_up (g_up (g_up (g_up (g_cp (g_cp (g_cp (g_cp (g_cp (g_cp σ 67 83 0 0 24) 69 84 0 0 6) 70 84 0 6 6) 71 84 0 12 6) 73 85 0 0 5) 74 85 0 5 5) 63 54 ((g_cp (g_cp (g_cp (g_cp (g_cp (g_cp σ 67 83 0 0 24) 69 84 0 0 6) 70 84 0 6 6) 71 84 0 12 6) 73 85 0 0 5) 74 85 0 5 5) 63 15)) 63 55 ((g_cp (g_cp (g_cp (g_cp (g_cp (g_cp σ 67 83 0 0 24) 69 84 0 0 6) 70 84 0 6 6) 71 84 0 12 6) 73 85 0 0 5) 74 85 0 5 5) 63 19)) 63 56 ((g_cp (g_cp (g_cp (g_cp (g_cp (g_cp σ 67 83 0 0 24) 69 84 0 0 6) 70 84 0 6 6) 71 84 0 12 6) 73 85 0 0 5) 74 85 0 5 5) 63 8)) 63 57 ((g_cp (g_cp (g_cp (g_cp (g_cp (g_cp σ 67 83 0 0 24) 69 84 0 0 6) 70 84 0 6 6) 71 84 0 12 6) 73 85 0 0 5) 74 85 0 5 5) 63 9)) 63 58 ((g_cp (g_cp (g_cp (g_cp (g_cp (g_cp σ 67 83 0 0 24) 69 84 0 0 6) 70 84 0 6 6) 71 84 0 12 6) 73 85 0 0 5) 74 85 0 5 5) 63 10)) 63 59 ((g_cp (g_cp (g_cp (g_cp (g_cp (g_cp σ 67 83 0 0 24) 69 84 0 0 6) 70 84 0 6 6) 71 84 0 12 6) 73 85 0 0 5) 74 85 0 5 5) 63 4))) (L' := [some (.ref 63), some (.int (nI 5))]) (st' := [.int ((g_cp (g_cp (g_cp (g_cp (g_cp (g_cp σ 67 83 0 0 24) 69 84 0 0 6) 70 84 0 6 6) 71 84 0 12 6) 73 85 0 0 5) 74 85 0 5 5) 63 15)]) (g_c dX8_image_121 (g_c dX8_image_122 (g_c dX8_image_123 (g_c dX8_image_126 (g_c dX8_image_129 (g_c dX8_image_130 (g_c dX8_image_131 (g_c dX8_image_134 (g_c dX8_image_137 (g_c dX8_image_138 (g_c dX8_image_139 (g_c dX8_image_142 (g_c dX8_image_145 (g_c dX8_image_146 (g_c dX8_image_147 (g_c dX8_image_150 (g_c dX8_image_153 (g_c dX8_image_154 (g_c dX8_image_155 (g_c dX8_image_158 (g_c dX8_image_161 (g_c dX8_image_162 (g_c dX8_image_163 (g_c dX8_image_166 (g_c dX8_image_169 (g_c dX8_image_170 g_n)))))))))))))))))))))))))) rfl rfl ?_
  refine V_iret C dX8_image_173 ?_
  exact ⟨rfl, rfl⟩
set_option maxHeartbeats 4000000 in
set_option maxRecDepth 100000 in
theorem c_X8_back (σ : gS) : g_Met yX8_back cX8_back 2 (some .int) 3 kM [.ref 63] σ (fun rv s => rv = some (.int (if σ 63 54 = -1 then -3 else σ 63 54)) ∧ s = if σ 63 54 = -1 then σ else (g_up (g_up (g_up (g_up (g_up (g_up (g_cp (g_cp (g_cp (g_cp (g_cp (g_cp σ 83 67 0 0 24) 84 69 0 0 6) 84 70 6 0 6) 84 71 12 0 6) 85 73 0 0 5) 85 74 5 0 5) 63 15 (σ 63 54)) 63 19 (σ 63 55)) 63 8 (σ 63 56)) 63 9 (σ 63 57)) 63 10 (σ 63 58)) 63 4 (σ 63 59))) := by
  refine g_Met.of (own := 8) (L := [some (.ref 63), none]) (by decide) rfl rfl (fun ad => Nat.le_of_ble_eq_true rfl) (fun ad => rfl) (fun X G K C => ?_)
  refine V_blk C (pc' := 5) (σ' := σ) (L' := [some (.ref 63), none]) (st' := [.int (-1), .int (σ 63 54)]) (g_c dX8_back_0 (g_c dX8_back_1 (g_c dX8_back_4 g_n))) rfl rfl ?_
  refine V_icmp_ne C (tgt := 11) dX8_back_5 (by decide) (fun h5 => ?_) (fun h5 => ?_)
  · skip
    refine V_blk C (pc' := 13) (σ' := σ) (L' := [some (.ref 63), some (.int 0)]) (st' := []) (g_c dX8_back_11 (g_c dX8_back_12 g_n)) rfl rfl ?_
    refine V_less (L' := [some (.ref 63), some (.int 0)]) (by simp [g_subL]) ?_
    refine V_eq (σ' := (g_cp σ 83 67 0 0 0)) (by simp only [g_cp0]) rfl rfl (lp_back0 (σ := σ) ?_ C 24 0 (by omega))
    refine V_blk C (pc' := 39) (σ' := (g_cp σ 83 67 0 0 24)) (L' := [some (.ref 63), some (.int 0)]) (st' := []) (g_c dX8_back_37 (g_c dX8_back_38 g_n)) rfl rfl ?_
    refine V_less (L' := [some (.ref 63), some (.int 0)]) (by simp [g_subL]) ?_
    refine V_eq (σ' := (g_cp (g_cp (g_cp (g_cp σ 83 67 0 0 24) 84 69 0 0 0) 84 70 6 0 0) 84 71 12 0 0)) (by simp only [g_cp0]) rfl rfl (lp_back1 (σ := (g_cp σ 83 67 0 0 24)) ?_ C 6 0 (by omega))
    refine V_blk C (pc' := 95) (σ' := (g_cp (g_cp (g_cp (g_cp σ 83 67 0 0 24) 84 69 0 0 6) 84 70 6 0 6) 84 71 12 0 6)) (L' := [some (.ref 63), some (.int 0)]) (st' := []) (g_c dX8_back_93 (g_c dX8_back_94 g_n)) rfl rfl ?_
    refine V_less (L' := [some (.ref 63), some (.int 0)]) (by simp [g_subL]) ?_
    refine V_eq (σ' := (g_cp (g_cp (g_cp (g_cp (g_cp (g_cp σ 83 67 0 0 24) 84 69 0 0 6) 84 70 6 0 6) 84 71 12 0 6) 85 73 0 0 0) 85 74 5 0 0)) (by simp only [g_cp0]) rfl rfl (lp_back2 (σ := (g_cp (g_cp (g_cp (g_cp σ 83 67 0 0 24) 84 69 0 0 6) 84 70 6 0 6) 84 71 12 0 6)) ?_ C 5 0 (by omega))
    refine V_blk C (pc' := 184) (σ' := (g_up (g_up (g_up (g_up (g_up (g_up (g_cp (g_cp (g_cp (g_cp (g_cp (g_cp σ 83 67 0 0 24) 84 69 0 0 6) 84 70 6 0 6) 84 71 12 0 6) 85 73 0 0 5) 85 74 5 0 5) 63 15 ((g_cp (g_cp (g_cp (g_cp (g_cp (g_cp σ 83 67 0 0 24) 84 69 0 0 6) 84 70 6 0 6) 84 71 12 0 6) 85 73 0 0 5) 85 74 5 0 5) 63 54)) 63 19 ((g_cp (g_cp (g_cp (g_cp (g_cp (g_cp σ 83 67 0 0 24) 84 69 0 0 6) 84 70 6 0 6) 84 71 12 0 6) 85 73 0 0 5) 85 74 5 0 5) 63 55)) 63 8 ((g_cp (g_cp (g_cp (g_cp (g_cp (g_cp σ 83 67 0 0 24) 84 69 0 0 6) 84 70 6 0 6) 84 71 12 0 6) 85 73 0 0 5) 85 74 5 0 5) 63 56)) 63 9 ((g_cp (g_cp (g_cp (g_cp (g_cp (g_cp σ 83 67 0 0 24) 84 69 0 0 6) 84 70 6 0 6) 84 71 12 0 6) 85 73 0 0 5) 85 74 5 0 5) 63 57)) 63 10 ((g_cp (g_cp (g_cp (g_cp (g_cp (g_cp σ 83 67 0 0 24) 84 69 0 0 6) 84 70 6 0 6) 84 71 12 0 6) 85 73 0 0 5) 85 74 5 0 5) 63 58)) 63 4 ((g_cp (g_cp (g_cp (g_cp (g_cp (g_cp σ 83 67 0 0 24) 84 69 0 0 6) 84 70 6 0 6) 84 71 12 0 6) 85 73 0 0 5) 85 74 5 0 5) 63 59))) (L' := [some (.ref 63), some (.int (nI 5))]) (st' := [.int ((g_cp (g_cp (g_cp (g_cp (g_cp (g_cp σ 83 67 0 0 24) 84 69 0 0 6) 84 70 6 0 6) 84 71 12 0 6) 85 73 0 0 5) 85 74 5 0 5) 63 54)]) (g_c dX8_back_132 (g_c dX8_back_133 (g_c dX8_back_134 (g_c dX8_back_137 (g_c dX8_back_140 (g_c dX8_back_141 (g_c dX8_back_142 (g_c dX8_back_145 (g_c dX8_back_148 (g_c dX8_back_149 (g_c dX8_back_150 (g_c dX8_back_153 (g_c dX8_back_156 (g_c dX8_back_157 (g_c dX8_back_158 (g_c dX8_back_161 (g_c dX8_back_164 (g_c dX8_back_165 (g_c dX8_back_166 (g_c dX8_back_169 (g_c dX8_back_172 (g_c dX8_back_173 (g_c dX8_back_174 (g_c dX8_back_177 (g_c dX8_back_180 (g_c dX8_back_181 g_n)))))))))))))))))))))))))) rfl rfl ?_
    refine V_iret C dX8_back_184 ?_
    exact ⟨by (rw [if_neg h5]; try rfl), by (rw [if_neg h5]; try rfl)⟩
  · skip
    refine V_blk C (pc' := 10) (σ' := σ) (L' := [some (.ref 63), none]) (st' := [.int (-3)]) (g_c dX8_back_8 g_n) rfl rfl ?_
    refine V_iret C dX8_back_10 ?_
    exact ⟨by rw [if_pos h5], by rw [if_pos h5]⟩
set_option maxHeartbeats 4000000 in
set_option maxRecDepth 100000 in
theorem c_X1_become_1 (σ : gS) : g_Met yX1_become cX1_become 2 none 2 kX [.ref 1, .ref 10] σ (fun rv s => rv = none ∧ s = (g_up (g_up (g_up (g_up (g_up (g_up (g_cp (g_cp (g_cp (g_cp (g_cp (g_cp (g_cp (g_cp σ 11 2 0 0 24) 12 3 0 0 6) 13 4 0 0 6) 14 5 0 0 6) 15 6 0 0 6) 16 7 0 0 5) 17 8 0 0 5) 18 9 0 0 5) 1 8 (σ 10 8)) 1 9 (σ 10 9)) 1 10 (σ 10 10)) 1 11 (σ 10 11)) 1 12 (σ 10 12)) 1 13 (σ 10 13))) := by
  refine g_Met.of (own := 1) (L := [some (.ref 1), some (.ref 10)]) (by decide) rfl rfl (fun ad => Nat.le_of_ble_eq_true rfl) (fun ad => rfl) (fun X G K C => ?_)
  refine V_blk C (pc' := 12) (σ' := σ) (L' := [some (.ref 1), some (.ref 10)]) (st' := [.int 24, .int 0, .ref 2, .int 0, .ref 11]) (g_c dX1_become_0 (g_c dX1_become_1 (g_c dX1_become_4 (g_c dX1_become_5 (g_c dX1_become_6 (g_c dX1_become_9 (g_c dX1_become_10 g_n))))))) rfl rfl ?_
  refine V_copy C (ks := 11) (kd := 2) (ns := 24) (nd := 24) (sp := 0) (dp := 0) (n := 24) ca_X1_40 (by rfl) (by rfl) (by rfl) (by rfl) (by rfl) (by rfl) (by rfl) (by decide) (by decide) (by decide) (by decide) dX1_become_12 ?_
  refine V_blk C (pc' := 27) (σ' := (g_cp σ 11 2 0 0 24)) (L' := [some (.ref 1), some (.ref 10)]) (st' := [.int 6, .int 0, .ref 3, .int 0, .ref 12]) (g_c dX1_become_15 (g_c dX1_become_16 (g_c dX1_become_19 (g_c dX1_become_20 (g_c dX1_become_21 (g_c dX1_become_24 (g_c dX1_become_25 g_n))))))) rfl rfl ?_
  refine V_copy C (ks := 12) (kd := 3) (ns := 6) (nd := 6) (sp := 0) (dp := 0) (n := 6) ca_X1_40 (by rfl) (by rfl) (by rfl) (by rfl) (by rfl) (by rfl) (by rfl) (by decide) (by decide) (by decide) (by decide) dX1_become_27 ?_
  refine V_blk C (pc' := 42) (σ' := (g_cp (g_cp σ 11 2 0 0 24) 12 3 0 0 6)) (L' := [some (.ref 1), some (.ref 10)]) (st' := [.int 6, .int 0, .ref 4, .int 0, .ref 13]) (g_c dX1_become_30 (g_c dX1_become_31 (g_c dX1_become_34 (g_c dX1_become_35 (g_c dX1_become_36 (g_c dX1_become_39 (g_c dX1_become_40 g_n))))))) rfl rfl ?_
  refine V_copy C (ks := 13) (kd := 4) (ns := 6) (nd := 6) (sp := 0) (dp := 0) (n := 6) ca_X1_40 (by rfl) (by rfl) (by rfl) (by rfl) (by rfl) (by rfl) (by rfl) (by decide) (by decide) (by decide) (by decide) dX1_become_42 ?_
  refine V_blk C (pc' := 57) (σ' := (g_cp (g_cp (g_cp σ 11 2 0 0 24) 12 3 0 0 6) 13 4 0 0 6)) (L' := [some (.ref 1), some (.ref 10)]) (st' := [.int 6, .int 0, .ref 5, .int 0, .ref 14]) (g_c dX1_become_45 (g_c dX1_become_46 (g_c dX1_become_49 (g_c dX1_become_50 (g_c dX1_become_51 (g_c dX1_become_54 (g_c dX1_become_55 g_n))))))) rfl rfl ?_
  refine V_copy C (ks := 14) (kd := 5) (ns := 6) (nd := 6) (sp := 0) (dp := 0) (n := 6) ca_X1_40 (by rfl) (by rfl) (by rfl) (by rfl) (by rfl) (by rfl) (by rfl) (by decide) (by decide) (by decide) (by decide) dX1_become_57 ?_
  refine V_blk C (pc' := 72) (σ' := (g_cp (g_cp (g_cp (g_cp σ 11 2 0 0 24) 12 3 0 0 6) 13 4 0 0 6) 14 5 0 0 6)) (L' := [some (.ref 1), some (.ref 10)]) (st' := [.int 6, .int 0, .ref 6, .int 0, .ref 15]) (g_c dX1_become_60 (g_c dX1_become_61 (g_c dX1_become_64 (g_c dX1_become_65 (g_c dX1_become_66 (g_c dX1_become_69 (g_c dX1_become_70 g_n))))))) rfl rfl ?_
  refine V_copy C (ks := 15) (kd := 6) (ns := 6) (nd := 6) (sp := 0) (dp := 0) (n := 6) ca_X1_40 (by rfl) (by rfl) (by rfl) (by rfl) (by rfl) (by rfl) (by rfl) (by decide) (by decide) (by decide) (by decide) dX1_become_72 ?_
  refine V_blk C (pc' := 86) (σ' := (g_cp (g_cp (g_cp (g_cp (g_cp σ 11 2 0 0 24) 12 3 0 0 6) 13 4 0 0 6) 14 5 0 0 6) 15 6 0 0 6)) (L' := [some (.ref 1), some (.ref 10)]) (st' := [.int 5, .int 0, .ref 7, .int 0, .ref 16]) (g_c dX1_become_75 (g_c dX1_become_76 (g_c dX1_become_79 (g_c dX1_become_80 (g_c dX1_become_81 (g_c dX1_become_84 (g_c dX1_become_85 g_n))))))) rfl rfl ?_
  refine V_copy C (ks := 16) (kd := 7) (ns := 5) (nd := 5) (sp := 0) (dp := 0) (n := 5) ca_X1_40 (by rfl) (by rfl) (by rfl) (by rfl) (by rfl) (by rfl) (by rfl) (by decide) (by decide) (by decide) (by decide) dX1_become_86 ?_
  refine V_blk C (pc' := 100) (σ' := (g_cp (g_cp (g_cp (g_cp (g_cp (g_cp σ 11 2 0 0 24) 12 3 0 0 6) 13 4 0 0 6) 14 5 0 0 6) 15 6 0 0 6) 16 7 0 0 5)) (L' := [some (.ref 1), some (.ref 10)]) (st' := [.int 5, .int 0, .ref 8, .int 0, .ref 17]) (g_c dX1_become_89 (g_c dX1_become_90 (g_c dX1_become_93 (g_c dX1_become_94 (g_c dX1_become_95 (g_c dX1_become_98 (g_c dX1_become_99 g_n))))))) rfl rfl ?_
  refine V_copy C (ks := 17) (kd := 8) (ns := 5) (nd := 5) (sp := 0) (dp := 0) (n := 5) ca_X1_40 (by rfl) (by rfl) (by rfl) (by rfl) (by rfl) (by rfl) (by rfl) (by decide) (by decide) (by decide) (by decide) dX1_become_100 ?_
  refine V_blk C (pc' := 114) (σ' := (g_cp (g_cp (g_cp (g_cp (g_cp (g_cp (g_cp σ 11 2 0 0 24) 12 3 0 0 6) 13 4 0 0 6) 14 5 0 0 6) 15 6 0 0 6) 16 7 0 0 5) 17 8 0 0 5)) (L' := [some (.ref 1), some (.ref 10)]) (st' := [.int 5, .int 0, .ref 9, .int 0, .ref 18]) (g_c dX1_become_103 (g_c dX1_become_104 (g_c dX1_become_107 (g_c dX1_become_108 (g_c dX1_become_109 (g_c dX1_become_112 (g_c dX1_become_113 g_n))))))) rfl rfl ?_
  refine V_copy C (ks := 18) (kd := 9) (ns := 5) (nd := 5) (sp := 0) (dp := 0) (n := 5) ca_X1_40 (by rfl) (by rfl) (by rfl) (by rfl) (by rfl) (by rfl) (by rfl) (by decide) (by decide) (by decide) (by decide) dX1_become_114 ?_
  refine V_blk C (pc' := 165) (σ' := (g_up (g_up (g_up (g_up (g_up (g_up (g_cp (g_cp (g_cp (g_cp (g_cp (g_cp (g_cp (g_cp σ 11 2 0 0 24) 12 3 0 0 6) 13 4 0 0 6) 14 5 0 0 6) 15 6 0 0 6) 16 7 0 0 5) 17 8 0 0 5) 18 9 0 0 5) 1 8 ((g_cp (g_cp (g_cp (g_cp (g_cp (g_cp (g_cp (g_cp σ 11 2 0 0 24) 12 3 0 0 6) 13 4 0 0 6) 14 5 0 0 6) 15 6 0 0 6) 16 7 0 0 5) 17 8 0 0 5) 18 9 0 0 5) 10 8)) 1 9 ((g_cp (g_cp (g_cp (g_cp (g_cp (g_cp (g_cp (g_cp σ 11 2 0 0 24) 12 3 0 0 6) 13 4 0 0 6) 14 5 0 0 6) 15 6 0 0 6) 16 7 0 0 5) 17 8 0 0 5) 18 9 0 0 5) 10 9)) 1 10 ((g_cp (g_cp (g_cp (g_cp (g_cp (g_cp (g_cp (g_cp σ 11 2 0 0 24) 12 3 0 0 6) 13 4 0 0 6) 14 5 0 0 6) 15 6 0 0 6) 16 7 0 0 5) 17 8 0 0 5) 18 9 0 0 5) 10 10)) 1 11 ((g_cp (g_cp (g_cp (g_cp (g_cp (g_cp (g_cp (g_cp σ 11 2 0 0 24) 12 3 0 0 6) 13 4 0 0 6) 14 5 0 0 6) 15 6 0 0 6) 16 7 0 0 5) 17 8 0 0 5) 18 9 0 0 5) 10 11)) 1 12 ((g_cp (g_cp (g_cp (g_cp (g_cp (g_cp (g_cp (g_cp σ 11 2 0 0 24) 12 3 0 0 6) 13 4 0 0 6) 14 5 0 0 6) 15 6 0 0 6) 16 7 0 0 5) 17 8 0 0 5) 18 9 0 0 5) 10 12)) 1 13 ((g_cp (g_cp (g_cp (g_cp (g_cp (g_cp (g_cp (g_cp σ 11 2 0 0 24) 12 3 0 0 6) 13 4 0 0 6) 14 5 0 0 6) 15 6 0 0 6) 16 7 0 0 5) 17 8 0 0 5) 18 9 0 0 5) 10 13))) (L' := [some (.ref 1), some (.ref 10)]) (st' := []) (g_c dX1_become_117 (g_c dX1_become_118 (g_c dX1_become_119 (g_c dX1_become_122 (g_c dX1_become_125 (g_c dX1_become_126 (g_c dX1_become_127 (g_c dX1_become_130 (g_c dX1_become_133 (g_c dX1_become_134 (g_c dX1_become_135 (g_c dX1_become_138 (g_c dX1_become_141 (g_c dX1_become_142 (g_c dX1_become_143 (g_c dX1_become_146 (g_c dX1_become_149 (g_c dX1_become_150 (g_c dX1_become_151 (g_c dX1_become_154 (g_c dX1_become_157 (g_c dX1_become_158 (g_c dX1_become_159 (g_c dX1_become_162 g_n)))))))))))))))))))))))) rfl rfl ?_
  refine V_vret C dX1_become_165 ?_
  exact ⟨rfl, rfl⟩
set_option maxHeartbeats 4000000 in
set_option maxRecDepth 100000 in
theorem c_X1_become_10 (σ : gS) : g_Met yX1_become cX1_become 2 none 2 kX [.ref 10, .ref 1] σ (fun rv s => rv = none ∧ s = (g_up (g_up (g_up (g_up (g_up (g_up (g_cp (g_cp (g_cp (g_cp (g_cp (g_cp (g_cp (g_cp σ 2 11 0 0 24) 3 12 0 0 6) 4 13 0 0 6) 5 14 0 0 6) 6 15 0 0 6) 7 16 0 0 5) 8 17 0 0 5) 9 18 0 0 5) 10 8 (σ 1 8)) 10 9 (σ 1 9)) 10 10 (σ 1 10)) 10 11 (σ 1 11)) 10 12 (σ 1 12)) 10 13 (σ 1 13))) := by
  refine g_Met.of (own := 1) (L := [some (.ref 10), some (.ref 1)]) (by decide) rfl rfl (fun ad => Nat.le_of_ble_eq_true rfl) (fun ad => rfl) (fun X G K C => ?_)
  refine V_blk C (pc' := 12) (σ' := σ) (L' := [some (.ref 10), some (.ref 1)]) (st' := [.int 24, .int 0, .ref 11, .int 0, .ref 2]) (g_c dX1_become_0 (g_c dX1_become_1 (g_c dX1_become_4 (g_c dX1_become_5 (g_c dX1_become_6 (g_c dX1_become_9 (g_c dX1_become_10 g_n))))))) rfl rfl ?_
  refine V_copy C (ks := 2) (kd := 11) (ns := 24) (nd := 24) (sp := 0) (dp := 0) (n := 24) ca_X1_40 (by rfl) (by rfl) (by rfl) (by rfl) (by rfl) (by rfl) (by rfl) (by decide) (by decide) (by decide) (by decide) dX1_become_12 ?_
  refine V_blk C (pc' := 27) (σ' := (g_cp σ 2 11 0 0 24)) (L' := [some (.ref 10), some (.ref 1)]) (st' := [.int 6, .int 0, .ref 12, .int 0, .ref 3]) (g_c dX1_become_15 (g_c dX1_become_16 (g_c dX1_become_19 (g_c dX1_become_20 (g_c dX1_become_21 (g_c dX1_become_24 (g_c dX1_become_25 g_n))))))) rfl rfl ?_
  refine V_copy C (ks := 3) (kd := 12) (ns := 6) (nd := 6) (sp := 0) (dp := 0) (n := 6) ca_X1_40 (by rfl) (by rfl) (by rfl) (by rfl) (by rfl) (by rfl) (by rfl) (by decide) (by decide) (by decide) (by decide) dX1_become_27 ?_
  refine V_blk C (pc' := 42) (σ' := (g_cp (g_cp σ 2 11 0 0 24) 3 12 0 0 6)) (L' := [some (.ref 10), some (.ref 1)]) (st' := [.int 6, .int 0, .ref 13, .int 0, .ref 4]) (g_c dX1_become_30 (g_c dX1_become_31 (g_c dX1_become_34 (g_c dX1_become_35 (g_c dX1_become_36 (g_c dX1_become_39 (g_c dX1_become_40 g_n))))))) rfl rfl ?_
  refine V_copy C (ks := 4) (kd := 13) (ns := 6) (nd := 6) (sp := 0) (dp := 0) (n := 6) ca_X1_40 (by rfl) (by rfl) (by rfl) (by rfl) (by rfl) (by rfl) (by rfl) (by decide) (by decide) (by decide) (by decide) dX1_become_42 ?_
  refine V_blk C (pc' := 57) (σ' := (g_cp (g_cp (g_cp σ 2 11 0 0 24) 3 12 0 0 6) 4 13 0 0 6)) (L' := [some (.ref 10), some (.ref 1)]) (st' := [.int 6, .int 0, .ref 14, .int 0, .ref 5]) (g_c dX1_become_45 (g_c dX1_become_46 (g_c dX1_become_49 (g_c dX1_become_50 (g_c dX1_become_51 (g_c dX1_become_54 (g_c dX1_become_55 g_n))))))) rfl rfl ?_
  refine V_copy C (ks := 5) (kd := 14) (ns := 6) (nd := 6) (sp := 0) (dp := 0) (n := 6) ca_X1_40 (by rfl) (by rfl) (by rfl) (by rfl) (by rfl) (by rfl) (by rfl) (by decide) (by decide) (by decide) (by decide) dX1_become_57 ?_
  refine V_blk C (pc' := 72) (σ' := (g_cp (g_cp (g_cp (g_cp σ 2 11 0 0 24) 3 12 0 0 6) 4 13 0 0 6) 5 14 0 0 6)) (L' := [some (.ref 10), some (.ref 1)]) (st' := [.int 6, .int 0, .ref 15, .int 0, .ref 6]) (g_c dX1_become_60 (g_c dX1_become_61 (g_c dX1_become_64 (g_c dX1_become_65 (g_c dX1_become_66 (g_c dX1_become_69 (g_c dX1_become_70 g_n))))))) rfl rfl ?_
  refine V_copy C (ks := 6) (kd := 15) (ns := 6) (nd := 6) (sp := 0) (dp := 0) (n := 6) ca_X1_40 (by rfl) (by rfl) (by rfl) (by rfl) (by rfl) (by rfl) (by rfl) (by decide) (by decide) (by decide) (by decide) dX1_become_72 ?_
  refine V_blk C (pc' := 86) (σ' := (g_cp (g_cp (g_cp (g_cp (g_cp σ 2 11 0 0 24) 3 12 0 0 6) 4 13 0 0 6) 5 14 0 0 6) 6 15 0 0 6)) (L' := [some (.ref 10), some (.ref 1)]) (st' := [.int 5, .int 0, .ref 16, .int 0, .ref 7]) (g_c dX1_become_75 (g_c dX1_become_76 (g_c dX1_become_79 (g_c dX1_become_80 (g_c dX1_become_81 (g_c dX1_become_84 (g_c dX1_become_85 g_n))))))) rfl rfl ?_
  refine V_copy C (ks := 7) (kd := 16) (ns := 5) (nd := 5) (sp := 0) (dp := 0) (n := 5) ca_X1_40 (by rfl) (by rfl) (by rfl) (by rfl) (by rfl) (by rfl) (by rfl) (by decide) (by decide) (by decide) (by decide) dX1_become_86 ?_
  refine V_blk C (pc' := 100) (σ' := (g_cp (g_cp (g_cp (g_cp (g_cp (g_cp σ 2 11 0 0 24) 3 12 0 0 6) 4 13 0 0 6) 5 14 0 0 6) 6 15 0 0 6) 7 16 0 0 5)) (L' := [some (.ref 10), some (.ref 1)]) (st' := [.int 5, .int 0, .ref 17, .int 0, .ref 8]) (g_c dX1_become_89 (g_c dX1_become_90 (g_c dX1_become_93 (g_c dX1_become_94 (g_c dX1_become_95 (g_c dX1_become_98 (g_c dX1_become_99 g_n))))))) rfl rfl ?_
  refine V_copy C (ks := 8) (kd := 17) (ns := 5) (nd := 5) (sp := 0) (dp := 0) (n := 5) ca_X1_40 (by rfl) (by rfl) (by rfl) (by rfl) (by rfl) (by rfl) (by rfl) (by decide) (by decide) (by decide) (by decide) dX1_become_100 ?_
  refine V_blk C (pc' := 114) (σ' := (g_cp (g_cp (g_cp (g_cp (g_cp (g_cp (g_cp σ 2 11 0 0 24) 3 12 0 0 6) 4 13 0 0 6) 5 14 0 0 6) 6 15 0 0 6) 7 16 0 0 5) 8 17 0 0 5)) (L' := [some (.ref 10), some (.ref 1)]) (st' := [.int 5, .int 0, .ref 18, .int 0, .ref 9]) (g_c dX1_become_103 (g_c dX1_become_104 (g_c dX1_become_107 (g_c dX1_become_108 (g_c dX1_become_109 (g_c dX1_become_112 (g_c dX1_become_113 g_n))))))) rfl rfl ?_
  refine V_copy C (ks := 9) (kd := 18) (ns := 5) (nd := 5) (sp := 0) (dp := 0) (n := 5) ca_X1_40 (by rfl) (by rfl) (by rfl) (by rfl) (by rfl) (by rfl) (by rfl) (by decide) (by decide) (by decide) (by decide) dX1_become_114 ?_
  refine V_blk C (pc' := 165) (σ' := (g_up (g_up (g_up (g_up (g_up (g_up (g_cp (g_cp (g_cp (g_cp (g_cp (g_cp (g_cp (g_cp σ 2 11 0 0 24) 3 12 0 0 6) 4 13 0 0 6) 5 14 0 0 6) 6 15 0 0 6) 7 16 0 0 5) 8 17 0 0 5) 9 18 0 0 5) 10 8 ((g_cp (g_cp (g_cp (g_cp (g_cp (g_cp (g_cp (g_cp σ 2 11 0 0 24) 3 12 0 0 6) 4 13 0 0 6) 5 14 0 0 6) 6 15 0 0 6) 7 16 0 0 5) 8 17 0 0 5) 9 18 0 0 5) 1 8)) 10 9 ((g_cp (g_cp (g_cp (g_cp (g_cp (g_cp (g_cp (g_cp σ 2 11 0 0 24) 3 12 0 0 6) 4 13 0 0 6) 5 14 0 0 6) 6 15 0 0 6) 7 16 0 0 5) 8 17 0 0 5) 9 18 0 0 5) 1 9)) 10 10 ((g_cp (g_cp (g_cp (g_cp (g_cp (g_cp (g_cp (g_cp σ 2 11 0 0 24) 3 12 0 0 6) 4 13 0 0 6) 5 14 0 0 6) 6 15 0 0 6) 7 16 0 0 5) 8 17 0 0 5) 9 18 0 0 5) 1 10)) 10 11 ((g_cp (g_cp (g_cp (g_cp (g_cp (g_cp (g_cp (g_cp σ 2 11 0 0 24) 3 12 0 0 6) 4 13 0 0 6) 5 14 0 0 6) 6 15 0 0 6) 7 16 0 0 5) 8 17 0 0 5) 9 18 0 0 5) 1 11)) 10 12 ((g_cp (g_cp (g_cp (g_cp (g_cp (g_cp (g_cp (g_cp σ 2 11 0 0 24) 3 12 0 0 6) 4 13 0 0 6) 5 14 0 0 6) 6 15 0 0 6) 7 16 0 0 5) 8 17 0 0 5) 9 18 0 0 5) 1 12)) 10 13 ((g_cp (g_cp (g_cp (g_cp (g_cp (g_cp (g_cp (g_cp σ 2 11 0 0 24) 3 12 0 0 6) 4 13 0 0 6) 5 14 0 0 6) 6 15 0 0 6) 7 16 0 0 5) 8 17 0 0 5) 9 18 0 0 5) 1 13))) (L' := [some (.ref 10), some (.ref 1)]) (st' := []) (g_c dX1_become_117 (g_c dX1_become_118 (g_c dX1_become_119 (g_c dX1_become_122 (g_c dX1_become_125 (g_c dX1_become_126 (g_c dX1_become_127 (g_c dX1_become_130 (g_c dX1_become_133 (g_c dX1_become_134 (g_c dX1_become_135 (g_c dX1_become_138 (g_c dX1_become_141 (g_c dX1_become_142 (g_c dX1_become_143 (g_c dX1_become_146 (g_c dX1_become_149 (g_c dX1_become_150 (g_c dX1_become_151 (g_c dX1_become_154 (g_c dX1_become_157 (g_c dX1_become_158 (g_c dX1_become_159 (g_c dX1_become_162 g_n)))))))))))))))))))))))) rfl rfl ?_
  refine V_vret C dX1_become_165 ?_
  exact ⟨rfl, rfl⟩
set_option maxHeartbeats 4000000 in
set_option maxRecDepth 100000 in
theorem c_X7_image (σ : gS) : g_Met yX7_image cX7_image 1 (some .int) 3 kX [.ref 0] σ (fun rv s => rv = some (.int (σ 1 8)) ∧ s = (g_up (g_up (g_up (g_up (g_up (g_up (g_up (g_cp (g_cp (g_cp (g_cp (g_cp (g_cp (g_cp (g_cp σ 2 11 0 0 24) 3 12 0 0 6) 4 13 0 0 6) 5 14 0 0 6) 6 15 0 0 6) 7 16 0 0 5) 8 17 0 0 5) 9 18 0 0 5) 10 8 (σ 1 8)) 10 9 (σ 1 9)) 10 10 (σ 1 10)) 10 11 (σ 1 11)) 10 12 (σ 1 12)) 10 13 (σ 1 13)) 0 2 1)) := by
  refine g_Met.of (own := 7) (L := [some (.ref 0)]) (by decide) rfl rfl (fun ad => Nat.le_of_ble_eq_true rfl) (fun ad => rfl) (fun X G K C => ?_)
  refine V_blk C (pc' := 8) (σ' := σ) (L' := [some (.ref 0)]) (st' := [.ref 1, .ref 10]) (g_c dX7_image_0 (g_c dX7_image_1 (g_c dX7_image_4 (g_c dX7_image_5 g_n)))) rfl rfl ?_
  refine V_callVV C cv_X7_249 (c_X1_become_10 σ) ⟨_, _, _, _, rfl, rfl⟩ (by rfl) (by decide) (by decide) (fun _ h => h) (As := [.ref 1]) (rest := []) rfl rfl (Nat.le_of_ble_eq_true rfl) dX7_image_8 ?_
  refine V_blk C (pc' := 13) (σ' := (g_up (g_up (g_up (g_up (g_up (g_up (g_cp (g_cp (g_cp (g_cp (g_cp (g_cp (g_cp (g_cp σ 2 11 0 0 24) 3 12 0 0 6) 4 13 0 0 6) 5 14 0 0 6) 6 15 0 0 6) 7 16 0 0 5) 8 17 0 0 5) 9 18 0 0 5) 10 8 (σ 1 8)) 10 9 (σ 1 9)) 10 10 (σ 1 10)) 10 11 (σ 1 11)) 10 12 (σ 1 12)) 10 13 (σ 1 13))) (L' := [some (.ref 0)]) (st' := [.int 1, .ref 0]) (g_c dX7_image_11 (g_c dX7_image_12 g_n)) rfl rfl ?_
  refine V_putZ C (k := 0) fl_X7_253 (by decide) rfl rfl (by rfl) rfl dX7_image_13 ?_
  refine V_blk C (pc' := 23) (σ' := (g_up (g_up (g_up (g_up (g_up (g_up (g_up (g_cp (g_cp (g_cp (g_cp (g_cp (g_cp (g_cp (g_cp σ 2 11 0 0 24) 3 12 0 0 6) 4 13 0 0 6) 5 14 0 0 6) 6 15 0 0 6) 7 16 0 0 5) 8 17 0 0 5) 9 18 0 0 5) 10 8 (σ 1 8)) 10 9 (σ 1 9)) 10 10 (σ 1 10)) 10 11 (σ 1 11)) 10 12 (σ 1 12)) 10 13 (σ 1 13)) 0 2 1)) (L' := [some (.ref 0)]) (st' := [.int ((g_cp (g_cp (g_cp (g_cp (g_cp (g_cp (g_cp (g_cp σ 2 11 0 0 24) 3 12 0 0 6) 4 13 0 0 6) 5 14 0 0 6) 6 15 0 0 6) 7 16 0 0 5) 8 17 0 0 5) 9 18 0 0 5) 1 8)]) (g_c dX7_image_16 (g_c dX7_image_17 (g_c dX7_image_20 g_n))) rfl rfl ?_
  refine V_iret C dX7_image_23 ?_
  exact ⟨rfl, rfl⟩
set_option maxHeartbeats 4000000 in
set_option maxRecDepth 100000 in
theorem c_X7_back (σ : gS) : g_Met yX7_back cX7_back 1 (some .int) 3 kX [.ref 0] σ (fun rv s => rv = some (.int (if σ 0 2 = 0 then -3 else σ 10 8)) ∧ s = if σ 0 2 = 0 then σ else (g_up (g_up (g_up (g_up (g_up (g_up (g_cp (g_cp (g_cp (g_cp (g_cp (g_cp (g_cp (g_cp σ 11 2 0 0 24) 12 3 0 0 6) 13 4 0 0 6) 14 5 0 0 6) 15 6 0 0 6) 16 7 0 0 5) 17 8 0 0 5) 18 9 0 0 5) 1 8 (σ 10 8)) 1 9 (σ 10 9)) 1 10 (σ 10 10)) 1 11 (σ 10 11)) 1 12 (σ 10 12)) 1 13 (σ 10 13))) := by
  refine g_Met.of (own := 7) (L := [some (.ref 0)]) (by decide) rfl rfl (fun ad => Nat.le_of_ble_eq_true rfl) (fun ad => rfl) (fun X G K C => ?_)
  refine V_blk C (pc' := 4) (σ' := σ) (L' := [some (.ref 0)]) (st' := [.int (σ 0 2)]) (g_c dX7_back_0 (g_c dX7_back_1 g_n)) rfl rfl ?_
  refine V_if_ne C (tgt := 10) dX7_back_4 (by decide) (fun h4 => ?_) (fun h4 => ?_)
  · skip
    refine V_blk C (pc' := 18) (σ' := σ) (L' := [some (.ref 0)]) (st' := [.ref 10, .ref 1]) (g_c dX7_back_10 (g_c dX7_back_11 (g_c dX7_back_14 (g_c dX7_back_15 g_n)))) rfl rfl ?_
    refine V_callVV C cv_X7_249 (c_X1_become_1 σ) ⟨_, _, _, _, rfl, rfl⟩ (by rfl) (by decide) (by decide) (fun _ h => h) (As := [.ref 10]) (rest := []) rfl rfl (Nat.le_of_ble_eq_true rfl) dX7_back_18 ?_
    refine V_blk C (pc' := 28) (σ' := (g_up (g_up (g_up (g_up (g_up (g_up (g_cp (g_cp (g_cp (g_cp (g_cp (g_cp (g_cp (g_cp σ 11 2 0 0 24) 12 3 0 0 6) 13 4 0 0 6) 14 5 0 0 6) 15 6 0 0 6) 16 7 0 0 5) 17 8 0 0 5) 18 9 0 0 5) 1 8 (σ 10 8)) 1 9 (σ 10 9)) 1 10 (σ 10 10)) 1 11 (σ 10 11)) 1 12 (σ 10 12)) 1 13 (σ 10 13))) (L' := [some (.ref 0)]) (st' := [.int (σ 10 8)]) (g_c dX7_back_21 (g_c dX7_back_22 (g_c dX7_back_25 g_n))) rfl rfl ?_
    refine V_iret C dX7_back_28 ?_
    exact ⟨by (rw [if_neg h4]; try rfl), by rw [if_neg h4]⟩
  · skip
    refine V_blk C (pc' := 9) (σ' := σ) (L' := [some (.ref 0)]) (st' := [.int (-3)]) (g_c dX7_back_7 g_n) rfl rfl ?_
    refine V_iret C dX7_back_9 ?_
    exact ⟨by rw [if_pos h4], by rw [if_pos h4]⟩
def g_sm (f : Nat → Int32) : Nat → Nat → Int32 → Int32
  | 0, _, a => a
  | k + 1, i, a => g_sm f k (i + 1) (a + f i)
set_option maxHeartbeats 4000000 in
set_option maxRecDepth 100000 in
theorem lp_wia {X : gX} {G : gG} {K : List Nat} {σ : gS} {nv : Nat} (hv : σ 1 9 = nI nv) (hv5 : nv ≤ 5) {R : Int32} (C : gC X G K kX 3 cX7_waterInAll (g_RX 7) (some .int) 2) : ∀ (k : Nat) (v : Nat) (acc : Int32), (v + k = nv) → (g_sm (σ 9) k v acc = R) → gV X G K 3 (fun rv s => rv = some (.int R) ∧ s = σ) σ [some (.ref 0), some (.int acc), some (.int (nI v))] [] 4 := by
  intro k
  induction k with
  | zero =>
    intro v acc hk hR
    have hlt : ¬ nI v < σ 1 9 := by rw [hv]; exact nI_nltL (by omega) (by omega)
    refine V_blk C (pc' := 12) (σ' := σ) (L' := [some (.ref 0), some (.int acc), some (.int (nI v))]) (st' := [.int (σ 1 9), .int (nI v)]) (g_c dX7_waterInAll_4 (g_c dX7_waterInAll_5 (g_c dX7_waterInAll_6 (g_c dX7_waterInAll_9 g_n)))) rfl rfl ?_
    refine V_icmp_ge2 C (tgt := 38) dX7_waterInAll_12 (by decide) (fun h12 => ?_) (fun h12 => absurd h12 hlt)
    refine V_blk C (pc' := 39) (σ' := σ) (L' := [some (.ref 0), some (.int acc), some (.int (nI v))]) (st' := [.int acc]) (g_c dX7_waterInAll_38 g_n) rfl rfl ?_
    refine V_iret C dX7_waterInAll_39 ?_
    exact ⟨by rw [← hR]; rfl, rfl⟩
  | succ k ih =>
    intro v acc hk hR
    have hlt : nI v < σ 1 9 := by rw [hv]; exact nI_ltL (by omega) (by omega)
    have hl5 : nI v < 5 := nI_ltL (b := 5) (by omega) (by omega)
    refine V_blk C (pc' := 12) (σ' := σ) (L' := [some (.ref 0), some (.int acc), some (.int (nI v))]) (st' := [.int (σ 1 9), .int (nI v)]) (g_c dX7_waterInAll_4 (g_c dX7_waterInAll_5 (g_c dX7_waterInAll_6 (g_c dX7_waterInAll_9 g_n)))) rfl rfl ?_
    refine V_icmp_ge2 C (tgt := 38) dX7_waterInAll_12 (by decide) (fun h12 => absurd hlt h12) (fun h12 => ?_)
    refine V_blk C (pc' := 17) (σ' := σ) (L' := [some (.ref 0), some (.int acc), some (.int (nI v))]) (st' := [.int 5, .int (nI v)]) (g_c dX7_waterInAll_15 (g_c dX7_waterInAll_16 g_n)) rfl rfl ?_
    refine V_icmp_ge2 C (tgt := 38) dX7_waterInAll_17 (by decide) (fun h17 => absurd hl5 h17) (fun h17 => ?_)
    refine V_blk C (pc' := 29) (σ' := σ) (L' := [some (.ref 0), some (.int acc), some (.int (nI v))]) (st' := [.int (nI v), .ref 9, .int acc]) (g_c dX7_waterInAll_20 (g_c dX7_waterInAll_21 (g_c dX7_waterInAll_22 (g_c dX7_waterInAll_25 (g_c dX7_waterInAll_28 g_n))))) rfl rfl ?_
    refine V_ialdJ C (j := v) (k := 9) (n := 5) (by rfl) (by rfl) rfl (by omega) dX7_waterInAll_29 ?_
    refine V_blk C (pc' := 35) (σ' := σ) (L' := [some (.ref 0), some (.int (acc + (σ 9 v))), some (.int ((nI v) + 1))]) (st' := []) (g_c dX7_waterInAll_30 (g_c dX7_waterInAll_31 (g_c dX7_waterInAll_32 g_n))) rfl rfl ?_
    refine V_goto C (tgt := 4) dX7_waterInAll_35 (by decide) ?_
    refine V_eq rfl (by rw [nI_1]) rfl (ih (v + 1) _ (by omega) hR)
set_option maxHeartbeats 4000000 in
set_option maxRecDepth 100000 in
theorem lp_cnt8 {X : gX} {G : gG} {K : List Nat} {σ : gS} {nv : Nat} (hv : σ 63 19 = nI nv) (hv5 : nv ≤ 5) {R : Int32} (C : gC X G K kM 4 cX8_count (g_RX 8) (some .int) 3) : ∀ (k : Nat) (v : Nat) (acc : Int32), (v + k = nv) → (g_sm (σ 74) k v acc = R) → gV X G K 4 (fun rv s => rv = some (.int R) ∧ s = σ) σ [some (.ref 63), some (.int 8), some (.int acc), some (.int (nI v))] [] 112 := by
  intro k
  induction k with
  | zero =>
    intro v acc hk hR
    have hlt : ¬ nI v < σ 63 19 := by rw [hv]; exact nI_nltL (by omega) (by omega)
    refine V_blk C (pc' := 117) (σ' := σ) (L' := [some (.ref 63), some (.int 8), some (.int acc), some (.int (nI v))]) (st' := [.int (σ 63 19), .int (nI v)]) (g_c dX8_count_112 (g_c dX8_count_113 (g_c dX8_count_114 g_n))) rfl rfl ?_
    refine V_icmp_ge2 C (tgt := 135) dX8_count_117 (by decide) (fun h117 => ?_) (fun h117 => absurd h117 hlt)
    refine V_blk C (pc' := 136) (σ' := σ) (L' := [some (.ref 63), some (.int 8), some (.int acc), some (.int (nI v))]) (st' := [.int acc]) (g_c dX8_count_135 g_n) rfl rfl ?_
    refine V_iret C dX8_count_136 ?_
    exact ⟨by rw [← hR]; rfl, rfl⟩
  | succ k ih =>
    intro v acc hk hR
    have hlt : nI v < σ 63 19 := by rw [hv]; exact nI_ltL (by omega) (by omega)
    have hl5 : nI v < 5 := nI_ltL (b := 5) (by omega) (by omega)
    refine V_blk C (pc' := 117) (σ' := σ) (L' := [some (.ref 63), some (.int 8), some (.int acc), some (.int (nI v))]) (st' := [.int (σ 63 19), .int (nI v)]) (g_c dX8_count_112 (g_c dX8_count_113 (g_c dX8_count_114 g_n))) rfl rfl ?_
    refine V_icmp_ge2 C (tgt := 135) dX8_count_117 (by decide) (fun h117 => absurd hlt h117) (fun h117 => ?_)
    refine V_blk C (pc' := 126) (σ' := σ) (L' := [some (.ref 63), some (.int 8), some (.int acc), some (.int (nI v))]) (st' := [.int (nI v), .ref 74, .int acc]) (g_c dX8_count_120 (g_c dX8_count_121 (g_c dX8_count_122 (g_c dX8_count_125 g_n)))) rfl rfl ?_
    refine V_ialdJ C (j := v) (k := 74) (n := 5) (by rfl) (by rfl) rfl (by omega) dX8_count_126 ?_
    refine V_blk C (pc' := 132) (σ' := σ) (L' := [some (.ref 63), some (.int 8), some (.int (acc + (σ 74 v))), some (.int ((nI v) + 1))]) (st' := []) (g_c dX8_count_127 (g_c dX8_count_128 (g_c dX8_count_129 g_n))) rfl rfl ?_
    refine V_goto C (tgt := 112) dX8_count_132 (by decide) ?_
    refine V_eq rfl (by rw [nI_1]) rfl (ih (v + 1) _ (by omega) hR)
set_option maxHeartbeats 4000000 in
set_option maxRecDepth 100000 in
theorem c_X7_waterInAll (σ : gS) {nv : Nat} (hv : σ 1 9 = nI nv) (hv5 : nv ≤ 5) : g_Met yX7_waterInAll cX7_waterInAll 3 (some .int) 2 kX [.ref 0] σ (fun rv s => rv = some (.int (g_sm (σ 9) nv 0 0)) ∧ s = σ) := by
  refine g_Met.of (own := 7) (L := [some (.ref 0), none, none]) (by decide) rfl rfl (fun ad => Nat.le_of_ble_eq_true rfl) (fun ad => rfl) (fun X G K C => ?_)
  refine V_blk C (pc' := 4) (σ' := σ) (L' := [some (.ref 0), some (.int 0), some (.int 0)]) (st' := []) (g_c dX7_waterInAll_0 (g_c dX7_waterInAll_1 (g_c dX7_waterInAll_2 (g_c dX7_waterInAll_3 g_n)))) rfl rfl ?_
  exact lp_wia hv hv5 C nv 0 0 (by omega) rfl
set_option maxHeartbeats 4000000 in
set_option maxRecDepth 100000 in
theorem c_X7_count8 (σ : gS) {nv : Nat} (hv : σ 1 9 = nI nv) (hv5 : nv ≤ 5) : g_Met yX7_count cX7_count 2 (some .int) 3 kX [.ref 0, .int 8] σ (fun rv s => rv = some (.int (g_sm (σ 9) nv 0 0)) ∧ s = σ) := by
  refine g_Met.of (own := 7) (L := [some (.ref 0), some (.int 8)]) (by decide) rfl rfl (fun ad => Nat.le_of_ble_eq_true rfl) (fun ad => rfl) (fun X G K C => ?_)
  refine V_blk C (pc' := 1) (σ' := σ) (L' := [some (.ref 0), some (.int 8)]) (st' := [.int 8]) (g_c dX7_count_0 g_n) rfl rfl ?_
  refine V_tsw C 8 112 (tgt := 113) dX7_count_1 (by decide) (by decide) (by decide) (by decide) (fun _ => ?_) (fun z => absurd rfl z)
  refine V_blk C (pc' := 114) (σ' := σ) (L' := [some (.ref 0), some (.int 8)]) (st' := [.ref 0]) (g_c dX7_count_113 g_n) rfl rfl ?_
  refine V_callVI C cv_X7_259 (c_X7_waterInAll σ hv hv5) ⟨_, _, _, _, rfl, rfl⟩ (by rfl) (by decide) (by decide) (fun _ h => h) (As := []) (rest := []) rfl rfl (Nat.le_of_ble_eq_true rfl) dX7_count_114 ?_
  refine V_iret C dX7_count_117 ?_
  exact ⟨rfl, rfl⟩
set_option maxHeartbeats 4000000 in
set_option maxRecDepth 100000 in
theorem c_X8_count8 (σ : gS) {nv : Nat} (hv : σ 63 19 = nI nv) (hv5 : nv ≤ 5) : g_Met yX8_count cX8_count 4 (some .int) 3 kM [.ref 63, .int 8] σ (fun rv s => rv = some (.int (g_sm (σ 74) nv 0 0)) ∧ s = σ) := by
  refine g_Met.of (own := 8) (L := [some (.ref 63), some (.int 8), none, none]) (by decide) rfl rfl (fun ad => Nat.le_of_ble_eq_true rfl) (fun ad => rfl) (fun X G K C => ?_)
  refine V_blk C (pc' := 6) (σ' := σ) (L' := [some (.ref 63), some (.int 8), none, none]) (st' := [.long 8, .long 0, .long (Int32.toInt64 8)]) (g_c dX8_count_0 (g_c dX8_count_1 (g_c dX8_count_2 (g_c dX8_count_3 g_n)))) rfl rfl ?_
  refine V_callSI C cs_X8_110 (c_X8_in32 σ 8 0 8 (by decide) (by decide)) (by decide) (by decide) (fun _ h => h) (As := [.long (Int32.toInt64 8), .long 0, .long 8]) (rest := []) rfl rfl (Nat.le_of_ble_eq_true rfl) dX8_count_6 ?_
  refine V_if_ne_b C (tgt := 15) dX8_count_9 (by decide) (fun _ => ?_) (fun z => absurd (by decide) z)
  refine V_blk C (pc' := 17) (σ' := σ) (L' := [some (.ref 63), some (.int 8), none, none]) (st' := [.int 5, .int 8]) (g_c dX8_count_15 (g_c dX8_count_16 g_n)) rfl rfl ?_
  refine V_icmp_ge2 C (tgt := 72) dX8_count_17 (by decide) (fun _ => ?_) (fun z => absurd z (by decide))
  refine V_blk C (pc' := 75) (σ' := σ) (L' := [some (.ref 63), some (.int 8), none, none]) (st' := [.int 8, .int 8]) (g_c dX8_count_72 (g_c dX8_count_73 g_n)) rfl rfl ?_
  refine V_icmp_ge2 C (tgt := 108) dX8_count_75 (by decide) (fun _ => ?_) (fun z => absurd z (by decide))
  refine V_blk C (pc' := 112) (σ' := σ) (L' := [some (.ref 63), some (.int 8), some (.int 0), some (.int 0)]) (st' := []) (g_c dX8_count_108 (g_c dX8_count_109 (g_c dX8_count_110 (g_c dX8_count_111 g_n)))) rfl rfl ?_
  exact lp_cnt8 hv hv5 C nv 0 0 (by omega) rfl
