/-! THE CLASS'S CONSTRUCTOR: its contract -/
set_option maxHeartbeats 16000000 in
set_option maxRecDepth 100000 in
theorem k_b7 (G : gG) (ad0 : Nat → Nat) (q : Nat) : bM yX7_init cX7_init 2 50 62 2322 G.2.1 (g_tys G) ad0 [] q (.inr (7, [.null, .null, .int 0, .null, .null, .int 0, .null, .null, .null])) (fun W => ∃ (vs : List Nat) (σ : gS), vs.getD 0 0 = q ∧ b_FX σ ∧ ∀ ad : Nat → Nat, (∀ H, va_P G.2.1 g_cl W H → va_P G.2.1 g_cl (g_wl (b_GX G ad vs) b_KX σ) H) ∧ ∀ B, va_D B W → va_D B (g_wl (b_GX G ad vs) b_KX σ)) := by
  refine bM.bof (own := 7) (L := [(0, .ref q)]) (by decide) rfl rfl (Nat.le_of_ble_eq_true rfl) rfl (fun X A C I E => ?_)
  refine B_aload C 0 dX7_init_0 rfl rfl ?_
  refine B_obj C dX7_init_1 wo_X7 wo_i wo_c (Nat.le_of_ble_eq_true rfl) (Nat.le_of_ble_eq_true rfl) ?_
  refine B_aload C 0 dX7_init_4 rfl rfl ?_
  refine B_new C nf_X7_9 ⟨Nat.le_of_ble_eq_true rfl, Nat.le_of_ble_eq_true rfl⟩ dX7_init_5 (fun h1 => ?_)
  refine B_dup C dX7_init_8 rfl ?_
  refine B_ctorN C E (As := []) (rest := [.ref h1, .ref q]) ci_X7_11 (k_b1 G ad0 h1) (Nat.le_of_ble_eq_true rfl) (Nat.le_of_ble_eq_true rfl) rfl rfl (Nat.le_of_ble_eq_true rfl) ⟨Nat.le_of_ble_eq_true rfl, Nat.le_of_ble_eq_true rfl⟩ dX7_init_9 (fun W hW => ?_)
  obtain ⟨v1, rfl⟩ := hW
  refine B_putF C I ff_X7_12 (by exact Nat.le_of_ble_eq_true rfl) dX7_init_12 ?_
  refine B_weq (ws' := (q, .inr (7, [.ref h1, .null, .int 0, .null, .null, .int 0, .null, .null, .null])) :: (wX1 G h1 v1)) rfl ?_
  refine B_num (mc' := 9) (ms' := 77) rfl rfl ?_
  refine B_aload C 0 dX7_init_15 rfl rfl ?_
  refine B_new C nf_X7_9 ⟨Nat.le_of_ble_eq_true rfl, Nat.le_of_ble_eq_true rfl⟩ dX7_init_16 (fun h2 => ?_)
  refine B_dup C dX7_init_19 rfl ?_
  refine B_ctorN C E (As := []) (rest := [.ref h2, .ref q]) ci_X7_11 (k_b1 G ad0 h2) (Nat.le_of_ble_eq_true rfl) (Nat.le_of_ble_eq_true rfl) rfl rfl (Nat.le_of_ble_eq_true rfl) ⟨Nat.le_of_ble_eq_true rfl, Nat.le_of_ble_eq_true rfl⟩ dX7_init_20 (fun W hW => ?_)
  obtain ⟨v2, rfl⟩ := hW
  refine B_putF C I ff_X7_16 (by exact Nat.le_of_ble_eq_true rfl) dX7_init_23 ?_
  refine B_weq (ws' := (q, .inr (7, [.ref h1, .ref h2, .int 0, .null, .null, .int 0, .null, .null, .null])) :: ((wX1 G h1 v1) ++ wX1 G h2 v2)) rfl ?_
  refine B_num (mc' := 18) (ms' := 154) rfl rfl ?_
  refine B_aload C 0 dX7_init_26 rfl rfl ?_
  refine B_new C nf_X7_19 ⟨Nat.le_of_ble_eq_true rfl, Nat.le_of_ble_eq_true rfl⟩ dX7_init_27 (fun rd => ?_)
  refine B_dup C dX7_init_30 rfl ?_
  refine B_ctorN C E (As := []) (rest := [.ref rd, .ref q]) ci_X7_21 (k_b2 G ad0 rd) (Nat.le_of_ble_eq_true rfl) (Nat.le_of_ble_eq_true rfl) rfl rfl (Nat.le_of_ble_eq_true rfl) ⟨Nat.le_of_ble_eq_true rfl, Nat.le_of_ble_eq_true rfl⟩ dX7_init_31 (fun W hW => ?_)
  obtain ⟨vr, rfl⟩ := hW
  refine B_putF C I ff_X7_22 (by exact Nat.le_of_ble_eq_true rfl) dX7_init_34 ?_
  refine B_weq (ws' := (q, .inr (7, [.ref h1, .ref h2, .int 0, .ref rd, .null, .int 0, .null, .null, .null])) :: (((wX1 G h1 v1) ++ wX1 G h2 v2) ++ wX2 G rd vr)) rfl ?_
  refine B_num (mc' := 20) (ms' := 324) rfl rfl ?_
  refine B_aload C 0 dX7_init_37 rfl rfl ?_
  refine B_bipush C (v := 6) dX7_init_38 rfl ?_
  refine B_newq C (Cn := RX6) (N := 6) 2 wl_X7_26 (fun _ _ _ _ _ _ _ _ _ _ hX => by subst hX; exact E.2.1) rfl (by decide) rfl (Nat.le_of_ble_eq_true rfl) ⟨Nat.le_of_ble_eq_true rfl, Nat.le_of_ble_eq_true rfl⟩ dX7_init_40 (fun ta => ?_)
  refine B_putF C I ff_X7_28 (by exact Nat.le_of_ble_eq_true rfl) dX7_init_43 ?_
  refine B_weq (ws' := (q, .inr (7, [.ref h1, .ref h2, .int 0, .ref rd, .ref ta, .int 0, .null, .null, .null])) :: ((((wX1 G h1 v1) ++ wX1 G h2 v2) ++ wX2 G rd vr) ++ [(ta, .inl (G.2.2 2, 6, .inr (.inr (.inr (.inr (fun _ => none))))))])) rfl ?_
  refine B_num (mc' := 21) (ms' := 330) rfl rfl ?_
  refine B_aload C 0 dX7_init_46 rfl rfl ?_
  refine B_iconst C (v := 4) dX7_init_47 rfl ?_
  refine B_newq C (Cn := RX4) (N := 4) 3 wl_X7_32 (fun _ _ _ _ _ _ _ _ _ _ hX => by subst hX; exact E.2.2) rfl (by decide) rfl (Nat.le_of_ble_eq_true rfl) ⟨Nat.le_of_ble_eq_true rfl, Nat.le_of_ble_eq_true rfl⟩ dX7_init_48 (fun sa => ?_)
  refine B_putF C I ff_X7_34 (by exact Nat.le_of_ble_eq_true rfl) dX7_init_51 ?_
  refine B_weq (ws' := (q, .inr (7, [.ref h1, .ref h2, .int 0, .ref rd, .ref ta, .int 0, .null, .null, .ref sa])) :: (((((wX1 G h1 v1) ++ wX1 G h2 v2) ++ wX2 G rd vr) ++ [(ta, .inl (G.2.2 2, 6, .inr (.inr (.inr (.inr (fun _ => none))))))]) ++ [(sa, .inl (G.2.2 3, 4, .inr (.inr (.inr (.inr (fun _ => none))))))])) rfl ?_
  refine B_num (mc' := 22) (ms' := 334) rfl rfl ?_
  refine B_iconst C (v := 0) dX7_init_54 rfl ?_
  refine B_istore C [(1, .int 0), (0, .ref q)] dX7_init_55 rfl (by decide) rfl ?_
  refine B_iload C 0 dX7_init_56 rfl rfl ?_
  refine B_bipush C (v := 6) dX7_init_57 rfl ?_
  refine B_icmpge C (tgt := 81) dX7_init_59 (by decide) (fun z => absurd (by decide : (0 : Int32) < 6) z) (fun _ => ?_)
  refine B_aload C 1 dX7_init_62 rfl rfl ?_
  refine B_get C 0 fl_X7_28 rfl rfl dX7_init_63 ?_
  refine B_iload C 0 dX7_init_66 rfl rfl ?_
  refine B_new C nf_X7_26 ⟨Nat.le_of_ble_eq_true rfl, Nat.le_of_ble_eq_true rfl⟩ dX7_init_67 (fun t0 => ?_)
  refine B_dup C dX7_init_70 rfl ?_
  refine B_ctorN C E (As := []) (rest := [.ref t0, .int 0, .ref ta]) ci_X7_38 (k_b6 G ad0 t0) (Nat.le_of_ble_eq_true rfl) (Nat.le_of_ble_eq_true rfl) rfl rfl (Nat.le_of_ble_eq_true rfl) ⟨Nat.le_of_ble_eq_true rfl, Nat.le_of_ble_eq_true rfl⟩ dX7_init_71 (fun W hW => ?_)
  obtain ⟨ut0, rfl⟩ := hW
  refine B_aast C (r := (RX6, TX6, 2)) (ci := 6) 21 2 23 ((q, .inr (7, [.ref h1, .ref h2, .int 0, .ref rd, .ref ta, .int 0, .null, .null, .ref sa])) :: ((((((wX1 G h1 v1) ++ wX1 G h2 v2) ++ wX2 G rd vr) ++ [(ta, .inl (G.2.2 2, 6, .inr (.inr (.inr (.inr (va_up (fun _ => none) 0 (some t0)))))))]) ++ [(sa, .inl (G.2.2 3, 4, .inr (.inr (.inr (.inr (fun _ => none))))))]) ++ wX6 G t0 ut0)) rfl rfl rfl rfl (pk_in 0 6 (by decide)) rfl dX7_init_74 ?_
  refine B_num (mc' := 25) (ms' := 499) rfl rfl ?_
  refine B_iinc C (v := 1) [(1, .int 1), (0, .ref q)] dX7_init_75 (k := 0) rfl rfl (by decide) rfl ?_
  refine B_goto C (tgt := 56) dX7_init_78 (by decide) ?_
  refine B_iload C 0 dX7_init_56 rfl rfl ?_
  refine B_bipush C (v := 6) dX7_init_57 rfl ?_
  refine B_icmpge C (tgt := 81) dX7_init_59 (by decide) (fun z => absurd (by decide : (1 : Int32) < 6) z) (fun _ => ?_)
  refine B_aload C 1 dX7_init_62 rfl rfl ?_
  refine B_get C 0 fl_X7_28 rfl rfl dX7_init_63 ?_
  refine B_iload C 0 dX7_init_66 rfl rfl ?_
  refine B_new C nf_X7_26 ⟨Nat.le_of_ble_eq_true rfl, Nat.le_of_ble_eq_true rfl⟩ dX7_init_67 (fun t1 => ?_)
  refine B_dup C dX7_init_70 rfl ?_
  refine B_ctorN C E (As := []) (rest := [.ref t1, .int 1, .ref ta]) ci_X7_38 (k_b6 G ad0 t1) (Nat.le_of_ble_eq_true rfl) (Nat.le_of_ble_eq_true rfl) rfl rfl (Nat.le_of_ble_eq_true rfl) ⟨Nat.le_of_ble_eq_true rfl, Nat.le_of_ble_eq_true rfl⟩ dX7_init_71 (fun W hW => ?_)
  obtain ⟨ut1, rfl⟩ := hW
  refine B_aast C (r := (RX6, TX6, 2)) (ci := 6) 21 2 26 ((q, .inr (7, [.ref h1, .ref h2, .int 0, .ref rd, .ref ta, .int 0, .null, .null, .ref sa])) :: (((((((wX1 G h1 v1) ++ wX1 G h2 v2) ++ wX2 G rd vr) ++ [(ta, .inl (G.2.2 2, 6, .inr (.inr (.inr (.inr (va_up (va_up (fun _ => none) 0 (some t0)) 1 (some t1)))))))]) ++ [(sa, .inl (G.2.2 3, 4, .inr (.inr (.inr (.inr (fun _ => none))))))]) ++ wX6 G t0 ut0) ++ wX6 G t1 ut1)) rfl rfl rfl rfl (pk_in 1 6 (by decide)) rfl dX7_init_74 ?_
  refine B_num (mc' := 28) (ms' := 664) rfl rfl ?_
  refine B_iinc C (v := 2) [(1, .int 2), (0, .ref q)] dX7_init_75 (k := 0) rfl rfl (by decide) rfl ?_
  refine B_goto C (tgt := 56) dX7_init_78 (by decide) ?_
  refine B_iload C 0 dX7_init_56 rfl rfl ?_
  refine B_bipush C (v := 6) dX7_init_57 rfl ?_
  refine B_icmpge C (tgt := 81) dX7_init_59 (by decide) (fun z => absurd (by decide : (2 : Int32) < 6) z) (fun _ => ?_)
  refine B_aload C 1 dX7_init_62 rfl rfl ?_
  refine B_get C 0 fl_X7_28 rfl rfl dX7_init_63 ?_
  refine B_iload C 0 dX7_init_66 rfl rfl ?_
  refine B_new C nf_X7_26 ⟨Nat.le_of_ble_eq_true rfl, Nat.le_of_ble_eq_true rfl⟩ dX7_init_67 (fun t2 => ?_)
  refine B_dup C dX7_init_70 rfl ?_
  refine B_ctorN C E (As := []) (rest := [.ref t2, .int 2, .ref ta]) ci_X7_38 (k_b6 G ad0 t2) (Nat.le_of_ble_eq_true rfl) (Nat.le_of_ble_eq_true rfl) rfl rfl (Nat.le_of_ble_eq_true rfl) ⟨Nat.le_of_ble_eq_true rfl, Nat.le_of_ble_eq_true rfl⟩ dX7_init_71 (fun W hW => ?_)
  obtain ⟨ut2, rfl⟩ := hW
  refine B_aast C (r := (RX6, TX6, 2)) (ci := 6) 21 2 29 ((q, .inr (7, [.ref h1, .ref h2, .int 0, .ref rd, .ref ta, .int 0, .null, .null, .ref sa])) :: ((((((((wX1 G h1 v1) ++ wX1 G h2 v2) ++ wX2 G rd vr) ++ [(ta, .inl (G.2.2 2, 6, .inr (.inr (.inr (.inr (va_up (va_up (va_up (fun _ => none) 0 (some t0)) 1 (some t1)) 2 (some t2)))))))]) ++ [(sa, .inl (G.2.2 3, 4, .inr (.inr (.inr (.inr (fun _ => none))))))]) ++ wX6 G t0 ut0) ++ wX6 G t1 ut1) ++ wX6 G t2 ut2)) rfl rfl rfl rfl (pk_in 2 6 (by decide)) rfl dX7_init_74 ?_
  refine B_num (mc' := 31) (ms' := 829) rfl rfl ?_
  refine B_iinc C (v := 3) [(1, .int 3), (0, .ref q)] dX7_init_75 (k := 0) rfl rfl (by decide) rfl ?_
  refine B_goto C (tgt := 56) dX7_init_78 (by decide) ?_
  refine B_iload C 0 dX7_init_56 rfl rfl ?_
  refine B_bipush C (v := 6) dX7_init_57 rfl ?_
  refine B_icmpge C (tgt := 81) dX7_init_59 (by decide) (fun z => absurd (by decide : (3 : Int32) < 6) z) (fun _ => ?_)
  refine B_aload C 1 dX7_init_62 rfl rfl ?_
  refine B_get C 0 fl_X7_28 rfl rfl dX7_init_63 ?_
  refine B_iload C 0 dX7_init_66 rfl rfl ?_
  refine B_new C nf_X7_26 ⟨Nat.le_of_ble_eq_true rfl, Nat.le_of_ble_eq_true rfl⟩ dX7_init_67 (fun t3 => ?_)
  refine B_dup C dX7_init_70 rfl ?_
  refine B_ctorN C E (As := []) (rest := [.ref t3, .int 3, .ref ta]) ci_X7_38 (k_b6 G ad0 t3) (Nat.le_of_ble_eq_true rfl) (Nat.le_of_ble_eq_true rfl) rfl rfl (Nat.le_of_ble_eq_true rfl) ⟨Nat.le_of_ble_eq_true rfl, Nat.le_of_ble_eq_true rfl⟩ dX7_init_71 (fun W hW => ?_)
  obtain ⟨ut3, rfl⟩ := hW
  refine B_aast C (r := (RX6, TX6, 2)) (ci := 6) 21 2 32 ((q, .inr (7, [.ref h1, .ref h2, .int 0, .ref rd, .ref ta, .int 0, .null, .null, .ref sa])) :: (((((((((wX1 G h1 v1) ++ wX1 G h2 v2) ++ wX2 G rd vr) ++ [(ta, .inl (G.2.2 2, 6, .inr (.inr (.inr (.inr (va_up (va_up (va_up (va_up (fun _ => none) 0 (some t0)) 1 (some t1)) 2 (some t2)) 3 (some t3)))))))]) ++ [(sa, .inl (G.2.2 3, 4, .inr (.inr (.inr (.inr (fun _ => none))))))]) ++ wX6 G t0 ut0) ++ wX6 G t1 ut1) ++ wX6 G t2 ut2) ++ wX6 G t3 ut3)) rfl rfl rfl rfl (pk_in 3 6 (by decide)) rfl dX7_init_74 ?_
  refine B_num (mc' := 34) (ms' := 994) rfl rfl ?_
  refine B_iinc C (v := 4) [(1, .int 4), (0, .ref q)] dX7_init_75 (k := 0) rfl rfl (by decide) rfl ?_
  refine B_goto C (tgt := 56) dX7_init_78 (by decide) ?_
  refine B_iload C 0 dX7_init_56 rfl rfl ?_
  refine B_bipush C (v := 6) dX7_init_57 rfl ?_
  refine B_icmpge C (tgt := 81) dX7_init_59 (by decide) (fun z => absurd (by decide : (4 : Int32) < 6) z) (fun _ => ?_)
  refine B_aload C 1 dX7_init_62 rfl rfl ?_
  refine B_get C 0 fl_X7_28 rfl rfl dX7_init_63 ?_
  refine B_iload C 0 dX7_init_66 rfl rfl ?_
  refine B_new C nf_X7_26 ⟨Nat.le_of_ble_eq_true rfl, Nat.le_of_ble_eq_true rfl⟩ dX7_init_67 (fun t4 => ?_)
  refine B_dup C dX7_init_70 rfl ?_
  refine B_ctorN C E (As := []) (rest := [.ref t4, .int 4, .ref ta]) ci_X7_38 (k_b6 G ad0 t4) (Nat.le_of_ble_eq_true rfl) (Nat.le_of_ble_eq_true rfl) rfl rfl (Nat.le_of_ble_eq_true rfl) ⟨Nat.le_of_ble_eq_true rfl, Nat.le_of_ble_eq_true rfl⟩ dX7_init_71 (fun W hW => ?_)
  obtain ⟨ut4, rfl⟩ := hW
  refine B_aast C (r := (RX6, TX6, 2)) (ci := 6) 21 2 35 ((q, .inr (7, [.ref h1, .ref h2, .int 0, .ref rd, .ref ta, .int 0, .null, .null, .ref sa])) :: ((((((((((wX1 G h1 v1) ++ wX1 G h2 v2) ++ wX2 G rd vr) ++ [(ta, .inl (G.2.2 2, 6, .inr (.inr (.inr (.inr (va_up (va_up (va_up (va_up (va_up (fun _ => none) 0 (some t0)) 1 (some t1)) 2 (some t2)) 3 (some t3)) 4 (some t4)))))))]) ++ [(sa, .inl (G.2.2 3, 4, .inr (.inr (.inr (.inr (fun _ => none))))))]) ++ wX6 G t0 ut0) ++ wX6 G t1 ut1) ++ wX6 G t2 ut2) ++ wX6 G t3 ut3) ++ wX6 G t4 ut4)) rfl rfl rfl rfl (pk_in 4 6 (by decide)) rfl dX7_init_74 ?_
  refine B_num (mc' := 37) (ms' := 1159) rfl rfl ?_
  refine B_iinc C (v := 5) [(1, .int 5), (0, .ref q)] dX7_init_75 (k := 0) rfl rfl (by decide) rfl ?_
  refine B_goto C (tgt := 56) dX7_init_78 (by decide) ?_
  refine B_iload C 0 dX7_init_56 rfl rfl ?_
  refine B_bipush C (v := 6) dX7_init_57 rfl ?_
  refine B_icmpge C (tgt := 81) dX7_init_59 (by decide) (fun z => absurd (by decide : (5 : Int32) < 6) z) (fun _ => ?_)
  refine B_aload C 1 dX7_init_62 rfl rfl ?_
  refine B_get C 0 fl_X7_28 rfl rfl dX7_init_63 ?_
  refine B_iload C 0 dX7_init_66 rfl rfl ?_
  refine B_new C nf_X7_26 ⟨Nat.le_of_ble_eq_true rfl, Nat.le_of_ble_eq_true rfl⟩ dX7_init_67 (fun t5 => ?_)
  refine B_dup C dX7_init_70 rfl ?_
  refine B_ctorN C E (As := []) (rest := [.ref t5, .int 5, .ref ta]) ci_X7_38 (k_b6 G ad0 t5) (Nat.le_of_ble_eq_true rfl) (Nat.le_of_ble_eq_true rfl) rfl rfl (Nat.le_of_ble_eq_true rfl) ⟨Nat.le_of_ble_eq_true rfl, Nat.le_of_ble_eq_true rfl⟩ dX7_init_71 (fun W hW => ?_)
  obtain ⟨ut5, rfl⟩ := hW
  refine B_aast C (r := (RX6, TX6, 2)) (ci := 6) 21 2 38 ((q, .inr (7, [.ref h1, .ref h2, .int 0, .ref rd, .ref ta, .int 0, .null, .null, .ref sa])) :: (((((((((((wX1 G h1 v1) ++ wX1 G h2 v2) ++ wX2 G rd vr) ++ [(ta, .inl (G.2.2 2, 6, .inr (.inr (.inr (.inr (va_up (va_up (va_up (va_up (va_up (va_up (fun _ => none) 0 (some t0)) 1 (some t1)) 2 (some t2)) 3 (some t3)) 4 (some t4)) 5 (some t5)))))))]) ++ [(sa, .inl (G.2.2 3, 4, .inr (.inr (.inr (.inr (fun _ => none))))))]) ++ wX6 G t0 ut0) ++ wX6 G t1 ut1) ++ wX6 G t2 ut2) ++ wX6 G t3 ut3) ++ wX6 G t4 ut4) ++ wX6 G t5 ut5)) rfl rfl rfl rfl (pk_in 5 6 (by decide)) rfl dX7_init_74 ?_
  refine B_num (mc' := 40) (ms' := 1324) rfl rfl ?_
  refine B_iinc C (v := 6) [(1, .int 6), (0, .ref q)] dX7_init_75 (k := 0) rfl rfl (by decide) rfl ?_
  refine B_goto C (tgt := 56) dX7_init_78 (by decide) ?_
  refine B_iload C 0 dX7_init_56 rfl rfl ?_
  refine B_bipush C (v := 6) dX7_init_57 rfl ?_
  refine B_icmpge C (tgt := 81) dX7_init_59 (by decide) (fun _ => ?_) (fun z => absurd z (by decide))
  refine B_iconst C (v := 0) dX7_init_81 rfl ?_
  refine B_istore C [(1, .int 0), (0, .ref q)] dX7_init_82 rfl (by decide) rfl ?_
  refine B_iload C 0 dX7_init_83 rfl rfl ?_
  refine B_iconst C (v := 4) dX7_init_84 rfl ?_
  refine B_icmpge C (tgt := 107) dX7_init_85 (by decide) (fun z => absurd (by decide : (0 : Int32) < 4) z) (fun _ => ?_)
  refine B_aload C 1 dX7_init_88 rfl rfl ?_
  refine B_get C 0 fl_X7_34 rfl rfl dX7_init_89 ?_
  refine B_iload C 0 dX7_init_92 rfl rfl ?_
  refine B_new C nf_X7_32 ⟨Nat.le_of_ble_eq_true rfl, Nat.le_of_ble_eq_true rfl⟩ dX7_init_93 (fun s0 => ?_)
  refine B_dup C dX7_init_96 rfl ?_
  refine B_ctorN C E (As := []) (rest := [.ref s0, .int 0, .ref sa]) ci_X7_39 (k_b4 G ad0 s0) (Nat.le_of_ble_eq_true rfl) (Nat.le_of_ble_eq_true rfl) rfl rfl (Nat.le_of_ble_eq_true rfl) ⟨Nat.le_of_ble_eq_true rfl, Nat.le_of_ble_eq_true rfl⟩ dX7_init_97 (fun W hW => ?_)
  obtain ⟨us0, rfl⟩ := hW
  refine B_aast C (r := (RX4, TX4, 3)) (ci := 4) 22 3 41 ((q, .inr (7, [.ref h1, .ref h2, .int 0, .ref rd, .ref ta, .int 0, .null, .null, .ref sa])) :: ((((((((((((wX1 G h1 v1) ++ wX1 G h2 v2) ++ wX2 G rd vr) ++ [(ta, .inl (G.2.2 2, 6, .inr (.inr (.inr (.inr (va_up (va_up (va_up (va_up (va_up (va_up (fun _ => none) 0 (some t0)) 1 (some t1)) 2 (some t2)) 3 (some t3)) 4 (some t4)) 5 (some t5)))))))]) ++ [(sa, .inl (G.2.2 3, 4, .inr (.inr (.inr (.inr (va_up (fun _ => none) 0 (some s0)))))))]) ++ wX6 G t0 ut0) ++ wX6 G t1 ut1) ++ wX6 G t2 ut2) ++ wX6 G t3 ut3) ++ wX6 G t4 ut4) ++ wX6 G t5 ut5) ++ wX4 G s0 us0)) rfl rfl rfl rfl (pk_in 0 4 (by decide)) rfl dX7_init_100 ?_
  refine B_num (mc' := 42) (ms' := 1367) rfl rfl ?_
  refine B_iinc C (v := 1) [(1, .int 1), (0, .ref q)] dX7_init_101 (k := 0) rfl rfl (by decide) rfl ?_
  refine B_goto C (tgt := 83) dX7_init_104 (by decide) ?_
  refine B_iload C 0 dX7_init_83 rfl rfl ?_
  refine B_iconst C (v := 4) dX7_init_84 rfl ?_
  refine B_icmpge C (tgt := 107) dX7_init_85 (by decide) (fun z => absurd (by decide : (1 : Int32) < 4) z) (fun _ => ?_)
  refine B_aload C 1 dX7_init_88 rfl rfl ?_
  refine B_get C 0 fl_X7_34 rfl rfl dX7_init_89 ?_
  refine B_iload C 0 dX7_init_92 rfl rfl ?_
  refine B_new C nf_X7_32 ⟨Nat.le_of_ble_eq_true rfl, Nat.le_of_ble_eq_true rfl⟩ dX7_init_93 (fun s1 => ?_)
  refine B_dup C dX7_init_96 rfl ?_
  refine B_ctorN C E (As := []) (rest := [.ref s1, .int 1, .ref sa]) ci_X7_39 (k_b4 G ad0 s1) (Nat.le_of_ble_eq_true rfl) (Nat.le_of_ble_eq_true rfl) rfl rfl (Nat.le_of_ble_eq_true rfl) ⟨Nat.le_of_ble_eq_true rfl, Nat.le_of_ble_eq_true rfl⟩ dX7_init_97 (fun W hW => ?_)
  obtain ⟨us1, rfl⟩ := hW
  refine B_aast C (r := (RX4, TX4, 3)) (ci := 4) 22 3 43 ((q, .inr (7, [.ref h1, .ref h2, .int 0, .ref rd, .ref ta, .int 0, .null, .null, .ref sa])) :: (((((((((((((wX1 G h1 v1) ++ wX1 G h2 v2) ++ wX2 G rd vr) ++ [(ta, .inl (G.2.2 2, 6, .inr (.inr (.inr (.inr (va_up (va_up (va_up (va_up (va_up (va_up (fun _ => none) 0 (some t0)) 1 (some t1)) 2 (some t2)) 3 (some t3)) 4 (some t4)) 5 (some t5)))))))]) ++ [(sa, .inl (G.2.2 3, 4, .inr (.inr (.inr (.inr (va_up (va_up (fun _ => none) 0 (some s0)) 1 (some s1)))))))]) ++ wX6 G t0 ut0) ++ wX6 G t1 ut1) ++ wX6 G t2 ut2) ++ wX6 G t3 ut3) ++ wX6 G t4 ut4) ++ wX6 G t5 ut5) ++ wX4 G s0 us0) ++ wX4 G s1 us1)) rfl rfl rfl rfl (pk_in 1 4 (by decide)) rfl dX7_init_100 ?_
  refine B_num (mc' := 44) (ms' := 1410) rfl rfl ?_
  refine B_iinc C (v := 2) [(1, .int 2), (0, .ref q)] dX7_init_101 (k := 0) rfl rfl (by decide) rfl ?_
  refine B_goto C (tgt := 83) dX7_init_104 (by decide) ?_
  refine B_iload C 0 dX7_init_83 rfl rfl ?_
  refine B_iconst C (v := 4) dX7_init_84 rfl ?_
  refine B_icmpge C (tgt := 107) dX7_init_85 (by decide) (fun z => absurd (by decide : (2 : Int32) < 4) z) (fun _ => ?_)
  refine B_aload C 1 dX7_init_88 rfl rfl ?_
  refine B_get C 0 fl_X7_34 rfl rfl dX7_init_89 ?_
  refine B_iload C 0 dX7_init_92 rfl rfl ?_
  refine B_new C nf_X7_32 ⟨Nat.le_of_ble_eq_true rfl, Nat.le_of_ble_eq_true rfl⟩ dX7_init_93 (fun s2 => ?_)
  refine B_dup C dX7_init_96 rfl ?_
  refine B_ctorN C E (As := []) (rest := [.ref s2, .int 2, .ref sa]) ci_X7_39 (k_b4 G ad0 s2) (Nat.le_of_ble_eq_true rfl) (Nat.le_of_ble_eq_true rfl) rfl rfl (Nat.le_of_ble_eq_true rfl) ⟨Nat.le_of_ble_eq_true rfl, Nat.le_of_ble_eq_true rfl⟩ dX7_init_97 (fun W hW => ?_)
  obtain ⟨us2, rfl⟩ := hW
  refine B_aast C (r := (RX4, TX4, 3)) (ci := 4) 22 3 45 ((q, .inr (7, [.ref h1, .ref h2, .int 0, .ref rd, .ref ta, .int 0, .null, .null, .ref sa])) :: ((((((((((((((wX1 G h1 v1) ++ wX1 G h2 v2) ++ wX2 G rd vr) ++ [(ta, .inl (G.2.2 2, 6, .inr (.inr (.inr (.inr (va_up (va_up (va_up (va_up (va_up (va_up (fun _ => none) 0 (some t0)) 1 (some t1)) 2 (some t2)) 3 (some t3)) 4 (some t4)) 5 (some t5)))))))]) ++ [(sa, .inl (G.2.2 3, 4, .inr (.inr (.inr (.inr (va_up (va_up (va_up (fun _ => none) 0 (some s0)) 1 (some s1)) 2 (some s2)))))))]) ++ wX6 G t0 ut0) ++ wX6 G t1 ut1) ++ wX6 G t2 ut2) ++ wX6 G t3 ut3) ++ wX6 G t4 ut4) ++ wX6 G t5 ut5) ++ wX4 G s0 us0) ++ wX4 G s1 us1) ++ wX4 G s2 us2)) rfl rfl rfl rfl (pk_in 2 4 (by decide)) rfl dX7_init_100 ?_
  refine B_num (mc' := 46) (ms' := 1453) rfl rfl ?_
  refine B_iinc C (v := 3) [(1, .int 3), (0, .ref q)] dX7_init_101 (k := 0) rfl rfl (by decide) rfl ?_
  refine B_goto C (tgt := 83) dX7_init_104 (by decide) ?_
  refine B_iload C 0 dX7_init_83 rfl rfl ?_
  refine B_iconst C (v := 4) dX7_init_84 rfl ?_
  refine B_icmpge C (tgt := 107) dX7_init_85 (by decide) (fun z => absurd (by decide : (3 : Int32) < 4) z) (fun _ => ?_)
  refine B_aload C 1 dX7_init_88 rfl rfl ?_
  refine B_get C 0 fl_X7_34 rfl rfl dX7_init_89 ?_
  refine B_iload C 0 dX7_init_92 rfl rfl ?_
  refine B_new C nf_X7_32 ⟨Nat.le_of_ble_eq_true rfl, Nat.le_of_ble_eq_true rfl⟩ dX7_init_93 (fun s3 => ?_)
  refine B_dup C dX7_init_96 rfl ?_
  refine B_ctorN C E (As := []) (rest := [.ref s3, .int 3, .ref sa]) ci_X7_39 (k_b4 G ad0 s3) (Nat.le_of_ble_eq_true rfl) (Nat.le_of_ble_eq_true rfl) rfl rfl (Nat.le_of_ble_eq_true rfl) ⟨Nat.le_of_ble_eq_true rfl, Nat.le_of_ble_eq_true rfl⟩ dX7_init_97 (fun W hW => ?_)
  obtain ⟨us3, rfl⟩ := hW
  refine B_aast C (r := (RX4, TX4, 3)) (ci := 4) 22 3 47 ((q, .inr (7, [.ref h1, .ref h2, .int 0, .ref rd, .ref ta, .int 0, .null, .null, .ref sa])) :: (((((((((((((((wX1 G h1 v1) ++ wX1 G h2 v2) ++ wX2 G rd vr) ++ [(ta, .inl (G.2.2 2, 6, .inr (.inr (.inr (.inr (va_up (va_up (va_up (va_up (va_up (va_up (fun _ => none) 0 (some t0)) 1 (some t1)) 2 (some t2)) 3 (some t3)) 4 (some t4)) 5 (some t5)))))))]) ++ [(sa, .inl (G.2.2 3, 4, .inr (.inr (.inr (.inr (va_up (va_up (va_up (va_up (fun _ => none) 0 (some s0)) 1 (some s1)) 2 (some s2)) 3 (some s3)))))))]) ++ wX6 G t0 ut0) ++ wX6 G t1 ut1) ++ wX6 G t2 ut2) ++ wX6 G t3 ut3) ++ wX6 G t4 ut4) ++ wX6 G t5 ut5) ++ wX4 G s0 us0) ++ wX4 G s1 us1) ++ wX4 G s2 us2) ++ wX4 G s3 us3)) rfl rfl rfl rfl (pk_in 3 4 (by decide)) rfl dX7_init_100 ?_
  refine B_num (mc' := 48) (ms' := 1496) rfl rfl ?_
  refine B_iinc C (v := 4) [(1, .int 4), (0, .ref q)] dX7_init_101 (k := 0) rfl rfl (by decide) rfl ?_
  refine B_goto C (tgt := 83) dX7_init_104 (by decide) ?_
  refine B_iload C 0 dX7_init_83 rfl rfl ?_
  refine B_iconst C (v := 4) dX7_init_84 rfl ?_
  refine B_icmpge C (tgt := 107) dX7_init_85 (by decide) (fun _ => ?_) (fun z => absurd z (by decide))
  exact b7_end G ad0 q h1 h2 rd ta sa t0 t1 t2 t3 t4 t5 s0 s1 s2 s3 v1 v2 vr ut0 ut1 ut2 ut3 ut4 ut5 us0 us1 us2 us3 C I E
