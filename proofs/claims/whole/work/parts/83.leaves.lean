/-! THE LEAVES: constructors of House, Reader, Rule, Sheet, Showers, Text; Day's -/
def wX1 (G : gG) (q : Nat) (v : Nat → Nat) : va_W := [(q, .inr (1, [.ref (v 0), .ref (v 1), .ref (v 2), .ref (v 3), .ref (v 4), .ref (v 5), .ref (v 6), .ref (v 7), .int 0, .int 0, .int 0, .int 2, .int 0, .int 0])), (v 0, .inl (G.2.2 0, 24, .inl (fun _ => 0))), (v 1, .inl (G.2.2 0, 6, .inl (fun _ => 0))), (v 2, .inl (G.2.2 0, 6, .inl (fun _ => 0))), (v 3, .inl (G.2.2 0, 6, .inl (fun _ => 0))), (v 4, .inl (G.2.2 0, 6, .inl (fun _ => 0))), (v 5, .inl (G.2.2 0, 5, .inl (fun _ => 0))), (v 6, .inl (G.2.2 0, 5, .inl (fun _ => 0))), (v 7, .inl (G.2.2 0, 5, .inl (fun _ => 0)))]
set_option maxHeartbeats 2000000 in
set_option maxRecDepth 20000 in
theorem k_b1 (G : gG) (ad0 : Nat → Nat) (q : Nat) : bM yX1_init cX1_init 1 1 8 63 G.2.1 (g_tys G) ad0 [] q (.inr (1, [.null, .null, .null, .null, .null, .null, .null, .null, .int 0, .int 0, .int 0, .int 0, .int 0, .int 0])) (fun W => ∃ v : Nat → Nat, W = wX1 G q v) := by
  refine bM.bof (own := 1) (L := [(0, .ref q)]) (by decide) rfl rfl (Nat.le_of_ble_eq_true rfl) rfl (fun X A C I E => ?_)
  refine B_aload C 0 dX1_init_0 rfl rfl ?_
  refine B_obj C dX1_init_1 wo_X1 wo_i wo_c (Nat.le_of_ble_eq_true rfl) (Nat.le_of_ble_eq_true rfl) ?_
  refine B_aload C 0 dX1_init_4 rfl rfl ?_
  refine B_bipush C (v := 24) dX1_init_5 rfl ?_
  refine B_newa C (N := 24) 0 wa_int rfl rfl ra_int rfl (by decide) rfl (Nat.le_of_ble_eq_true rfl) ⟨Nat.le_of_ble_eq_true rfl, Nat.le_of_ble_eq_true rfl⟩ dX1_init_7 (fun q1 => ?_)
  refine B_putF C I ff_X1_9 (by exact Nat.le_of_ble_eq_true rfl) dX1_init_9 ?_
  refine B_aload C 0 dX1_init_12 rfl rfl ?_
  refine B_bipush C (v := 6) dX1_init_13 rfl ?_
  refine B_newa C (N := 6) 0 wa_int rfl rfl ra_int rfl (by decide) rfl (Nat.le_of_ble_eq_true rfl) ⟨Nat.le_of_ble_eq_true rfl, Nat.le_of_ble_eq_true rfl⟩ dX1_init_15 (fun q2 => ?_)
  refine B_putF C I ff_X1_15 (by exact Nat.le_of_ble_eq_true rfl) dX1_init_17 ?_
  refine B_aload C 0 dX1_init_20 rfl rfl ?_
  refine B_bipush C (v := 6) dX1_init_21 rfl ?_
  refine B_newa C (N := 6) 0 wa_int rfl rfl ra_int rfl (by decide) rfl (Nat.le_of_ble_eq_true rfl) ⟨Nat.le_of_ble_eq_true rfl, Nat.le_of_ble_eq_true rfl⟩ dX1_init_23 (fun q3 => ?_)
  refine B_putF C I ff_X1_18 (by exact Nat.le_of_ble_eq_true rfl) dX1_init_25 ?_
  refine B_aload C 0 dX1_init_28 rfl rfl ?_
  refine B_bipush C (v := 6) dX1_init_29 rfl ?_
  refine B_newa C (N := 6) 0 wa_int rfl rfl ra_int rfl (by decide) rfl (Nat.le_of_ble_eq_true rfl) ⟨Nat.le_of_ble_eq_true rfl, Nat.le_of_ble_eq_true rfl⟩ dX1_init_31 (fun q4 => ?_)
  refine B_putF C I ff_X1_21 (by exact Nat.le_of_ble_eq_true rfl) dX1_init_33 ?_
  refine B_aload C 0 dX1_init_36 rfl rfl ?_
  refine B_bipush C (v := 6) dX1_init_37 rfl ?_
  refine B_newa C (N := 6) 0 wa_int rfl rfl ra_int rfl (by decide) rfl (Nat.le_of_ble_eq_true rfl) ⟨Nat.le_of_ble_eq_true rfl, Nat.le_of_ble_eq_true rfl⟩ dX1_init_39 (fun q5 => ?_)
  refine B_putF C I ff_X1_24 (by exact Nat.le_of_ble_eq_true rfl) dX1_init_41 ?_
  refine B_aload C 0 dX1_init_44 rfl rfl ?_
  refine B_iconst C (v := 5) dX1_init_45 rfl ?_
  refine B_newa C (N := 5) 0 wa_int rfl rfl ra_int rfl (by decide) rfl (Nat.le_of_ble_eq_true rfl) ⟨Nat.le_of_ble_eq_true rfl, Nat.le_of_ble_eq_true rfl⟩ dX1_init_46 (fun q6 => ?_)
  refine B_putF C I ff_X1_27 (by exact Nat.le_of_ble_eq_true rfl) dX1_init_48 ?_
  refine B_aload C 0 dX1_init_51 rfl rfl ?_
  refine B_iconst C (v := 5) dX1_init_52 rfl ?_
  refine B_newa C (N := 5) 0 wa_int rfl rfl ra_int rfl (by decide) rfl (Nat.le_of_ble_eq_true rfl) ⟨Nat.le_of_ble_eq_true rfl, Nat.le_of_ble_eq_true rfl⟩ dX1_init_53 (fun q7 => ?_)
  refine B_putF C I ff_X1_30 (by exact Nat.le_of_ble_eq_true rfl) dX1_init_55 ?_
  refine B_aload C 0 dX1_init_58 rfl rfl ?_
  refine B_iconst C (v := 5) dX1_init_59 rfl ?_
  refine B_newa C (N := 5) 0 wa_int rfl rfl ra_int rfl (by decide) rfl (Nat.le_of_ble_eq_true rfl) ⟨Nat.le_of_ble_eq_true rfl, Nat.le_of_ble_eq_true rfl⟩ dX1_init_60 (fun q8 => ?_)
  refine B_putF C I ff_X1_33 (by exact Nat.le_of_ble_eq_true rfl) dX1_init_62 ?_
  refine B_aload C 0 dX1_init_65 rfl rfl ?_
  refine B_iconst C (v := 2) dX1_init_66 rfl ?_
  refine B_put C fl_X1_36 (by decide) (by exact Nat.le_of_ble_eq_true rfl) rfl rfl dX1_init_67 ?_
  exact B_vret C I dX1_init_70 ⟨fun j => [q1, q2, q3, q4, q5, q6, q7, q8].getD j 0, rfl⟩
def wX2 (G : gG) (q : Nat) (v : Nat → Nat) : va_W := [(q, .inr (2, [.ref (v 0), .int 0, .null, .int 0, .int 0, .int 0, .int 0, .int 0, .int 0, .int 0])), (v 0, .inl (G.2.2 0, 160, .inl (fun _ => 0)))]
set_option maxHeartbeats 2000000 in
set_option maxRecDepth 20000 in
theorem k_b2 (G : gG) (ad0 : Nat → Nat) (q : Nat) : bM yX2_init cX2_init 1 1 1 160 G.2.1 (g_tys G) ad0 [] q (.inr (2, [.null, .int 0, .null, .int 0, .int 0, .int 0, .int 0, .int 0, .int 0, .int 0])) (fun W => ∃ v : Nat → Nat, W = wX2 G q v) := by
  refine bM.bof (own := 2) (L := [(0, .ref q)]) (by decide) rfl rfl (Nat.le_of_ble_eq_true rfl) rfl (fun X A C I E => ?_)
  refine B_aload C 0 dX2_init_0 rfl rfl ?_
  refine B_obj C dX2_init_1 wo_X2 wo_i wo_c (Nat.le_of_ble_eq_true rfl) (Nat.le_of_ble_eq_true rfl) ?_
  refine B_aload C 0 dX2_init_4 rfl rfl ?_
  refine B_sipush C (v := 160) dX2_init_5 rfl ?_
  refine B_newa C (N := 160) 0 wa_int rfl rfl ra_int rfl (by decide) rfl (Nat.le_of_ble_eq_true rfl) ⟨Nat.le_of_ble_eq_true rfl, Nat.le_of_ble_eq_true rfl⟩ dX2_init_8 (fun q1 => ?_)
  refine B_putF C I ff_X2_13 (by exact Nat.le_of_ble_eq_true rfl) dX2_init_10 ?_
  exact B_vret C I dX2_init_13 ⟨fun j => [q1].getD j 0, rfl⟩
def wX6 (G : gG) (q : Nat) (v : Nat → Nat) : va_W := [(q, .inr (6, [.ref (v 0), .ref (v 1)])), (v 0, .inl (G.2.2 0, 160, .inl (fun _ => 0))), (v 1, .inl (G.2.2 0, 3, .inl (fun _ => 0)))]
set_option maxHeartbeats 2000000 in
set_option maxRecDepth 20000 in
theorem k_b6 (G : gG) (ad0 : Nat → Nat) (q : Nat) : bM yX6_init cX6_init 1 1 2 163 G.2.1 (g_tys G) ad0 [] q (.inr (6, [.null, .null])) (fun W => ∃ v : Nat → Nat, W = wX6 G q v) := by
  refine bM.bof (own := 6) (L := [(0, .ref q)]) (by decide) rfl rfl (Nat.le_of_ble_eq_true rfl) rfl (fun X A C I E => ?_)
  refine B_aload C 0 dX6_init_0 rfl rfl ?_
  refine B_obj C dX6_init_1 wo_X6 wo_i wo_c (Nat.le_of_ble_eq_true rfl) (Nat.le_of_ble_eq_true rfl) ?_
  refine B_aload C 0 dX6_init_4 rfl rfl ?_
  refine B_sipush C (v := 160) dX6_init_5 rfl ?_
  refine B_newa C (N := 160) 0 wa_int rfl rfl ra_int rfl (by decide) rfl (Nat.le_of_ble_eq_true rfl) ⟨Nat.le_of_ble_eq_true rfl, Nat.le_of_ble_eq_true rfl⟩ dX6_init_8 (fun q1 => ?_)
  refine B_putF C I ff_X6_9 (by exact Nat.le_of_ble_eq_true rfl) dX6_init_10 ?_
  refine B_aload C 0 dX6_init_13 rfl rfl ?_
  refine B_iconst C (v := 3) dX6_init_14 rfl ?_
  refine B_newa C (N := 3) 0 wa_int rfl rfl ra_int rfl (by decide) rfl (Nat.le_of_ble_eq_true rfl) ⟨Nat.le_of_ble_eq_true rfl, Nat.le_of_ble_eq_true rfl⟩ dX6_init_15 (fun q2 => ?_)
  refine B_putF C I ff_X6_15 (by exact Nat.le_of_ble_eq_true rfl) dX6_init_17 ?_
  exact B_vret C I dX6_init_20 ⟨fun j => [q1, q2].getD j 0, rfl⟩
def wX4 (G : gG) (q : Nat) (v : Nat → Nat) : va_W := [(q, .inr (4, [.int (-1), .int 0, .ref (v 0)])), (v 0, .inl (G.2.2 0, 40, .inl (fun _ => 0)))]
set_option maxHeartbeats 2000000 in
set_option maxRecDepth 20000 in
theorem k_b4 (G : gG) (ad0 : Nat → Nat) (q : Nat) : bM yX4_init cX4_init 1 1 1 40 G.2.1 (g_tys G) ad0 [] q (.inr (4, [.int 0, .int 0, .null])) (fun W => ∃ v : Nat → Nat, W = wX4 G q v) := by
  refine bM.bof (own := 4) (L := [(0, .ref q)]) (by decide) rfl rfl (Nat.le_of_ble_eq_true rfl) rfl (fun X A C I E => ?_)
  refine B_aload C 0 dX4_init_0 rfl rfl ?_
  refine B_obj C dX4_init_1 wo_X4 wo_i wo_c (Nat.le_of_ble_eq_true rfl) (Nat.le_of_ble_eq_true rfl) ?_
  refine B_aload C 0 dX4_init_4 rfl rfl ?_
  refine B_iconst C (v := (-1)) dX4_init_5 rfl ?_
  refine B_put C fl_X4_9 (by decide) (by exact Nat.le_of_ble_eq_true rfl) rfl rfl dX4_init_6 ?_
  refine B_aload C 0 dX4_init_9 rfl rfl ?_
  refine B_bipush C (v := 40) dX4_init_10 rfl ?_
  refine B_newa C (N := 40) 0 wa_int rfl rfl ra_int rfl (by decide) rfl (Nat.le_of_ble_eq_true rfl) ⟨Nat.le_of_ble_eq_true rfl, Nat.le_of_ble_eq_true rfl⟩ dX4_init_12 (fun q1 => ?_)
  refine B_putF C I ff_X4_15 (by exact Nat.le_of_ble_eq_true rfl) dX4_init_14 ?_
  exact B_vret C I dX4_init_17 ⟨fun j => [q1].getD j 0, rfl⟩
def wX3 (G : gG) (q : Nat) (v : Nat → Nat) (tx : Nat) : va_W := [(q, .inr (3, [.ref tx, .ref (v 0), .ref (v 1)])), (v 0, .inl (G.2.2 0, 6, .inl (fun _ => 0))), (v 1, .inl (G.2.2 0, 160, .inl (fun _ => 0)))]
set_option maxHeartbeats 2000000 in
set_option maxRecDepth 20000 in
theorem k_b3 (G : gG) (ad0 : Nat → Nat) (q : Nat) (tx : Nat) : bM yX3_init cX3_init 2 1 2 166 G.2.1 (g_tys G) ad0 [.ref tx] q (.inr (3, [.null, .null, .null])) (fun W => ∃ v : Nat → Nat, W = wX3 G q v tx) := by
  refine bM.bof (own := 3) (L := [(0, .ref q), (1, .ref tx)]) (by decide) rfl rfl (Nat.le_of_ble_eq_true rfl) rfl (fun X A C I E => ?_)
  refine B_aload C 0 dX3_init_0 rfl rfl ?_
  refine B_obj C dX3_init_1 wo_X3 wo_i wo_c (Nat.le_of_ble_eq_true rfl) (Nat.le_of_ble_eq_true rfl) ?_
  refine B_aload C 0 dX3_init_4 rfl rfl ?_
  refine B_bipush C (v := 6) dX3_init_5 rfl ?_
  refine B_newa C (N := 6) 0 wa_int rfl rfl ra_int rfl (by decide) rfl (Nat.le_of_ble_eq_true rfl) ⟨Nat.le_of_ble_eq_true rfl, Nat.le_of_ble_eq_true rfl⟩ dX3_init_7 (fun q1 => ?_)
  refine B_putF C I ff_X3_11 (by exact Nat.le_of_ble_eq_true rfl) dX3_init_9 ?_
  refine B_aload C 0 dX3_init_12 rfl rfl ?_
  refine B_sipush C (v := 160) dX3_init_13 rfl ?_
  refine B_newa C (N := 160) 0 wa_int rfl rfl ra_int rfl (by decide) rfl (Nat.le_of_ble_eq_true rfl) ⟨Nat.le_of_ble_eq_true rfl, Nat.le_of_ble_eq_true rfl⟩ dX3_init_16 (fun q2 => ?_)
  refine B_putF C I ff_X3_17 (by exact Nat.le_of_ble_eq_true rfl) dX3_init_18 ?_
  refine B_aload C 0 dX3_init_21 rfl rfl ?_
  refine B_aload C 1 dX3_init_22 rfl rfl ?_
  refine B_put C fl_X3_20 (by decide) (by exact Nat.le_of_ble_eq_true rfl) rfl rfl dX3_init_23 ?_
  exact B_vret C I dX3_init_26 ⟨fun j => [q1, q2].getD j 0, rfl⟩
def wX5 (G : gG) (q : Nat) (v : Nat → Nat) (hs : Nat) (rl : Nat) : va_W := [(q, .inr (5, [.ref hs, .ref rl, .ref (v 0), .ref (v 1), .int 0, .int 0, .ref (v 2)])), (v 0, .inl (G.2.2 0, 24, .inl (fun _ => 0))), (v 1, .inl (G.2.2 0, 6, .inl (fun _ => 0))), (v 2, .inl (G.2.2 0, 192, .inl (fun _ => 0)))]
set_option maxHeartbeats 2000000 in
set_option maxRecDepth 20000 in
theorem k_b5 (G : gG) (ad0 : Nat → Nat) (q : Nat) (hs : Nat) (rl : Nat) : bM yX5_init cX5_init 3 1 3 222 G.2.1 (g_tys G) ad0 [.ref hs, .ref rl] q (.inr (5, [.null, .null, .null, .null, .int 0, .int 0, .null])) (fun W => ∃ v : Nat → Nat, W = wX5 G q v hs rl) := by
  refine bM.bof (own := 5) (L := [(0, .ref q), (1, .ref hs), (2, .ref rl)]) (by decide) rfl rfl (Nat.le_of_ble_eq_true rfl) rfl (fun X A C I E => ?_)
  refine B_aload C 0 dX5_init_0 rfl rfl ?_
  refine B_obj C dX5_init_1 wo_X5 wo_i wo_c (Nat.le_of_ble_eq_true rfl) (Nat.le_of_ble_eq_true rfl) ?_
  refine B_aload C 0 dX5_init_4 rfl rfl ?_
  refine B_bipush C (v := 24) dX5_init_5 rfl ?_
  refine B_newa C (N := 24) 0 wa_int rfl rfl ra_int rfl (by decide) rfl (Nat.le_of_ble_eq_true rfl) ⟨Nat.le_of_ble_eq_true rfl, Nat.le_of_ble_eq_true rfl⟩ dX5_init_7 (fun q1 => ?_)
  refine B_putF C I ff_X5_9 (by exact Nat.le_of_ble_eq_true rfl) dX5_init_9 ?_
  refine B_aload C 0 dX5_init_12 rfl rfl ?_
  refine B_bipush C (v := 6) dX5_init_13 rfl ?_
  refine B_newa C (N := 6) 0 wa_int rfl rfl ra_int rfl (by decide) rfl (Nat.le_of_ble_eq_true rfl) ⟨Nat.le_of_ble_eq_true rfl, Nat.le_of_ble_eq_true rfl⟩ dX5_init_15 (fun q2 => ?_)
  refine B_putF C I ff_X5_15 (by exact Nat.le_of_ble_eq_true rfl) dX5_init_17 ?_
  refine B_aload C 0 dX5_init_20 rfl rfl ?_
  refine B_sipush C (v := 192) dX5_init_21 rfl ?_
  refine B_newa C (N := 192) 0 wa_int rfl rfl ra_int rfl (by decide) rfl (Nat.le_of_ble_eq_true rfl) ⟨Nat.le_of_ble_eq_true rfl, Nat.le_of_ble_eq_true rfl⟩ dX5_init_24 (fun q3 => ?_)
  refine B_putF C I ff_X5_18 (by exact Nat.le_of_ble_eq_true rfl) dX5_init_26 ?_
  refine B_aload C 0 dX5_init_29 rfl rfl ?_
  refine B_aload C 1 dX5_init_30 rfl rfl ?_
  refine B_putF C I ff_X5_21 (by exact Nat.le_of_ble_eq_true rfl) dX5_init_31 ?_
  refine B_aload C 0 dX5_init_34 rfl rfl ?_
  refine B_aload C 2 dX5_init_35 rfl rfl ?_
  refine B_putF C I ff_X5_25 (by exact Nat.le_of_ble_eq_true rfl) dX5_init_36 ?_
  exact B_vret C I dX5_init_39 ⟨fun j => [q1, q2, q3].getD j 0, rfl⟩
def wX0 (G : gG) (q : Nat) (v u : Nat → Nat) (hs : Nat) (rl : Nat) : va_W := [(q, .inr (0, [.ref hs, .ref rl, .ref (v 6), .int 0, .int 0, .int 0, .ref (v 0), .ref (v 1), .ref (v 2), .ref (v 3), .ref (v 4), .ref (v 5), .int 0, .int 0, .int 0, .int 0, .int 0, .int 0])), (v 0, .inl (G.2.2 0, 5, .inl (fun _ => 0))), (v 1, .inl (G.2.2 0, 8, .inl (fun _ => 0))), (v 2, .inl (G.2.2 0, 5, .inl (fun _ => 0))), (v 3, .inl (G.2.2 0, 8, .inl (fun _ => 0))), (v 4, .inl (G.2.2 0, 192, .inl (fun _ => 0))), (v 5, .inl (G.2.2 0, 192, .inl (fun _ => 0)))] ++ wX5 G (v 6) u hs rl
set_option maxHeartbeats 2000000 in
set_option maxRecDepth 20000 in
theorem k_b0 (G : gG) (ad0 : Nat → Nat) (q : Nat) (hs : Nat) (rl : Nat) : bM yX0_init cX0_init 3 2 10 639 G.2.1 (g_tys G) ad0 [.ref hs, .ref rl] q (.inr (0, [.null, .null, .null, .int 0, .int 0, .int 0, .null, .null, .null, .null, .null, .null, .int 0, .int 0, .int 0, .int 0, .int 0, .int 0])) (fun W => ∃ v u : Nat → Nat, W = wX0 G q v u hs rl) := by
  refine bM.bof (own := 0) (L := [(0, .ref q), (1, .ref hs), (2, .ref rl)]) (by decide) rfl rfl (Nat.le_of_ble_eq_true rfl) rfl (fun X A C I E => ?_)
  refine B_aload C 0 dX0_init_0 rfl rfl ?_
  refine B_obj C dX0_init_1 wo_X0 wo_i wo_c (Nat.le_of_ble_eq_true rfl) (Nat.le_of_ble_eq_true rfl) ?_
  refine B_aload C 0 dX0_init_4 rfl rfl ?_
  refine B_iconst C (v := 5) dX0_init_5 rfl ?_
  refine B_newa C (N := 5) 0 wa_int rfl rfl ra_int rfl (by decide) rfl (Nat.le_of_ble_eq_true rfl) ⟨Nat.le_of_ble_eq_true rfl, Nat.le_of_ble_eq_true rfl⟩ dX0_init_6 (fun q1 => ?_)
  refine B_putF C I ff_X0_9 (by exact Nat.le_of_ble_eq_true rfl) dX0_init_8 ?_
  refine B_aload C 0 dX0_init_11 rfl rfl ?_
  refine B_bipush C (v := 8) dX0_init_12 rfl ?_
  refine B_newa C (N := 8) 0 wa_int rfl rfl ra_int rfl (by decide) rfl (Nat.le_of_ble_eq_true rfl) ⟨Nat.le_of_ble_eq_true rfl, Nat.le_of_ble_eq_true rfl⟩ dX0_init_14 (fun q2 => ?_)
  refine B_putF C I ff_X0_15 (by exact Nat.le_of_ble_eq_true rfl) dX0_init_16 ?_
  refine B_aload C 0 dX0_init_19 rfl rfl ?_
  refine B_iconst C (v := 5) dX0_init_20 rfl ?_
  refine B_newa C (N := 5) 0 wa_int rfl rfl ra_int rfl (by decide) rfl (Nat.le_of_ble_eq_true rfl) ⟨Nat.le_of_ble_eq_true rfl, Nat.le_of_ble_eq_true rfl⟩ dX0_init_21 (fun q3 => ?_)
  refine B_putF C I ff_X0_18 (by exact Nat.le_of_ble_eq_true rfl) dX0_init_23 ?_
  refine B_aload C 0 dX0_init_26 rfl rfl ?_
  refine B_bipush C (v := 8) dX0_init_27 rfl ?_
  refine B_newa C (N := 8) 0 wa_int rfl rfl ra_int rfl (by decide) rfl (Nat.le_of_ble_eq_true rfl) ⟨Nat.le_of_ble_eq_true rfl, Nat.le_of_ble_eq_true rfl⟩ dX0_init_29 (fun q4 => ?_)
  refine B_putF C I ff_X0_21 (by exact Nat.le_of_ble_eq_true rfl) dX0_init_31 ?_
  refine B_aload C 0 dX0_init_34 rfl rfl ?_
  refine B_sipush C (v := 192) dX0_init_35 rfl ?_
  refine B_newa C (N := 192) 0 wa_int rfl rfl ra_int rfl (by decide) rfl (Nat.le_of_ble_eq_true rfl) ⟨Nat.le_of_ble_eq_true rfl, Nat.le_of_ble_eq_true rfl⟩ dX0_init_38 (fun q5 => ?_)
  refine B_putF C I ff_X0_24 (by exact Nat.le_of_ble_eq_true rfl) dX0_init_40 ?_
  refine B_aload C 0 dX0_init_43 rfl rfl ?_
  refine B_sipush C (v := 192) dX0_init_44 rfl ?_
  refine B_newa C (N := 192) 0 wa_int rfl rfl ra_int rfl (by decide) rfl (Nat.le_of_ble_eq_true rfl) ⟨Nat.le_of_ble_eq_true rfl, Nat.le_of_ble_eq_true rfl⟩ dX0_init_47 (fun q6 => ?_)
  refine B_putF C I ff_X0_27 (by exact Nat.le_of_ble_eq_true rfl) dX0_init_49 ?_
  refine B_aload C 0 dX0_init_52 rfl rfl ?_
  refine B_aload C 1 dX0_init_53 rfl rfl ?_
  refine B_putF C I ff_X0_30 (by exact Nat.le_of_ble_eq_true rfl) dX0_init_54 ?_
  refine B_aload C 0 dX0_init_57 rfl rfl ?_
  refine B_aload C 2 dX0_init_58 rfl rfl ?_
  refine B_putF C I ff_X0_34 (by exact Nat.le_of_ble_eq_true rfl) dX0_init_59 ?_
  refine B_aload C 0 dX0_init_62 rfl rfl ?_
  refine B_new C nf_X0_38 ⟨Nat.le_of_ble_eq_true rfl, Nat.le_of_ble_eq_true rfl⟩ dX0_init_63 (fun q7 => ?_)
  refine B_dup C dX0_init_66 rfl ?_
  refine B_aload C 1 dX0_init_67 rfl rfl ?_
  refine B_aload C 2 dX0_init_68 rfl rfl ?_
  refine B_ctor C E (As := [.ref hs, .ref rl]) (rest := [.ref q7, .ref q]) ci_X0_40 (k_b5 G ad0 q7 hs rl) (Nat.le_of_ble_eq_true rfl) (Nat.le_of_ble_eq_true rfl) rfl rfl (Nat.le_of_ble_eq_true rfl) ⟨Nat.le_of_ble_eq_true rfl, Nat.le_of_ble_eq_true rfl⟩ dX0_init_69 (fun W hW => ?_)
  obtain ⟨u, rfl⟩ := hW
  refine B_putF C I ff_X0_43 (by exact Nat.le_of_ble_eq_true rfl) dX0_init_72 ?_
  exact B_vret C I dX0_init_75 ⟨fun j => [q1, q2, q3, q4, q5, q6, q7].getD j 0, u, rfl⟩
