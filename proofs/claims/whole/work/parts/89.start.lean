/-! THE LAW'S START: the classes, the arrays' classes, what lies outside -/
def b_tm : Nat → Term
  | 0 => .string "UnderTheRoof" 40
  | 1 => .string "UnderTheRoof$Reader" 108
  | _ => .string "UnderTheRoof$Reader" 101
def b_pos : Nat → Nat
  | 0 => 36
  | 1 => 86
  | _ => 151
set_option maxRecDepth 100000 in
theorem fl_ex : ∀ i, i < 3 → (flatC (Jvm.Cond.and given_1 narrow_1))[b_pos i]? = some (Cond.exactly (b_tm i) "java/lang/String") := by decide +kernel
set_option maxRecDepth 100000 in
theorem fl_co : ∀ i, i < 3 → (flatC (Jvm.Cond.and given_1 narrow_1))[b_pos i + 1]? = some (Cond.eq (.field (b_tm i) "java/lang/String" "coder" "B") (.int 0)) := by decide +kernel
set_option maxRecDepth 100000 in
theorem fl_ar : ∀ i, i < 3 → (flatC (Jvm.Cond.and given_1 narrow_1))[b_pos i + 2]? = some (Cond.arrayOf (.field (b_tm i) "java/lang/String" "value" "[B") .byte) := by decide +kernel
set_option maxRecDepth 100000 in
theorem fl_le : ∀ i, i < 3 → (flatC (Jvm.Cond.and given_1 narrow_1))[b_pos i + 3]? = some (Cond.eq (.length (.field (b_tm i) "java/lang/String" "value" "[B")) (.int (Int32.ofNat (g_slen.getD i 0)))) := by decide +kernel
set_option maxRecDepth 100000 in
theorem fl_el : ∀ i, i < 3 → ∀ j, j < g_slen.getD i 0 → (flatC (Jvm.Cond.and given_1 narrow_1))[b_pos i + 4 + j]? = some (Cond.eq (.elem (.field (b_tm i) "java/lang/String" "value" "[B") (.int (Int32.ofNat j))) (.int ((g_sbyt.getD i []).getD j 0))) := by decide +kernel
set_option maxRecDepth 100000 in
theorem fl_un : ∀ j, j < 6 → (flatC (Jvm.Cond.and given_1 narrow_1))[12 + j]? = some (Cond.eq (.elem (.static "UnderTheRoof" "UNDER" "[I") (.int (Int32.ofNat j))) (.int (g_under.getD j 0))) := by decide +kernel
set_option maxRecDepth 100000 in
theorem fl_01 : (flatC (Jvm.Cond.and given_1 narrow_1))[150]? = some (Cond.not (Cond.eq (b_tm 0) (b_tm 1))) := by decide +kernel
set_option maxRecDepth 100000 in
theorem fl_02 : (flatC (Jvm.Cond.and given_1 narrow_1))[163]? = some (Cond.not (Cond.eq (b_tm 0) (b_tm 2))) := by decide +kernel
set_option maxRecDepth 100000 in
theorem fl_12 : (flatC (Jvm.Cond.and given_1 narrow_1))[164]? = some (Cond.not (Cond.eq (b_tm 1) (b_tm 2))) := by decide +kernel
set_option maxRecDepth 100000 in
theorem fl_ua : (flatC (Jvm.Cond.and given_1 narrow_1))[10]? = some (Cond.arrayOf (.static "UnderTheRoof" "UNDER" "[I") .int) := by decide +kernel
set_option maxRecDepth 100000 in
theorem fl_ul : (flatC (Jvm.Cond.and given_1 narrow_1))[11]? = some (Cond.eq (.length (.static "UnderTheRoof" "UNDER" "[I")) (.int (Int32.ofNat 6))) := by decide +kernel
set_option maxRecDepth 100000 in
theorem fl_cs : (flatC (Jvm.Cond.and given_1 narrow_1))[4]? = some (Cond.eq (.static "java/lang/String" "COMPACT_STRINGS" "Z") (.int 1)) := by decide +kernel
set_option maxRecDepth 100000 in
theorem fl_fo : (flatC (Jvm.Cond.and given_1 narrow_1))[5]? = some (Cond.isRef (.static "jdk/internal/util/Preconditions" "SIOOBE_FORMATTER" "Ljava/util/function/BiFunction;")) := by decide +kernel
theorem b_vkS {N : Nat} {len : List Nat} {byt : List (List Int32)} {aK aV aK' aV' : Nat → Nat} {A : Nat → Prop} {U : State} {H : Heap} (h : vk_S N len byt aK aV A U H) (e1 : ∀ i, i < N → aK' i = aK i) (e2 : ∀ i, i < N → aV' i = aV i) : vk_S N len byt aK' aV' A U H := by
  refine ⟨fun i hi => ?_, fun i j hi hj e => h.2 i j hi hj (by rw [← e1 i hi, ← e1 j hj]; exact e)⟩
  rw [e1 i hi, e2 i hi]
  exact h.1 i hi
set_option maxHeartbeats 2000000 in
theorem law_start {s : State} {b : Nat} (hts : ∀ w ∈ lw_tbl, w.before #[Value.ref b] s = true) (hgv : (Jvm.Cond.and given_1 narrow_1).before #[Value.ref b] s = true) : ∃ (ad0 : Nat → Nat) (G : gG), va_K G.2.1 g_cl (g_tys G) s ∧ bE ad0 (fun q => s.heap.size ≤ q) s s.heap := by
  have hfl : ∀ (k : Nat) (c : Cond), (flatC (Jvm.Cond.and given_1 narrow_1))[k]? = some c → c.before #[Value.ref b] s = true := fun k c h => flat_of_before _ hgv c (List.mem_of_getElem? h)
  have htB : ∀ w ∈ g_B, w.before #[Value.ref b] s = true := fun w hw => hts w (g_B_sub w hw)
  have hA : ∀ a : Nat, a < s.heap.size → ¬ (fun q : Nat => s.heap.size ≤ q) a := fun a h1 h2 => absurd h1 (Nat.not_lt.mpr h2)
  -- the Strings
  obtain ⟨aK, aV, hS, hR⟩ := vk_Sof (args := #[Value.ref b]) (s := s) (N := 3) (tm := b_tm) (len := g_slen) (byt := g_sbyt) (A := fun q => s.heap.size ≤ q) (fun i _ => Nat.lt_of_le_of_lt g_slen_le (by decide)) (fun i hi => hfl _ _ (fl_ex i hi)) (fun i hi => hfl _ _ (fl_co i hi)) (fun i hi => hfl _ _ (fl_ar i hi)) (fun i hi => hfl _ _ (fl_le i hi)) (fun i hi j hj => hfl _ _ (fl_el i hi j hj)) (fun i j hi hj hne => by
    rcases (show (i = 0 ∧ j = 1) ∨ (i = 1 ∧ j = 0) ∨ (i = 0 ∧ j = 2) ∨ (i = 2 ∧ j = 0) ∨ (i = 1 ∧ j = 2) ∨ (i = 2 ∧ j = 1) by omega) with ⟨rfl, rfl⟩ | ⟨rfl, rfl⟩ | ⟨rfl, rfl⟩ | ⟨rfl, rfl⟩ | ⟨rfl, rfl⟩ | ⟨rfl, rfl⟩
    · exact Or.inl (hfl _ _ fl_01)
    · exact Or.inr (hfl _ _ fl_01)
    · exact Or.inl (hfl _ _ fl_02)
    · exact Or.inr (hfl _ _ fl_02)
    · exact Or.inl (hfl _ _ fl_12)
    · exact Or.inr (hfl _ _ fl_12)) hA
  -- the table of kinds
  obtain ⟨tU, hU, hT⟩ := va_Tof (args := #[Value.ref b]) (s := s) (tm := .static "UnderTheRoof" "UNDER" "[I") (ty := .int) (N := 6) (f := fun j => .int (g_under.getD j 0)) (A := fun q => s.heap.size ≤ q) (by decide) (hfl _ _ fl_ua) (va_eqt (hfl _ _ fl_ul)) (fun j hj => va_eqt (hfl _ _ (fl_un j hj))) hA
  have hZ := va_Zref (A := fun q => s.heap.size ≤ q) (hts _ (g_tb3 _ (List.mem_of_getElem? (i := 60) (by decide +kernel)))) (hts _ (g_tb1 _ (List.mem_of_getElem? (i := 1) (by decide +kernel)))) hU hA
  have hC := va_Zof (A := fun q => s.heap.size ≤ q) (hts _ (g_tb1 _ (List.mem_of_getElem? (i := 188) (by decide +kernel)))) (hts _ (g_tb1 _ (List.mem_of_getElem? (i := 6) (by decide +kernel)))) (va_eqt (hfl _ _ fl_cs)) hA
  have hF : ∃ tF : Nat, va_Z "jdk/internal/util/Preconditions" "SIOOBE_FORMATTER" "Ljava/util/function/BiFunction;" .null (fun q => s.heap.size ≤ q) s s.heap ∨ va_Z "jdk/internal/util/Preconditions" "SIOOBE_FORMATTER" "Ljava/util/function/BiFunction;" (.ref tF) (fun q => s.heap.size ≤ q) s s.heap := by
    rcases va_Zqof (A := fun q => s.heap.size ≤ q) (hts _ (g_tb1 _ (List.mem_of_getElem? (i := 204) (by decide +kernel)))) (hts _ (g_tb1 _ (List.mem_of_getElem? (i := 8) (by decide +kernel)))) (hfl _ _ fl_fo) hA with h | ⟨t, h⟩
    · exact ⟨0, Or.inl h⟩
    · exact ⟨t, Or.inr h⟩
  obtain ⟨tF, hF⟩ := hF
  -- classes
  have h0 : ∀ c : Nat, ∃ z : ClassId × (Nat → Nat), ∀ q : vw_C, g_cl[c]? = some q → u_Kn s q.1 q.2.1 q.2.2 z.1 z.2 := fun c => match c, trivial with
    | 0, hq => by
      obtain ⟨cC, iS, hk⟩ := u_known (C := RX0) (T := TX0) (N := 18) (n := 18) htB inB_X0 (hts _ (g_tb2 _ (List.mem_of_getElem? (i := 140) (by decide +kernel))))
      exact ⟨(cC, iS), fun q hq => by cases hq; exact hk⟩
    | 1, hq => by
      obtain ⟨cC, iS, hk⟩ := u_known (C := RX1) (T := TX1) (N := 14) (n := 14) htB inB_X1 (hts _ (g_tb1 _ (List.mem_of_getElem? (i := 26) (by decide +kernel))))
      exact ⟨(cC, iS), fun q hq => by cases hq; exact hk⟩
    | 2, hq => by
      obtain ⟨cC, iS, hk⟩ := u_known (C := RX2) (T := TX2) (N := 10) (n := 10) htB inB_X2 (hts _ (g_tb1 _ (List.mem_of_getElem? (i := 103) (by decide +kernel))))
      exact ⟨(cC, iS), fun q hq => by cases hq; exact hk⟩
    | 3, hq => by
      obtain ⟨cC, iS, hk⟩ := u_known (C := RX3) (T := TX3) (N := 3) (n := 3) htB inB_X3 (hts _ (g_tb2 _ (List.mem_of_getElem? (i := 122) (by decide +kernel))))
      exact ⟨(cC, iS), fun q hq => by cases hq; exact hk⟩
    | 4, hq => by
      obtain ⟨cC, iS, hk⟩ := u_known (C := RX4) (T := TX4) (N := 3) (n := 3) htB inB_X4 (hts _ (g_tb1 _ (List.mem_of_getElem? (i := 160) (by decide +kernel))))
      exact ⟨(cC, iS), fun q hq => by cases hq; exact hk⟩
    | 5, hq => by
      obtain ⟨cC, iS, hk⟩ := u_known (C := RX5) (T := TX5) (N := 7) (n := 7) htB inB_X5 (hts _ (g_tb2 _ (List.mem_of_getElem? (i := 146) (by decide +kernel))))
      exact ⟨(cC, iS), fun q hq => by cases hq; exact hk⟩
    | 6, hq => by
      obtain ⟨cC, iS, hk⟩ := u_known (C := RX6) (T := TX6) (N := 2) (n := 2) htB inB_X6 (hts _ (g_tb1 _ (List.mem_of_getElem? (i := 144) (by decide +kernel))))
      exact ⟨(cC, iS), fun q hq => by cases hq; exact hk⟩
    | 7, hq => by
      obtain ⟨cC, iS, hk⟩ := u_known (C := RX7) (T := TX7) (N := 9) (n := 9) htB inB_X7 (hts _ (g_tb1 _ (List.mem_of_getElem? (i := 18) (by decide +kernel))))
      exact ⟨(cC, iS), fun q hq => by cases hq; exact hk⟩
    | 8, hq => by
      obtain ⟨cC, iS, hk⟩ := u_known (C := RX8) (T := TX8) (N := 64) (n := 64) htB inB_X8 (hts _ (g_tb4 _ (List.mem_of_getElem? (i := 132) (by decide +kernel))))
      exact ⟨(cC, iS), fun q hq => by cases hq; exact hk⟩
    | c + 9, hq => ⟨(0, fun _ => 0), fun q hq => by simp [g_cl] at hq⟩
  obtain ⟨z, hz⟩ := Classical.axiomOfChoice h0
  obtain ⟨cI, kI, pI, i1, i2, i3⟩ := Cond.arrayClass_spec (hts (.arrayClass .int) (g_tb1 _ (List.mem_of_getElem? (i := 101) (by decide +kernel))))
  obtain ⟨cZ, kZ, pZ, z1, z2, z3⟩ := Cond.arrayClass_spec (hts (.arrayClass .boolean) (g_tb5 _ (List.mem_of_getElem? (i := 94) (by decide +kernel))))
  have oT := hts (.arrayOver (.object "UnderTheRoof$Text")) (g_tb1 _ (List.mem_of_getElem? (i := 141) (by decide +kernel)))
  have oS := hts (.arrayOver (.object "UnderTheRoof$Sheet")) (g_tb1 _ (List.mem_of_getElem? (i := 143) (by decide +kernel)))
  obtain ⟨pT, cT, kT, t1, -, t2, t3, t4⟩ := Cond.arrayOver_spec oT
  obtain ⟨pS, cS, kS, s1, -, s2, s3, s4⟩ := Cond.arrayOver_spec oS
  refine ⟨fun k => if k < 103 then aK (k - 100) else if k < 106 then aV (k - 103) else if k = 106 then tU else tF, (fun _ => 0, (fun c => (z c).1, fun c => (z c).2), fun k => if k = 0 then cI else if k = 1 then cZ else if k = 2 then cT else cS), ⟨fun c q hq => hz c q hq, fun k q hq => ?_⟩, ⟨fun q hq => va_Nw.of rfl (hts _ (g_nest_in q hq)), ⟨b_vkS hS (fun i hi => ?_) (fun i hi => ?_), vk_R.of (hts _ (g_tb1 _ (List.mem_of_getElem? (i := 178) (by decide +kernel)))) (hR 0 (by decide)), vk_R.of (hts _ (g_tb2 _ (List.mem_of_getElem? (i := 10) (by decide +kernel)))) (hR 1 (by decide)), vk_R.of (hts _ (g_tb2 _ (List.mem_of_getElem? (i := 21) (by decide +kernel)))) (hR 2 (by decide))⟩, ⟨hZ, hT⟩, hC, hF⟩, va_AO.of oT, va_AO.of oS⟩
  · match k, hq with
    | 0, hq => cases hq; exact ⟨fun n z => ⟨(fun k h => by cases h), kI, i2, pI, i3⟩, i1⟩
    | 1, hq => cases hq; exact ⟨fun n z => ⟨(fun k h => by cases h), kZ, z2, pZ, z3⟩, z1⟩
    | 2, hq => cases hq; exact ⟨fun n z => ⟨(fun k h => by cases h), kT, t2, pT, t3⟩, kT, pT, t2, t3, t1, t4⟩
    | 3, hq => cases hq; exact ⟨fun n z => ⟨(fun k h => by cases h), kS, s2, pS, s3⟩, kS, pS, s2, s3, s1, s4⟩
    | k + 4, hq => simp [g_tys] at hq
  · show (if 100 + i < 103 then aK (100 + i - 100) else _) = aK i
    rw [if_pos (by omega), Nat.add_sub_cancel_left]
  · show (if 103 + i < 103 then _ else if 103 + i < 106 then aV (103 + i - 103) else _) = aV i
    rw [if_neg (by omega), if_pos (by omega), Nat.add_sub_cancel_left]
