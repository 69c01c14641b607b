/-! STRINGS, STATICS -/
theorem fs_X7_290 : Cond.fieldLink (g_RX 7) 290 "UnderTheRoof" "UNDER" "[I" ∈ g_B := g_B_in (g_tb3 _ (List.mem_of_getElem? (i := 59) (by decide +kernel))) rfl
theorem fs_X10_38 : Cond.fieldLink (g_RX 10) 38 "java/lang/String" "COMPACT_STRINGS" "Z" ∈ g_B := g_B_in (g_tb1 _ (List.mem_of_getElem? (i := 187) (by decide +kernel))) rfl
theorem fs_X10_1053 : Cond.fieldLink (g_RX 10) 1053 "jdk/internal/util/Preconditions" "SIOOBE_FORMATTER" "Ljava/util/function/BiFunction;" ∈ g_B := g_B_in (g_tb1 _ (List.mem_of_getElem? (i := 203) (by decide +kernel))) rfl
theorem fs_X10_9 : Cond.fieldLink (g_RX 10) 9 "java/lang/String" "value" "[B" ∈ g_B := g_B_in (g_tb6 _ (List.mem_of_getElem? (i := 166) (by decide +kernel))) rfl
theorem fs_X10_15 : Cond.fieldLink (g_RX 10) 15 "java/lang/String" "coder" "B" ∈ g_B := g_B_in (g_tb6 _ (List.mem_of_getElem? (i := 167) (by decide +kernel))) rfl
section GV3
variable {X : gX} {G : gG} {K : List Nat} {KR : Nat → Bool} {nL : Nat} {cc : ByteArray} {own h : Nat} {ret : Option FieldType} {Qp : Option Value → gS → Prop} {σ : gS} {L : gL} {st : List Value} {pc : Nat}
theorem V_ldcS0 (C : gC X G K KR nL cc (g_RX 7) ret h) (d : decode cc pc = .ok (.ldc 40, 2)) (kk : gV X G K nL Qp σ L (.ref 100 :: st) (pc + 2)) : gV X G K nL Qp σ L st pc := by
  obtain ⟨p, e0, R, s, m, args, below, meth, c, l⟩ := X
  obtain ⟨hx, hb, hml, hr, hown, hts, hK, hlocks, hR, hD, hKR, hE⟩ := C
  exact fun H locs ls hP hS hl => va_ldcS hx hb hown hE.2.1.2.1 d (kk H locs ls hP hS hl)
theorem V_ldcS1 (C : gC X G K KR nL cc (g_RX 2) ret h) (d : decode cc pc = .ok (.ldc 108, 2)) (kk : gV X G K nL Qp σ L (.ref 101 :: st) (pc + 2)) : gV X G K nL Qp σ L st pc := by
  obtain ⟨p, e0, R, s, m, args, below, meth, c, l⟩ := X
  obtain ⟨hx, hb, hml, hr, hown, hts, hK, hlocks, hR, hD, hKR, hE⟩ := C
  exact fun H locs ls hP hS hl => va_ldcS hx hb hown hE.2.1.2.2.1 d (kk H locs ls hP hS hl)
theorem V_ldcS2 (C : gC X G K KR nL cc (g_RX 2) ret h) (d : decode cc pc = .ok (.ldc 101, 2)) (kk : gV X G K nL Qp σ L (.ref 102 :: st) (pc + 2)) : gV X G K nL Qp σ L st pc := by
  obtain ⟨p, e0, R, s, m, args, below, meth, c, l⟩ := X
  obtain ⟨hx, hb, hml, hr, hown, hts, hK, hlocks, hR, hD, hKR, hE⟩ := C
  exact fun H locs ls hP hS hl => va_ldcS hx hb hown hE.2.1.2.2.2 d (kk H locs ls hP hS hl)
theorem V_gsU (C : gC X G K KR nL cc (g_RX 7) ret h) (d : decode cc pc = .ok (.getstatic 290, 3)) (kk : gV X G K nL Qp σ L (.ref 106 :: st) (pc + 3)) : gV X G K nL Qp σ L st pc := by
  obtain ⟨p, e0, R, s, m, args, below, meth, c, l⟩ := X
  obtain ⟨hx, hb, hml, hr, hown, hts, hK, hlocks, hR, hD, hKR, hE⟩ := C
  exact fun H locs ls hP hS hl => va_gets hx hb hE.2.2.1.1 hS hown (hts _ fs_X7_290) (fun _ h9 => h9) d (kk H locs ls hP hS hl)
theorem V_gsC (C : gC X G K KR nL cc (g_RX 10) ret h) (d : decode cc pc = .ok (.getstatic 38, 3)) (kk : gV X G K nL Qp σ L (.int 1 :: st) (pc + 3)) : gV X G K nL Qp σ L st pc := by
  obtain ⟨p, e0, R, s, m, args, below, meth, c, l⟩ := X
  obtain ⟨hx, hb, hml, hr, hown, hts, hK, hlocks, hR, hD, hKR, hE⟩ := C
  exact fun H locs ls hP hS hl => va_gets hx hb hE.2.2.2.1 hS hown (hts _ fs_X10_38) (fun _ h9 => h9) d (kk H locs ls hP hS hl)
theorem V_gsF (C : gC X G K KR nL cc (g_RX 10) ret h) (d : decode cc pc = .ok (.getstatic 1053, 3)) (k1 : gV X G K nL Qp σ L (.null :: st) (pc + 3)) (k2 : gV X G K nL Qp σ L (.ref 107 :: st) (pc + 3)) : gV X G K nL Qp σ L st pc := by
  obtain ⟨p, e0, R, s, m, args, below, meth, c, l⟩ := X
  obtain ⟨hx, hb, hml, hr, hown, hts, hK, hlocks, hR, hD, hKR, hE⟩ := C
  rcases hE.2.2.2.2 with hZ | hZ
  · exact fun H locs ls hP hS hl => va_gets hx hb hZ hS hown (hts _ fs_X10_1053) (fun _ h9 => h9) d (k1 H locs ls hP hS hl)
  · exact fun H locs ls hP hS hl => va_gets hx hb hZ hS hown (hts _ fs_X10_1053) (fun _ h9 => h9) d (k2 H locs ls hP hS hl)
theorem V_alenU (C : gC X G K KR nL cc (g_RX own) ret h) (d : decode cc pc = .ok (.arraylength, 1)) (kk : gV X G K nL Qp σ L (.int 6 :: st) (pc + 1)) : gV X G K nL Qp σ L (.ref 106 :: st) pc := by
  obtain ⟨p, e0, R, s, m, args, below, meth, c, l⟩ := X
  obtain ⟨hx, hb, hml, hr, hown, hts, hK, hlocks, hR, hD, hKR, hE⟩ := C
  exact fun H locs ls hP hS hl => va_tlen hx hb hE.2.2.1.2 hS rfl d (kk H locs ls hP hS hl)
theorem V_aldU (C : gC X G K KR nL cc (g_RX own) ret h) {i v : Int32} (hin : vp_in i 6) (hv : g_under.getD i.toNatClampNeg 0 = v) (d : decode cc pc = .ok (.iaload, 1)) (kk : gV X G K nL Qp σ L (.int v :: st) (pc + 1)) : gV X G K nL Qp σ L (.int i :: .ref 106 :: st) pc := by
  subst hv
  obtain ⟨p, e0, R, s, m, args, below, meth, c, l⟩ := X
  obtain ⟨hx, hb, hml, hr, hown, hts, hK, hlocks, hR, hD, hKR, hE⟩ := C
  exact fun H locs ls hP hS hl => va_ti hx hb hE.2.2.1.2 hS hin rfl d (kk H locs ls hP hS hl)
theorem V_sval (C : gC X G K KR nL cc (g_RX 10) ret h) {i : Nat} (hi : i < 3) (d : decode cc pc = .ok (.getfield 9, 3)) (kk : gV X G K nL Qp σ L (.ref (103 + i) :: st) (pc + 3)) : gV X G K nL Qp σ L (.ref (100 + i) :: st) pc := by
  obtain ⟨p, e0, R, s, m, args, below, meth, c, l⟩ := X
  obtain ⟨hx, hb, hml, hr, hown, hts, hK, hlocks, hR, hD, hKR, hE⟩ := C
  exact fun H locs ls hP hS hl => vk_getf hx hb (hE.2.1.1.1 i hi).2.2.1 hS hown (hts _ fs_X10_9) (fun _ h9 => h9) d (kk H locs ls hP hS hl)
theorem V_scod (C : gC X G K KR nL cc (g_RX 10) ret h) {i : Nat} (hi : i < 3) (d : decode cc pc = .ok (.getfield 15, 3)) (kk : gV X G K nL Qp σ L (.int 0 :: st) (pc + 3)) : gV X G K nL Qp σ L (.ref (100 + i) :: st) pc := by
  obtain ⟨p, e0, R, s, m, args, below, meth, c, l⟩ := X
  obtain ⟨hx, hb, hml, hr, hown, hts, hK, hlocks, hR, hD, hKR, hE⟩ := C
  exact fun H locs ls hP hS hl => vk_getf hx hb (hE.2.1.1.1 i hi).2.1 hS hown (hts _ fs_X10_15) (fun _ h9 => h9) d (kk H locs ls hP hS hl)
theorem V_blen (C : gC X G K KR nL cc (g_RX own) ret h) {i : Nat} (hi : i < 3) (d : decode cc pc = .ok (.arraylength, 1)) (kk : gV X G K nL Qp σ L (.int (nI (g_slen.getD i 0)) :: st) (pc + 1)) : gV X G K nL Qp σ L (.ref (103 + i) :: st) pc := by
  obtain ⟨p, e0, R, s, m, args, below, meth, c, l⟩ := X
  obtain ⟨hx, hb, hml, hr, hown, hts, hK, hlocks, hR, hD, hKR, hE⟩ := C
  exact fun H locs ls hP hS hl => va_tlen hx hb (hE.2.1.1.1 i hi).2.2.2 hS rfl d (kk H locs ls hP hS hl)
theorem V_bldS (C : gC X G K KR nL cc (g_RX own) ret h) {i j : Nat} (hi : i < 3) (hj : j < g_slen.getD i 0 ∧ j < 2147483648) (d : decode cc pc = .ok (.baload, 1)) (kk : gV X G K nL Qp σ L (.int ((g_sbyt.getD i []).getD j 0) :: st) (pc + 1)) : gV X G K nL Qp σ L (.int (nI j) :: .ref (103 + i) :: st) pc := by
  obtain ⟨p, e0, R, s, m, args, below, meth, c, l⟩ := X
  obtain ⟨hx, hb, hml, hr, hown, hts, hK, hlocks, hR, hD, hKR, hE⟩ := C
  exact fun H locs ls hP hS hl => va_tb hx hb (hE.2.1.1.1 i hi).2.2.2 hS (fun z => z.elim (fun z => nI_pos hj.2 z) (fun z => by rw [nI_clamp hj.2] at z; omega)) (v := .int ((g_sbyt.getD i []).getD j 0)) (by show Value.int ((g_sbyt.getD i []).getD (nI j).toNatClampNeg 0) = _; rw [nI_clamp hj.2]) d (kk H locs ls hP hS hl)
theorem V_callVs (C : gC X G K KR nL cc (g_RX own) ret h) {ix i n' na h' : Nat} {y : MethodName} {b : ByteArray} {ret' : Option FieldType} {KR' : Nat → Bool} {As rest : List Value} {r : Int32} {S2 : gS} (F : g_CV (g_RX own) ix y b n' ret' na) (M : g_Met y b n' ret' h' KR' (.ref (100 + i) :: As) σ (fun rv s => rv = some (.int r) ∧ s = S2)) (hi : i < 3) (hy : y.cls = "java/lang/String") (hh : h' + 1 ≤ h) (hn : n' ≤ 40) (hKK : ∀ k, KR' k = true → KR k = true) (hna : As.length = na) (hst : st = As.reverse ++ .ref (100 + i) :: rest) (hcat : (rest.map fun v => v.category).sum ≤ 8) (d : decode cc pc = .ok (.invokevirtual ix, 3))
    (kk : gV X G K nL Qp S2 L (.int r :: rest) (pc + 3)) : gV X G K nL Qp σ L st pc := by
  have kk2 : ∀ (rv : Option Value) (σ' : gS), (rv = some (.int r) ∧ σ' = S2) → gV X G K nL Qp σ' L (rv.toList ++ rest) (pc + 3) := fun rv s hq => by obtain ⟨rfl, rfl⟩ := hq; exact kk
  obtain ⟨p, e0, R, s, m, args, below, meth, c, l⟩ := X
  obtain ⟨hx, hb, hml, hr, hown, hts, hK, hlocks, rfl, hD, hKR, hE⟩ := C
  obtain ⟨⟨f1, f2, f3, f4⟩, f5, f6⟩ := F
  intro H locs ls hP hS hl
  subst hst
  have hM := M l G K H.size hD (fun k hk => hKR k (hKK k hk))
  have cw : CallW (g_rm h) s args (g_RX own) y.cls ix y b n' ret' (.code y b n' ret' :: g_B) (g_rm h') 0 0 na :=
    ⟨callB_of na hts (g_good f2) rfl rfl rfl (hts _ f3) (hts _ f1) f4 (g_roomOk hh hn), hts _ f5, hts _ f6⟩
  have hrecv : ∃ cell : Cell, H[G.1 (100 + i)]? = some cell ∧ cell.vm.isStatics = false ∧ s.vm.findClass y.cls = some cell.cls := by rw [hy]; exact vk_recv (i := i) (adK := fun i => G.1 (100 + i)) hE.2.1.1 hi hS
  refine g_back hK hS hl (va_runV (As := As.map (g_tr G.1)) (rest := rest.map (g_tr G.1)) ⟨hx, hb, hml, hown, hts⟩ hM cw ⟨g_blind, hrecv, fun U hU hW => ⟨rfl, g_pre hK hE hP hS hU hW⟩⟩ rfl (by simpa using hna) hl.sz (by simp [g_tr]) (lv_room (by rw [g_catsum]; exact hcat)) d ⟨Nat.zero_le _, Nat.zero_le _⟩) kk2
theorem V_cret (C : gC X G K KR nL cc (g_RX own) (some .char) h) {v : Int32} (hv : narrow .char (.int v) = .int v) (d : decode cc pc = .ok (.ireturn, 1)) (hq : Qp (some (.int v)) σ) : gV X G K nL Qp σ L [.int v] pc := by
  obtain ⟨p, e0, R, s, m, args, below, meth, c, l⟩ := X
  obtain ⟨hx, hb, hml, hr, hown, hts, hK, hlocks, hR, hD, hKR, hE⟩ := C
  exact fun H locs ls hP hS hl => W.zret (v := v) hx hb hr hv (fun t ht hW => ⟨⟨some (.int v), σ, rfl, hq, by rw [ht]; exact hP⟩, hS.F ht⟩) hS.2.2 d hlocks
theorem V_bret (C : gC X G K KR nL cc (g_RX own) (some .byte) h) {v : Int32} (hv : narrow .byte (.int v) = .int v) (d : decode cc pc = .ok (.ireturn, 1)) (hq : Qp (some (.int v)) σ) : gV X G K nL Qp σ L [.int v] pc := by
  obtain ⟨p, e0, R, s, m, args, below, meth, c, l⟩ := X
  obtain ⟨hx, hb, hml, hr, hown, hts, hK, hlocks, hR, hD, hKR, hE⟩ := C
  exact fun H locs ls hP hS hl => W.zret (v := v) hx hb hr hv (fun t ht hW => ⟨⟨some (.int v), σ, rfl, hq, by rw [ht]; exact hP⟩, hS.F ht⟩) hS.2.2 d hlocks
end GV3
