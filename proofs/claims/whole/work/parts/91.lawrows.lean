/-! THE LAW: its rows -/
def b_KK : List Nat := b_KX ++ b_KM
theorem KK_nd : b_KK.Nodup := by decide +kernel
theorem kX_in : ∀ k, kX k = true → k ∈ b_KK := fun k h => by
  have hk : k < 63 := by
    simp [kX] at h
    exact h
  exact (by decide +kernel : ∀ k, k < 63 → k ∈ b_KK) k hk
theorem kM_inK : ∀ k, kM k = true → k ∈ b_KK := fun k h => List.mem_append_right _ (kM_in k h)
/-- the script lies outside -/
def bS : gX → (Nat → Prop) → Nat → Nat → (Nat → Int32) → Prop
  | (_, _, _, s, _, _, _, _, _, _), A, b, Ln, xs => va_X b Ln xs s s.heap ∧ b < s.heap.size ∧ ¬ A b
section BT
variable {X : gX} {D : va_G} {tys : List (ClassId × FieldType)} {A : Nat → Prop} {nL : Nat} {cc : ByteArray} {own : Nat} {Rm : Room} {Q : State → Prop} {ws : va_W} {L : List (Nat × Value)} {st : List Value} {mc ms pc : Nat} {b Ln : Nat} {xs : Nat → Int32}
theorem B_iadd (C : bCC X D tys A nL cc (g_RX own) Rm) {x y : Int32} (d : decode cc pc = .ok (.iadd, 1)) (kk : bV X D A nL Q ws L (.int (x + y) :: st) mc ms (pc + 1)) : bV X D A nL Q ws L (.int y :: .int x :: st) mc ms pc := by
  obtain ⟨p, e0, R, s, m, args, below, meth, c, l⟩ := X
  obtain ⟨hx, hb, hml, hown, hts, hK, hA, hR⟩ := C
  exact fun H locs ls hP hD hS h => lv_iadd hx hb d (kk H locs ls hP hD hS h)
theorem B_isub (C : bCC X D tys A nL cc (g_RX own) Rm) {x y : Int32} (d : decode cc pc = .ok (.isub, 1)) (kk : bV X D A nL Q ws L (.int (x - y) :: st) mc ms (pc + 1)) : bV X D A nL Q ws L (.int y :: .int x :: st) mc ms pc := by
  obtain ⟨p, e0, R, s, m, args, below, meth, c, l⟩ := X
  obtain ⟨hx, hb, hml, hown, hts, hK, hA, hR⟩ := C
  exact fun H locs ls hP hD hS h => lv_isub hx hb d (kk H locs ls hP hD hS h)
theorem B_iand (C : bCC X D tys A nL cc (g_RX own) Rm) {x y : Int32} (d : decode cc pc = .ok (.iand, 1)) (kk : bV X D A nL Q ws L (.int (x &&& y) :: st) mc ms (pc + 1)) : bV X D A nL Q ws L (.int y :: .int x :: st) mc ms pc := by
  obtain ⟨p, e0, R, s, m, args, below, meth, c, l⟩ := X
  obtain ⟨hx, hb, hml, hown, hts, hK, hA, hR⟩ := C
  exact fun H locs ls hP hD hS h => lv_iand hx hb d (kk H locs ls hP hD hS h)
theorem B_icmpgt (C : bCC X D tys A nL cc (g_RX own) Rm) {x y : Int32} {off : Int} {tgt : Nat} (d : decode cc pc = .ok (.if_icmp .gt off, 3)) (ht : (pc : Int) + off = (tgt : Int)) (kt : y < x → bV X D A nL Q ws L st mc ms tgt) (kf : ¬ y < x → bV X D A nL Q ws L st mc ms (pc + 3)) : bV X D A nL Q ws L (.int y :: .int x :: st) mc ms pc := by
  obtain ⟨p, e0, R, s, m, args, below, meth, c, l⟩ := X
  obtain ⟨hx, hb, hml, hown, hts, hK, hA, hR⟩ := C
  exact fun H locs ls hP hD hS h => lv_icmp_gt hx hb d ht (fun z => kt z H locs ls hP hD hS h) (fun z => kf z H locs ls hP hD hS h)
theorem B_icmpeq (C : bCC X D tys A nL cc (g_RX own) Rm) {x y : Int32} {off : Int} {tgt : Nat} (d : decode cc pc = .ok (.if_icmp .eq off, 3)) (ht : (pc : Int) + off = (tgt : Int)) (kt : x = y → bV X D A nL Q ws L st mc ms tgt) (kf : ¬ x = y → bV X D A nL Q ws L st mc ms (pc + 3)) : bV X D A nL Q ws L (.int y :: .int x :: st) mc ms pc := by
  obtain ⟨p, e0, R, s, m, args, below, meth, c, l⟩ := X
  obtain ⟨hx, hb, hml, hown, hts, hK, hA, hR⟩ := C
  exact fun H locs ls hP hD hS h => lv_icmp_eq hx hb d ht (fun z => kt z H locs ls hP hD hS h) (fun z => kf z H locs ls hP hD hS h)
theorem B_lcmp (C : bCC X D tys A nL cc (g_RX own) Rm) {x y : Int64} (d : decode cc pc = .ok (.lcmp, 1)) (kk : bV X D A nL Q ws L (.int (lg_cmp x y) :: st) mc ms (pc + 1)) : bV X D A nL Q ws L (.long y :: .long x :: st) mc ms pc := by
  obtain ⟨p, e0, R, s, m, args, below, meth, c, l⟩ := X
  obtain ⟨hx, hb, hml, hown, hts, hK, hA, hR⟩ := C
  exact fun H locs ls hP hD hS h => W.lcmp hx hb d (kk H locs ls hP hD hS h)
theorem B_ifeq (C : bCC X D tys A nL cc (g_RX own) Rm) {x : Int32} {off : Int} {tgt : Nat} (d : decode cc pc = .ok (.ifCond .eq off, 3)) (ht : (pc : Int) + off = (tgt : Int)) (kt : x = 0 → bV X D A nL Q ws L st mc ms tgt) (kf : ¬ x = 0 → bV X D A nL Q ws L st mc ms (pc + 3)) : bV X D A nL Q ws L (.int x :: st) mc ms pc := by
  obtain ⟨p, e0, R, s, m, args, below, meth, c, l⟩ := X
  obtain ⟨hx, hb, hml, hown, hts, hK, hA, hR⟩ := C
  exact fun H locs ls hP hD hS h => lv_if_eq hx hb d ht (fun z => kt z H locs ls hP hD hS h) (fun z => kf z H locs ls hP hD hS h)
theorem B_tsw (C : bCC X D tys A nL cc (g_RX own) Rm) {x : Int32} {dflt lo hi : Int} {offs : Array Int} {len : Nat} (off : Int) {tgt : Nat} (d : decode cc pc = .ok (.tableswitch dflt lo hi offs, len)) (h1 : ¬ x.toInt < lo) (h2 : ¬ hi < x.toInt) (ho : offs[(x.toInt - lo).toNat]? = some off) (ht : (pc : Int) + off = (tgt : Int)) (kk : bV X D A nL Q ws L st mc ms tgt) : bV X D A nL Q ws L (.int x :: st) mc ms pc := by
  obtain ⟨p, e0, R, s, m, args, below, meth, c, l⟩ := X
  obtain ⟨hx, hb, hml, hown, hts, hK, hA, hR⟩ := C
  exact fun H locs ls hP hD hS h => lv_tableIn hx hb d h1 h2 ho ht (kk H locs ls hP hD hS h)
theorem B_slen (C : bCC X D tys A nL cc (g_RX own) Rm) (S : bS X A b Ln xs) (d : decode cc pc = .ok (.arraylength, 1)) (kk : bV X D A nL Q ws L (.int (nI Ln) :: st) mc ms (pc + 1)) : bV X D A nL Q ws L (.ref b :: st) mc ms pc := by
  obtain ⟨p, e0, R, s, m, args, below, meth, c, l⟩ := X
  obtain ⟨hx, hb, hml, hown, hts, hK, hA, hR⟩ := C
  obtain ⟨s1, s2, s3⟩ := S
  exact fun H locs ls hP hD hS h => va_slen hx hb s1 s2 s3 hS d (kk H locs ls hP hD hS h)
theorem B_sld (C : bCC X D tys A nL cc (g_RX own) Rm) (S : bS X A b Ln xs) {i : Nat} (hi : i < Ln) (hL : Ln ≤ 3072) (d : decode cc pc = .ok (.iaload, 1)) (kk : bV X D A nL Q ws L (.int (xs i) :: st) mc ms (pc + 1)) : bV X D A nL Q ws L (.int (nI i) :: .ref b :: st) mc ms pc := by
  obtain ⟨p, e0, R, s, m, args, below, meth, c, l⟩ := X
  obtain ⟨hx, hb, hml, hown, hts, hK, hA, hR⟩ := C
  obtain ⟨s1, s2, s3⟩ := S
  refine fun H locs ls hP hD hS h => va_sld hx hb s1 s2 s3 hS (pk_in i Ln hi rfl (by omega)) d ?_
  rw [nI_clamp (by omega)]
  exact kk H locs ls hP hD hS h
/-- an argument: the script's place i + j -/
theorem B_sc (C : bCC X D tys A nL cc (g_RX own) Rm) (S : bS X A b Ln xs) {i j : Nat} {kj : Int} (hi : i + j < Ln) (hL : Ln ≤ 3072) (ej : Int32.ofInt kj = nI j) (l0 : L[3]? = some (0, .ref b)) (l3 : L[0]? = some (3, .int (nI i))) (d0 : decode cc pc = .ok (.aload_n 0, 1)) (d1 : decode cc (pc + 1) = .ok (.iload_n 3, 1)) (d2 : decode cc (pc + 2) = .ok (.iconst kj, 1)) (d3 : decode cc (pc + 3) = .ok (.iadd, 1)) (d4 : decode cc (pc + 4) = .ok (.iaload, 1)) (kk : bV X D A nL Q ws L (.int (xs (i + j)) :: st) mc ms (pc + 5)) : bV X D A nL Q ws L st mc ms pc := by
  refine B_aload C 3 d0 rfl l0 ?_
  refine B_iload C 0 d1 rfl l3 ?_
  refine B_iconst C d2 ej ?_
  refine B_iadd C d3 ?_
  rw [nI_add]
  exact B_sld C S hi hL d4 kk
end BT
/-- the locals of the law's loop -/
abbrev b_L (b i : Nat) (G : gG) : List (Nat × Value) := [(3, .int (nI i)), (2, .ref (G.1 63)), (1, .ref (G.1 0)), (0, .ref b)]
/-- the law at its loop: what stays -/
def b_lc (X : gX) (G : gG) (A : Nat → Prop) (ad0 : Nat → Nat) (b Ln : Nat) (xs : Nat → Int32) (mc ms : Nat) : Prop := bCC X G.2.1 (g_tys G) A 4 cL_law (g_RX 9) room_1 ∧ bEX X ad0 A ∧ (∀ k, 100 ≤ k → G.1 k = ad0 k) ∧ bS X A b Ln xs ∧ Ln ≤ 3072 ∧ mc ≤ 600000 ∧ ms ≤ 7302250
theorem lg_cmp_rfl (x : Int64) : lg_cmp x x = 0 := by
  rcases lg_cmp_cases x x with ⟨h, _⟩ | ⟨_, h⟩ | ⟨h, _⟩
  · exact absurd h Int64.lt_irrefl
  · exact h
  · exact absurd h Int64.lt_irrefl
