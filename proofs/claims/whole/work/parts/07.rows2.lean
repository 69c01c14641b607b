/-! FURTHER ROWS -/
def kX : Nat → Bool := fun k => Nat.blt k 63
def kR : Nat → Bool := fun k => (Nat.ble 19 k && Nat.ble k 20) || (Nat.ble 45 k && Nat.blt k 63)
def kM : Nat → Bool := fun k => Nat.ble 63 k && Nat.blt k 90
theorem kR_kX : ∀ k, kR k = true → kX k = true := by
  intro k h
  simp only [kR, kX, Bool.or_eq_true, Bool.and_eq_true, Nat.ble_eq, Nat.blt_eq] at h ⊢
  omega
theorem kX_lt {k : Nat} (h : k < 63) : kX k = true := by simpa [kX] using h
theorem kR_tx {t : Nat} (h : t < 6) {j : Nat} (hj : j < 3) : kR (45 + j + 3 * t) = true := by
  simp only [kR, Bool.or_eq_true, Bool.and_eq_true, Nat.ble_eq, Nat.blt_eq]
  omega
theorem g_in6 {P : Nat → Prop} (h : ∀ t : Fin 6, P t.val) {t : Nat} (ht : t < 6) : P t := h ⟨t, ht⟩
theorem g_in4 {P : Nat → Prop} (h : ∀ t : Fin 4, P t.val) {t : Nat} (ht : t < 4) : P t := h ⟨t, ht⟩
theorem sh_text {t : Nat} (ht : t < 6) : g_sh (45 + 3 * t) = .inl (6, [46 + 3 * t + 3, 47 + 3 * t + 3]) := g_in6 (P := fun t => g_sh (45 + 3 * t) = .inl (6, [46 + 3 * t + 3, 47 + 3 * t + 3])) (by decide +kernel) ht
theorem sh_code {t : Nat} (ht : t < 6) : g_sh (46 + 3 * t) = .inr (0, 160) := g_in6 (P := fun t => g_sh (46 + 3 * t) = .inr (0, 160)) (by decide +kernel) ht
theorem sh_ends {t : Nat} (ht : t < 6) : g_sh (47 + 3 * t) = .inr (0, 3) := g_in6 (P := fun t => g_sh (47 + 3 * t) = .inr (0, 3)) (by decide +kernel) ht
theorem sh_sheet {t : Nat} (ht : t < 4) : g_sh (37 + 2 * t) = .inl (4, [0, 0, 38 + 2 * t + 3]) := g_in4 (P := fun t => g_sh (37 + 2 * t) = .inl (4, [0, 0, 38 + 2 * t + 3])) (by decide +kernel) ht
theorem sh_items {t : Nat} (ht : t < 4) : g_sh (38 + 2 * t) = .inr (0, 40) := g_in4 (P := fun t => g_sh (38 + 2 * t) = .inr (0, 40)) (by decide +kernel) ht
def g_cp (σ : gS) (ks kd sp dp n : Nat) : gS := fun a => if a = kd then va_cpy (σ ks) (σ kd) sp dp n else σ a
theorem g_cp_ne {σ : gS} {ks kd sp dp n a : Nat} (h : a ≠ kd) : g_cp σ ks kd sp dp n a = σ a := by simp [g_cp, h]
theorem g_cp_same (σ : gS) (ks kd sp dp n : Nat) : g_cp σ ks kd sp dp n kd = va_cpy (σ ks) (σ kd) sp dp n := by simp [g_cp]
def g_CA (own : String) (ix : Nat) : Prop := Cond.methodLink own ix arraycopyName ∈ g_B ∧ Cond.native arraycopyName ∈ g_B ∧ Cond.static arraycopyName ∈ g_B ∧ Cond.initialized "java/lang/System" ∈ g_B
def g_CM (own : String) (ix : Nat) : Prop := Cond.methodLink own ix Lib.Math.max.name ∈ g_B ∧ Cond.static Lib.Math.max.name ∈ g_B ∧ Cond.initialized "java/lang/Math" ∈ g_B ∧ Cond.code Lib.Math.max.name Lib.Math.max.code 2 (some .int) ∈ g_B
def g_Cm (own : String) (ix : Nat) : Prop := Cond.methodLink own ix Lib.Math.min.name ∈ g_B ∧ Cond.static Lib.Math.min.name ∈ g_B ∧ Cond.initialized "java/lang/Math" ∈ g_B ∧ Cond.code Lib.Math.min.name Lib.Math.min.code 2 (some .int) ∈ g_B
theorem cM_X11_92 : g_CM (g_RX 11) 92 := ⟨g_B_in (g_tb2 _ (List.mem_of_getElem? (i := 37) (by decide +kernel))) rfl, g_B_in (g_tb2 _ (List.mem_of_getElem? (i := 38) (by decide +kernel))) rfl, g_B_in (g_tb1 _ (List.mem_of_getElem? (i := 10) (by decide +kernel))) rfl, g_B_in (g_tb2 _ (List.mem_of_getElem? (i := 39) (by decide +kernel))) rfl⟩
theorem cm_X11_38 : g_Cm (g_RX 11) 38 := ⟨g_B_in (g_tb2 _ (List.mem_of_getElem? (i := 40) (by decide +kernel))) rfl, g_B_in (g_tb2 _ (List.mem_of_getElem? (i := 41) (by decide +kernel))) rfl, g_B_in (g_tb1 _ (List.mem_of_getElem? (i := 10) (by decide +kernel))) rfl, g_B_in (g_tb2 _ (List.mem_of_getElem? (i := 42) (by decide +kernel))) rfl⟩
theorem ca_X5_32 : g_CA (g_RX 5) 32 := ⟨g_B_in (g_tb3 _ (List.mem_of_getElem? (i := 97) (by decide +kernel))) rfl, g_B_in (g_tb3 _ (List.mem_of_getElem? (i := 99) (by decide +kernel))) rfl, g_B_in (g_tb3 _ (List.mem_of_getElem? (i := 98) (by decide +kernel))) rfl, g_B_in (g_tb1 _ (List.mem_of_getElem? (i := 16) (by decide +kernel))) rfl⟩
theorem ca_X0_66 : g_CA (g_RX 0) 66 := ⟨g_B_in (g_tb3 _ (List.mem_of_getElem? (i := 100) (by decide +kernel))) rfl, g_B_in (g_tb3 _ (List.mem_of_getElem? (i := 99) (by decide +kernel))) rfl, g_B_in (g_tb3 _ (List.mem_of_getElem? (i := 98) (by decide +kernel))) rfl, g_B_in (g_tb1 _ (List.mem_of_getElem? (i := 16) (by decide +kernel))) rfl⟩
theorem cm_X3_34 : g_Cm (g_RX 3) 34 := ⟨g_B_in (g_tb3 _ (List.mem_of_getElem? (i := 120) (by decide +kernel))) rfl, g_B_in (g_tb2 _ (List.mem_of_getElem? (i := 41) (by decide +kernel))) rfl, g_B_in (g_tb1 _ (List.mem_of_getElem? (i := 10) (by decide +kernel))) rfl, g_B_in (g_tb2 _ (List.mem_of_getElem? (i := 42) (by decide +kernel))) rfl⟩
theorem cM_X3_40 : g_CM (g_RX 3) 40 := ⟨g_B_in (g_tb3 _ (List.mem_of_getElem? (i := 121) (by decide +kernel))) rfl, g_B_in (g_tb2 _ (List.mem_of_getElem? (i := 38) (by decide +kernel))) rfl, g_B_in (g_tb1 _ (List.mem_of_getElem? (i := 10) (by decide +kernel))) rfl, g_B_in (g_tb2 _ (List.mem_of_getElem? (i := 39) (by decide +kernel))) rfl⟩
theorem cm_X5_93 : g_Cm (g_RX 5) 93 := ⟨g_B_in (g_tb3 _ (List.mem_of_getElem? (i := 128) (by decide +kernel))) rfl, g_B_in (g_tb2 _ (List.mem_of_getElem? (i := 41) (by decide +kernel))) rfl, g_B_in (g_tb1 _ (List.mem_of_getElem? (i := 10) (by decide +kernel))) rfl, g_B_in (g_tb2 _ (List.mem_of_getElem? (i := 42) (by decide +kernel))) rfl⟩
theorem cm_X0_156 : g_Cm (g_RX 0) 156 := ⟨g_B_in (g_tb3 _ (List.mem_of_getElem? (i := 189) (by decide +kernel))) rfl, g_B_in (g_tb2 _ (List.mem_of_getElem? (i := 41) (by decide +kernel))) rfl, g_B_in (g_tb1 _ (List.mem_of_getElem? (i := 10) (by decide +kernel))) rfl, g_B_in (g_tb2 _ (List.mem_of_getElem? (i := 42) (by decide +kernel))) rfl⟩
theorem ca_X1_40 : g_CA (g_RX 1) 40 := ⟨g_B_in (g_tb4 _ (List.mem_of_getElem? (i := 77) (by decide +kernel))) rfl, g_B_in (g_tb3 _ (List.mem_of_getElem? (i := 99) (by decide +kernel))) rfl, g_B_in (g_tb3 _ (List.mem_of_getElem? (i := 98) (by decide +kernel))) rfl, g_B_in (g_tb1 _ (List.mem_of_getElem? (i := 16) (by decide +kernel))) rfl⟩
theorem ca_X7_277 : g_CA (g_RX 7) 277 := ⟨g_B_in (g_tb4 _ (List.mem_of_getElem? (i := 115) (by decide +kernel))) rfl, g_B_in (g_tb3 _ (List.mem_of_getElem? (i := 99) (by decide +kernel))) rfl, g_B_in (g_tb3 _ (List.mem_of_getElem? (i := 98) (by decide +kernel))) rfl, g_B_in (g_tb1 _ (List.mem_of_getElem? (i := 16) (by decide +kernel))) rfl⟩
section GV2
variable {X : gX} {G : gG} {K : List Nat} {KR : Nat → Bool} {nL : Nat} {cc : ByteArray} {own h : Nat} {ret : Option FieldType} {Qp : Option Value → gS → Prop} {σ : gS} {L : gL} {st : List Value} {pc : Nat}
theorem V_ialdJ (C : gC X G K KR nL cc (g_RX own) ret h) {k n j : Nat} {i : Int32} (hs : g_sh k = .inr (0, n)) (hk : KR k = true) (hi : i = nI j) (hj : j < n ∧ j < 2147483648) (d : decode cc pc = .ok (.iaload, 1))
    (kk : gV X G K nL Qp σ L (.int (σ k j) :: st) (pc + 1)) : gV X G K nL Qp σ L (.int i :: .ref k :: st) pc := by
  subst hi
  refine V_iald C hs hk (fun z => z.elim (fun z => nI_pos hj.2 z) (fun z => by rw [nI_clamp hj.2] at z; omega)) d ?_
  rw [nI_clamp hj.2]
  exact kk
theorem V_zaldJ (C : gC X G K KR nL cc (g_RX own) ret h) {k n j : Nat} {i : Int32} (hs : g_sh k = .inr (1, n)) (hk : KR k = true) (hi : i = nI j) (hj : j < n ∧ j < 2147483648) (d : decode cc pc = .ok (.baload, 1))
    (kk : gV X G K nL Qp σ L (.int (σ k j) :: st) (pc + 1)) : gV X G K nL Qp σ L (.int i :: .ref k :: st) pc := by
  subst hi
  refine V_zald C hs hk (fun z => z.elim (fun z => nI_pos hj.2 z) (fun z => by rw [nI_clamp hj.2] at z; omega)) d ?_
  rw [nI_clamp hj.2]
  exact kk
theorem V_iastJ (C : gC X G K KR nL cc (g_RX own) ret h) {k n j : Nat} {i x : Int32} (hs : g_sh k = .inr (0, n)) (hk : KR k = true) (hi : i = nI j) (hj : j < n ∧ j < 2147483648) (d : decode cc pc = .ok (.iastore, 1))
    (kk : gV X G K nL Qp (g_up σ k j x) L st (pc + 1)) : gV X G K nL Qp σ L (.int x :: .int i :: .ref k :: st) pc := by
  subst hi
  refine V_iast C hs hk (fun z => z.elim (fun z => nI_pos hj.2 z) (fun z => by rw [nI_clamp hj.2] at z; omega)) d ?_
  rw [nI_clamp hj.2]
  exact kk
theorem V_zastJ (C : gC X G K KR nL cc (g_RX own) ret h) {k n j : Nat} {i x : Int32} (hx01 : x = 0 ∨ x = 1) (hs : g_sh k = .inr (1, n)) (hk : KR k = true) (hi : i = nI j) (hj : j < n ∧ j < 2147483648) (d : decode cc pc = .ok (.bastore, 1))
    (kk : gV X G K nL Qp (g_up σ k j x) L st (pc + 1)) : gV X G K nL Qp σ L (.int x :: .int i :: .ref k :: st) pc := by
  subst hi
  refine V_zast C hx01 hs hk (fun z => z.elim (fun z => nI_pos hj.2 z) (fun z => by rw [nI_clamp hj.2] at z; omega)) d ?_
  rw [nI_clamp hj.2]
  exact kk
theorem V_get6 (C : gC X G K KR nL cc (g_RX own) ret h) {ix t j cd : Nat} (ht : t < 6) (hj : j < 2) (F : g_FL (g_RX own) (ix, 6, j, cd)) (hk : KR (45 + 3 * t) = true) (d : decode cc pc = .ok (.getfield ix, 3))
    (kk : gV X G K nL Qp σ L (.ref (46 + j + 3 * t) :: st) (pc + 3)) : gV X G K nL Qp σ L (.ref (45 + 3 * t) :: st) pc := by
  refine V_getAny (t := 46 + j + 3 * t + 3) C F (sh_text ht) ?_ hk d kk
  match j, hj with
  | 0, _ => show some (46 + 3 * t + 3) = some (46 + 0 + 3 * t + 3); rfl
  | 1, _ => show some (47 + 3 * t + 3) = some (46 + 1 + 3 * t + 3); rfl
theorem V_get4i (C : gC X G K KR nL cc (g_RX own) ret h) {ix t j cd : Nat} (ht : t < 4) (hj : j < 2) (F : g_FL (g_RX own) (ix, 4, j, cd)) (hk : KR (37 + 2 * t) = true) (d : decode cc pc = .ok (.getfield ix, 3))
    (kk : gV X G K nL Qp σ L (.int (σ (37 + 2 * t) j) :: st) (pc + 3)) : gV X G K nL Qp σ L (.ref (37 + 2 * t) :: st) pc := by
  refine V_getAny (t := 0) C F (sh_sheet ht) ?_ hk d kk
  match j, hj with
  | 0, _ => rfl
  | 1, _ => rfl
theorem V_get4r (C : gC X G K KR nL cc (g_RX own) ret h) {ix t cd : Nat} (ht : t < 4) (F : g_FL (g_RX own) (ix, 4, 2, cd)) (hk : KR (37 + 2 * t) = true) (d : decode cc pc = .ok (.getfield ix, 3))
    (kk : gV X G K nL Qp σ L (.ref (38 + 2 * t) :: st) (pc + 3)) : gV X G K nL Qp σ L (.ref (37 + 2 * t) :: st) pc :=
  V_getAny (t := 38 + 2 * t + 3) C F (sh_sheet ht) rfl hk d kk
theorem V_put4 (C : gC X G K KR nL cc (g_RX own) ret h) {ix t j : Nat} {x : Int32} (ht : t < 4) (hj : j < 2) (F : g_FL (g_RX own) (ix, 4, j, 0)) (hk : KR (37 + 2 * t) = true) (d : decode cc pc = .ok (.putfield ix, 3))
    (kk : gV X G K nL Qp (g_up σ (37 + 2 * t) j x) L st (pc + 3)) : gV X G K nL Qp σ L (.int x :: .ref (37 + 2 * t) :: st) pc := by
  refine V_putAny (t := 0) (σ' := g_up σ (37 + 2 * t) j x) C F (sh_sheet ht) ?_ hk (by show (0 : Nat) ≠ 4; decide) (by simp [g_lv, g_up]) rfl rfl (fun a ha => g_up_ne ha) (fun b hb => by simp [g_up, hb]) d kk
  match j, hj with
  | 0, _ => rfl
  | 1, _ => rfl
theorem V_if_eq_b (C : gC X G K KR nL cc (g_RX own) ret h) {P : Prop} [Decidable P] {off : Int} {tgt : Nat} (d : decode cc pc = .ok (.ifCond .eq off, 3)) (ht : (pc : Int) + off = (tgt : Int)) (kt : ¬ P → gV X G K nL Qp σ L st tgt) (kf : P → gV X G K nL Qp σ L st (pc + 3)) : gV X G K nL Qp σ L (.int (if P then 1 else 0) :: st) pc := by
  by_cases hP : P
  · rw [if_pos hP]
    exact V_if_eq C d ht (fun z => absurd z (by decide)) (fun _ => kf hP)
  · rw [if_neg hP]
    exact V_if_eq C d ht (fun _ => kt hP) (fun z => absurd rfl z)
theorem V_if_ne_b (C : gC X G K KR nL cc (g_RX own) ret h) {P : Prop} [Decidable P] {off : Int} {tgt : Nat} (d : decode cc pc = .ok (.ifCond .ne off, 3)) (ht : (pc : Int) + off = (tgt : Int)) (kt : P → gV X G K nL Qp σ L st tgt) (kf : ¬ P → gV X G K nL Qp σ L st (pc + 3)) : gV X G K nL Qp σ L (.int (if P then 1 else 0) :: st) pc := by
  by_cases hP : P
  · rw [if_pos hP]
    exact V_if_ne C d ht (fun _ => kt hP) (fun z => absurd z (by decide))
  · rw [if_neg hP]
    exact V_if_ne C d ht (fun z => absurd rfl z) (fun _ => kf hP)
theorem V_lcmp (C : gC X G K KR nL cc (g_RX own) ret h) {x y : Int64} (d : decode cc pc = .ok (.lcmp, 1)) (kk : gV X G K nL Qp σ L (.int (lg_cmp x y) :: st) (pc + 1)) : gV X G K nL Qp σ L (.long y :: .long x :: st) pc := by
  obtain ⟨p, e0, R, s, m, args, below, meth, c, l⟩ := X
  obtain ⟨hx, hb, -⟩ := C
  exact fun H locs ls hP hS hl => W.lcmp hx hb d (kk H locs ls hP hS hl)
theorem lg_cmp_cases (x y : Int64) : (y < x ∧ lg_cmp x y = 1) ∨ (x = y ∧ lg_cmp x y = 0) ∨ (x < y ∧ lg_cmp x y = -1) := by
  by_cases h1 : y < x
  · exact Or.inl ⟨h1, by simp [lg_cmp, h1]⟩
  · by_cases h2 : x = y
    · exact Or.inr (Or.inl ⟨h2, by subst h2; simp [lg_cmp]⟩)
    · refine Or.inr (Or.inr ⟨?_, by simp [lg_cmp, h1, h2]⟩)
      have e1 : ¬ y.toInt < x.toInt := fun z => h1 (Int64.lt_iff_toInt_lt.mpr z)
      have e2 : x.toInt ≠ y.toInt := fun z => h2 (Int64.toInt_inj.mp z)
      exact Int64.lt_iff_toInt_lt.mpr (by omega)
theorem g_l64 {x y : Int64} : (x < y → ¬ y < x ∧ x ≠ y) := by
  intro h
  rw [Int64.lt_iff_toInt_lt] at h ⊢
  exact ⟨by omega, fun z => by subst z; omega⟩
theorem V_lcmp_lt (C : gC X G K KR nL cc (g_RX own) ret h) {x y : Int64} {off : Int} {tgt : Nat} (d : decode cc pc = .ok (.lcmp, 1)) (d2 : decode cc (pc + 1) = .ok (.ifCond .lt off, 3)) (ht : ((pc + 1 : Nat) : Int) + off = (tgt : Int)) (kt : x < y → gV X G K nL Qp σ L st tgt) (kf : ¬ x < y → gV X G K nL Qp σ L st (pc + 4)) : gV X G K nL Qp σ L (.long y :: .long x :: st) pc := by
  refine V_lcmp C d (V_if_lt C d2 ht (fun z => kt ?_) (fun z => kf ?_))
  · rcases lg_cmp_cases x y with ⟨a, b⟩ | ⟨a, b⟩ | ⟨a, b⟩
    · rw [b] at z; exact absurd z (by decide)
    · rw [b] at z; exact absurd z (by decide)
    · exact a
  · rcases lg_cmp_cases x y with ⟨a, b⟩ | ⟨a, b⟩ | ⟨a, b⟩
    · exact (g_l64 a).1
    · subst a; exact fun w => (g_l64 w).1 w
    · rw [b] at z; exact absurd (by decide) z
theorem V_lcmp_gt (C : gC X G K KR nL cc (g_RX own) ret h) {x y : Int64} {off : Int} {tgt : Nat} (d : decode cc pc = .ok (.lcmp, 1)) (d2 : decode cc (pc + 1) = .ok (.ifCond .gt off, 3)) (ht : ((pc + 1 : Nat) : Int) + off = (tgt : Int)) (kt : y < x → gV X G K nL Qp σ L st tgt) (kf : ¬ y < x → gV X G K nL Qp σ L st (pc + 4)) : gV X G K nL Qp σ L (.long y :: .long x :: st) pc := by
  refine V_lcmp C d (V_if_gt C d2 ht (fun z => kt ?_) (fun z => kf ?_))
  · rcases lg_cmp_cases x y with ⟨a, b⟩ | ⟨a, b⟩ | ⟨a, b⟩
    · exact a
    · rw [b] at z; exact absurd z (by decide)
    · rw [b] at z; exact absurd z (by decide)
  · rcases lg_cmp_cases x y with ⟨a, b⟩ | ⟨a, b⟩ | ⟨a, b⟩
    · rw [b] at z; exact absurd (by decide) z
    · subst a; exact fun w => (g_l64 w).1 w
    · exact (g_l64 a).1
theorem V_lcmp_ne (C : gC X G K KR nL cc (g_RX own) ret h) {x y : Int64} {off : Int} {tgt : Nat} (d : decode cc pc = .ok (.lcmp, 1)) (d2 : decode cc (pc + 1) = .ok (.ifCond .ne off, 3)) (ht : ((pc + 1 : Nat) : Int) + off = (tgt : Int)) (kt : ¬ x = y → gV X G K nL Qp σ L st tgt) (kf : x = y → gV X G K nL Qp σ L st (pc + 4)) : gV X G K nL Qp σ L (.long y :: .long x :: st) pc := by
  refine V_lcmp C d (V_if_ne C d2 ht (fun z => kt ?_) (fun z => kf ?_))
  · intro w
    subst w
    exact z (by simp [lg_cmp])
  · rcases lg_cmp_cases x y with ⟨a, b⟩ | ⟨a, b⟩ | ⟨a, b⟩
    · rw [b] at z; exact absurd z (by decide)
    · exact a
    · rw [b] at z; exact absurd z (by decide)
theorem V_lcmp_eq (C : gC X G K KR nL cc (g_RX own) ret h) {x y : Int64} {off : Int} {tgt : Nat} (d : decode cc pc = .ok (.lcmp, 1)) (d2 : decode cc (pc + 1) = .ok (.ifCond .eq off, 3)) (ht : ((pc + 1 : Nat) : Int) + off = (tgt : Int)) (kt : x = y → gV X G K nL Qp σ L st tgt) (kf : ¬ x = y → gV X G K nL Qp σ L st (pc + 4)) : gV X G K nL Qp σ L (.long y :: .long x :: st) pc := by
  refine V_lcmp C d (V_if_eq C d2 ht (fun z => kt ?_) (fun z => kf ?_))
  · rcases lg_cmp_cases x y with ⟨a, b⟩ | ⟨a, b⟩ | ⟨a, b⟩
    · rw [b] at z; exact absurd z (by decide)
    · exact a
    · rw [b] at z; exact absurd z (by decide)
  · intro w
    subst w
    exact z (by simp [lg_cmp])
theorem V_copy (C : gC X G K KR nL cc (g_RX own) ret h) {ix ks kd ns nd sp dp n : Nat} {isp idp inn : Int32} (F : g_CA (g_RX own) ix) (hs : g_sh ks = .inr (0, ns)) (hd : g_sh kd = .inr (0, nd)) (hks : KR ks = true) (hkd : KR kd = true) (e1 : isp = nI sp) (e2 : idp = nI dp) (e3 : inn = nI n) (b1 : sp + n ≤ ns ∧ ns < 1000000) (b2 : dp + n ≤ nd ∧ nd < 1000000) (hh : 1 ≤ h) (hcat : (st.map fun v => v.category).sum ≤ 8) (d : decode cc pc = .ok (.invokestatic ix, 3))
    (kk : gV X G K nL Qp (g_cp σ ks kd sp dp n) L st (pc + 3)) : gV X G K nL Qp σ L (.int inn :: .int idp :: .ref kd :: .int isp :: .ref ks :: st) pc := by
  obtain ⟨p, e0, R, s, m, args, below, meth, c, l⟩ := X
  obtain ⟨hx, hb, hml, hr, hown, hts, hK, hlocks, rfl, hD, hKR, hE⟩ := C
  obtain ⟨f1, f2, f3, f4⟩ := F
  subst e1 e2 e3
  intro H locs ls hP hS hl
  obtain ⟨q0, g1, g2⟩ := g_at (G := G) (σ := σ) (hKR ks hks)
  obtain ⟨q1, g3, g4⟩ := g_at (G := G) (σ := σ) (hKR kd hkd)
  have g5 : (g_wl G K σ)[q0]? = some (G.1 ks, .inl (G.2.2 0, ns, .inl (σ ks))) := by rw [g2, g_en, hs]; rfl
  have g6 : (g_wl G K σ)[q1]? = some (G.1 kd, .inl (G.2.2 0, nd, .inl (σ kd))) := by rw [g4, g_en, hd]; rfl
  have c1 : (nI sp).toNatClampNeg = sp := nI_clamp (by omega)
  have c2 : (nI dp).toNatClampNeg = dp := nI_clamp (by omega)
  have c3 : (nI n).toNatClampNeg = n := nI_clamp (by omega)
  refine va_copyi hx hb (hml.trans hl.sz.symm) hown (hts _ f1) (hts _ f2) (hts _ f3) (hts _ f4) hK hP (hD.vD σ _) hS q0 q1 0 0 g5 g6 rfl rfl rfl (nI_pos (by omega)) (nI_pos (by omega)) (nI_pos (by omega)) (by rw [c1, c3]; exact b1.1) (by rw [c2, c3]; exact b2.1) (fun i _ => rfl) hh ?_ d (fun H1 locs1 hP1 _ hS1 => ?_)
  · rw [g_catsum]
    have : nativeFrameWords "java/lang/System" "arraycopy" 5 + 11 ≤ 56 := by decide
    show _ + _ ≤ 64 * h
    omega
  · rw [c1, c2, c3] at hP1
    have hen : (.inl (G.2.2 0, nd, .inl (va_cpy (σ ks) (σ kd) sp dp n)) : va_E) = g_en G (g_cp σ ks kd sp dp n) kd := by
      rw [g_en, hd, g_cp_same]
      rfl
    rw [hen, g_wl_set hD g3 (fun a ha => g_cp_ne ha)] at hP1
    exact kk H1 locs1 ls hP1 hS1 hl
theorem V_mmax (C : gC X G K KR nL cc (g_RX own) ret h) {ix : Nat} {x y : Int32} (F : g_CM (g_RX own) ix) (hh : 1 ≤ h) (hcat : (st.map fun v => v.category).sum ≤ 8) (d : decode cc pc = .ok (.invokestatic ix, 3))
    (kk : gV X G K nL Qp σ L (.int (if x < y then y else x) :: st) (pc + 3)) : gV X G K nL Qp σ L (.int y :: .int x :: st) pc := by
  obtain ⟨p, e0, R, s, m, args, below, meth, c, l⟩ := X
  obtain ⟨hx, hb, hml, hr, hown, hts, hK, hlocks, rfl, hD, hKR, hE⟩ := C
  obtain ⟨f1, f2, f3, f4⟩ := F
  exact fun H locs ls hP hS hl => va_mmax hx hb (hml.trans hl.sz.symm) hown (hts _ f1) (hts _ f2) (hts _ f3) (hts _ f4) hh (by rw [g_catsum]; show _ + 13 ≤ 64 * h; omega) (Nat.zero_le _) (Nat.zero_le _) d (kk H locs ls hP hS hl)
theorem V_mmin (C : gC X G K KR nL cc (g_RX own) ret h) {ix : Nat} {x y : Int32} (F : g_Cm (g_RX own) ix) (hh : 1 ≤ h) (hcat : (st.map fun v => v.category).sum ≤ 8) (d : decode cc pc = .ok (.invokestatic ix, 3))
    (kk : gV X G K nL Qp σ L (.int (if y < x then y else x) :: st) (pc + 3)) : gV X G K nL Qp σ L (.int y :: .int x :: st) pc := by
  obtain ⟨p, e0, R, s, m, args, below, meth, c, l⟩ := X
  obtain ⟨hx, hb, hml, hr, hown, hts, hK, hlocks, rfl, hD, hKR, hE⟩ := C
  obtain ⟨f1, f2, f3, f4⟩ := F
  exact fun H locs ls hP hS hl => va_mmin hx hb (hml.trans hl.sz.symm) hown (hts _ f1) (hts _ f2) (hts _ f3) (hts _ f4) hh (by rw [g_catsum]; show _ + 13 ≤ 64 * h; omega) (Nat.zero_le _) (Nat.zero_le _) d (kk H locs ls hP hS hl)
theorem g_ge {x y : Int32} : y ≤ x ↔ ¬ x < y := Int32.not_lt.symm
theorem V_icmp_ge2 (C : gC X G K KR nL cc (g_RX own) ret h) {x y : Int32} {off : Int} {tgt : Nat} (d : decode cc pc = .ok (.if_icmp .ge off, 3)) (ht : (pc : Int) + off = (tgt : Int)) (kt : ¬ x < y → gV X G K nL Qp σ L st tgt) (kf : x < y → gV X G K nL Qp σ L st (pc + 3)) : gV X G K nL Qp σ L (.int y :: .int x :: st) pc := V_icmp_ge C d ht (fun z => kt (g_ge.mp z)) (fun z => kf (Decidable.of_not_not (fun w => z (g_ge.mpr w))))
theorem V_icmp_le2 (C : gC X G K KR nL cc (g_RX own) ret h) {x y : Int32} {off : Int} {tgt : Nat} (d : decode cc pc = .ok (.if_icmp .le off, 3)) (ht : (pc : Int) + off = (tgt : Int)) (kt : ¬ y < x → gV X G K nL Qp σ L st tgt) (kf : y < x → gV X G K nL Qp σ L st (pc + 3)) : gV X G K nL Qp σ L (.int y :: .int x :: st) pc := V_icmp_le C d ht (fun z => kt (g_ge.mp z)) (fun z => kf (Decidable.of_not_not (fun w => z (g_ge.mpr w))))
theorem V_if_ge2 (C : gC X G K KR nL cc (g_RX own) ret h) {x : Int32} {off : Int} {tgt : Nat} (d : decode cc pc = .ok (.ifCond .ge off, 3)) (ht : (pc : Int) + off = (tgt : Int)) (kt : ¬ x < 0 → gV X G K nL Qp σ L st tgt) (kf : x < 0 → gV X G K nL Qp σ L st (pc + 3)) : gV X G K nL Qp σ L (.int x :: st) pc := V_if_ge C d ht (fun z => kt (g_ge.mp z)) (fun z => kf (Decidable.of_not_not (fun w => z (g_ge.mpr w))))
theorem V_if_le2 (C : gC X G K KR nL cc (g_RX own) ret h) {x : Int32} {off : Int} {tgt : Nat} (d : decode cc pc = .ok (.ifCond .le off, 3)) (ht : (pc : Int) + off = (tgt : Int)) (kt : ¬ 0 < x → gV X G K nL Qp σ L st tgt) (kf : 0 < x → gV X G K nL Qp σ L st (pc + 3)) : gV X G K nL Qp σ L (.int x :: st) pc := V_if_le C d ht (fun z => kt (g_ge.mp z)) (fun z => kf (Decidable.of_not_not (fun w => z (g_ge.mpr w))))
/-- the same goal with its memory, its locals, its stack written otherwise -/
theorem V_eq {σ' : gS} {L' : gL} {st' : List Value} (e1 : σ = σ') (e2 : L = L') (e3 : st = st') (kk : gV X G K nL Qp σ' L' st' pc) : gV X G K nL Qp σ L st pc := by subst e1 e2 e3; exact kk
theorem g_tso {x : Int32} {lo hi : Int} (vals : List Int32) (hc : (List.range (hi + 1 - lo).toNat).all (fun n => vals.any (fun v => v.toInt == lo + (n : Int))) = true) (hv : ∀ v ∈ vals, ¬ x = v) : x.toInt < lo ∨ hi < x.toInt := by
  by_cases h1 : x.toInt < lo
  · exact Or.inl h1
  · by_cases h2 : hi < x.toInt
    · exact Or.inr h2
    · exfalso
      have h3 := List.all_eq_true.mp hc (x.toInt - lo).toNat (List.mem_range.mpr (by omega))
      obtain ⟨v, hv1, hv2⟩ := List.any_eq_true.mp h3
      have h4 : v.toInt = lo + (((x.toInt - lo).toNat : Nat) : Int) := by simpa using hv2
      have h5 : x.toInt = v.toInt := by omega
      exact hv v hv1 (Int32.toInt_inj.mp h5)
theorem V_tsw (C : gC X G K KR nL cc (g_RX own) ret h) {x : Int32} (v : Int32) {dflt lo hi : Int} {offs : Array Int} {len : Nat} (off : Int) {tgt : Nat} (d : decode cc pc = .ok (.tableswitch dflt lo hi offs, len)) (h1 : ¬ v.toInt < lo) (h2 : ¬ hi < v.toInt) (ho : offs[(v.toInt - lo).toNat]? = some off) (ht : (pc : Int) + off = (tgt : Int)) (kt : x = v → gV X G K nL Qp σ L st tgt) (kf : ¬ x = v → gV X G K nL Qp σ L (.int x :: st) pc) : gV X G K nL Qp σ L (.int x :: st) pc := by
  by_cases hx : x = v
  · have k1 := kt hx
    subst hx
    obtain ⟨p, e0, R, s, m, args, below, meth, c, l⟩ := X
    obtain ⟨hx, hb, -⟩ := C
    exact fun H locs ls hP hS hl => lv_tableIn hx hb d h1 h2 ho ht (k1 H locs ls hP hS hl)
  · exact kf hx
theorem V_tso (C : gC X G K KR nL cc (g_RX own) ret h) {x : Int32} {dflt lo hi : Int} {offs : Array Int} {len : Nat} {tgt : Nat} (d : decode cc pc = .ok (.tableswitch dflt lo hi offs, len)) (ho : x.toInt < lo ∨ hi < x.toInt) (ht : (pc : Int) + dflt = (tgt : Int)) (kk : gV X G K nL Qp σ L st tgt) : gV X G K nL Qp σ L (.int x :: st) pc := by
  obtain ⟨p, e0, R, s, m, args, below, meth, c, l⟩ := X
  obtain ⟨hx, hb, -⟩ := C
  exact fun H locs ls hP hS hl => lv_tableOut hx hb d ho ht (kk H locs ls hP hS hl)
theorem V_lsw (C : gC X G K KR nL cc (g_RX own) ret h) {x : Int32} {dflt : Int} {ps : Array (Int × Int)} {len : Nat} (off : Int) {tgt : Nat} (d : decode cc pc = .ok (.lookupswitch dflt ps, len)) (hp : (ps.toList.zip (ps.toList.drop 1)).all (fun (a, next) => a.1 < next.1) = true) (ho : Op.lookupswitch.offset ps.toList dflt x.toInt = off) (ht : (pc : Int) + off = (tgt : Int)) (kk : gV X G K nL Qp σ L st tgt) : gV X G K nL Qp σ L (.int x :: st) pc := by
  obtain ⟨p, e0, R, s, m, args, below, meth, c, l⟩ := X
  obtain ⟨hx, hb, -⟩ := C
  exact fun H locs ls hP hS hl => lv_lookup hx hb d hp ho ht (kk H locs ls hP hS hl)
theorem V_callVI (C : gC X G K KR nL cc (g_RX own) ret h) {ix k n' na h' : Nat} {y : MethodName} {b : ByteArray} {ret' : Option FieldType} {KR' : Nat → Bool} {As rest : List Value} {r : Int32} {S2 : gS} (F : g_CV (g_RX own) ix y b n' ret' na) (M : g_Met y b n' ret' h' KR' (.ref k :: As) σ (fun rv s => rv = some (.int r) ∧ s = S2)) (hrc : ∃ ci ts T N, g_sh k = .inl (ci, ts) ∧ g_cl[ci]? = some (y.cls, T, N)) (hk : KR k = true) (hh : h' + 1 ≤ h) (hn : n' ≤ 40) (hKK : ∀ k, KR' k = true → KR k = true) (hna : As.length = na) (hst : st = As.reverse ++ .ref k :: rest) (hcat : (rest.map fun v => v.category).sum ≤ 8) (d : decode cc pc = .ok (.invokevirtual ix, 3))
    (kk : gV X G K nL Qp S2 L (.int r :: rest) (pc + 3)) : gV X G K nL Qp σ L st pc := V_callV C F M hrc hk hh hn hKK hna hst hcat d (fun rv s hq => by obtain ⟨rfl, rfl⟩ := hq; exact kk)
theorem V_callVV (C : gC X G K KR nL cc (g_RX own) ret h) {ix k n' na h' : Nat} {y : MethodName} {b : ByteArray} {ret' : Option FieldType} {KR' : Nat → Bool} {As rest : List Value} {S2 : gS} (F : g_CV (g_RX own) ix y b n' ret' na) (M : g_Met y b n' ret' h' KR' (.ref k :: As) σ (fun rv s => rv = none ∧ s = S2)) (hrc : ∃ ci ts T N, g_sh k = .inl (ci, ts) ∧ g_cl[ci]? = some (y.cls, T, N)) (hk : KR k = true) (hh : h' + 1 ≤ h) (hn : n' ≤ 40) (hKK : ∀ k, KR' k = true → KR k = true) (hna : As.length = na) (hst : st = As.reverse ++ .ref k :: rest) (hcat : (rest.map fun v => v.category).sum ≤ 8) (d : decode cc pc = .ok (.invokevirtual ix, 3))
    (kk : gV X G K nL Qp S2 L (rest) (pc + 3)) : gV X G K nL Qp σ L st pc := V_callV C F M hrc hk hh hn hKK hna hst hcat d (fun rv s hq => by obtain ⟨rfl, rfl⟩ := hq; exact kk)
theorem V_callVL (C : gC X G K KR nL cc (g_RX own) ret h) {ix k n' na h' : Nat} {y : MethodName} {b : ByteArray} {ret' : Option FieldType} {KR' : Nat → Bool} {As rest : List Value} {r : Int64} {S2 : gS} (F : g_CV (g_RX own) ix y b n' ret' na) (M : g_Met y b n' ret' h' KR' (.ref k :: As) σ (fun rv s => rv = some (.long r) ∧ s = S2)) (hrc : ∃ ci ts T N, g_sh k = .inl (ci, ts) ∧ g_cl[ci]? = some (y.cls, T, N)) (hk : KR k = true) (hh : h' + 1 ≤ h) (hn : n' ≤ 40) (hKK : ∀ k, KR' k = true → KR k = true) (hna : As.length = na) (hst : st = As.reverse ++ .ref k :: rest) (hcat : (rest.map fun v => v.category).sum ≤ 8) (d : decode cc pc = .ok (.invokevirtual ix, 3))
    (kk : gV X G K nL Qp S2 L (.long r :: rest) (pc + 3)) : gV X G K nL Qp σ L st pc := V_callV C F M hrc hk hh hn hKK hna hst hcat d (fun rv s hq => by obtain ⟨rfl, rfl⟩ := hq; exact kk)
theorem V_callVR (C : gC X G K KR nL cc (g_RX own) ret h) {ix k n' na h' : Nat} {y : MethodName} {b : ByteArray} {ret' : Option FieldType} {KR' : Nat → Bool} {As rest : List Value} {r : Nat} {S2 : gS} (F : g_CV (g_RX own) ix y b n' ret' na) (M : g_Met y b n' ret' h' KR' (.ref k :: As) σ (fun rv s => rv = some (.ref r) ∧ s = S2)) (hrc : ∃ ci ts T N, g_sh k = .inl (ci, ts) ∧ g_cl[ci]? = some (y.cls, T, N)) (hk : KR k = true) (hh : h' + 1 ≤ h) (hn : n' ≤ 40) (hKK : ∀ k, KR' k = true → KR k = true) (hna : As.length = na) (hst : st = As.reverse ++ .ref k :: rest) (hcat : (rest.map fun v => v.category).sum ≤ 8) (d : decode cc pc = .ok (.invokevirtual ix, 3))
    (kk : gV X G K nL Qp S2 L (.ref r :: rest) (pc + 3)) : gV X G K nL Qp σ L st pc := V_callV C F M hrc hk hh hn hKK hna hst hcat d (fun rv s hq => by obtain ⟨rfl, rfl⟩ := hq; exact kk)
theorem V_callSI (C : gC X G K KR nL cc (g_RX own) ret h) {ix n' na h' : Nat} {y : MethodName} {b : ByteArray} {ret' : Option FieldType} {KR' : Nat → Bool} {As rest : List Value} {r : Int32} {S2 : gS} (F : g_CS (g_RX own) ix y b n' ret' na) (M : g_Met y b n' ret' h' KR' As σ (fun rv s => rv = some (.int r) ∧ s = S2)) (hh : h' + 1 ≤ h) (hn : n' ≤ 40) (hKK : ∀ k, KR' k = true → KR k = true) (hna : As.length = na) (hst : st = As.reverse ++ rest) (hcat : (rest.map fun v => v.category).sum ≤ 8) (d : decode cc pc = .ok (.invokestatic ix, 3))
    (kk : gV X G K nL Qp S2 L (.int r :: rest) (pc + 3)) : gV X G K nL Qp σ L st pc := V_callS C F M hh hn hKK hna hst hcat d (fun rv s hq => by obtain ⟨rfl, rfl⟩ := hq; exact kk)
theorem V_callSV (C : gC X G K KR nL cc (g_RX own) ret h) {ix n' na h' : Nat} {y : MethodName} {b : ByteArray} {ret' : Option FieldType} {KR' : Nat → Bool} {As rest : List Value} {S2 : gS} (F : g_CS (g_RX own) ix y b n' ret' na) (M : g_Met y b n' ret' h' KR' As σ (fun rv s => rv = none ∧ s = S2)) (hh : h' + 1 ≤ h) (hn : n' ≤ 40) (hKK : ∀ k, KR' k = true → KR k = true) (hna : As.length = na) (hst : st = As.reverse ++ rest) (hcat : (rest.map fun v => v.category).sum ≤ 8) (d : decode cc pc = .ok (.invokestatic ix, 3))
    (kk : gV X G K nL Qp S2 L (rest) (pc + 3)) : gV X G K nL Qp σ L st pc := V_callS C F M hh hn hKK hna hst hcat d (fun rv s hq => by obtain ⟨rfl, rfl⟩ := hq; exact kk)
theorem V_callSL (C : gC X G K KR nL cc (g_RX own) ret h) {ix n' na h' : Nat} {y : MethodName} {b : ByteArray} {ret' : Option FieldType} {KR' : Nat → Bool} {As rest : List Value} {r : Int64} {S2 : gS} (F : g_CS (g_RX own) ix y b n' ret' na) (M : g_Met y b n' ret' h' KR' As σ (fun rv s => rv = some (.long r) ∧ s = S2)) (hh : h' + 1 ≤ h) (hn : n' ≤ 40) (hKK : ∀ k, KR' k = true → KR k = true) (hna : As.length = na) (hst : st = As.reverse ++ rest) (hcat : (rest.map fun v => v.category).sum ≤ 8) (d : decode cc pc = .ok (.invokestatic ix, 3))
    (kk : gV X G K nL Qp S2 L (.long r :: rest) (pc + 3)) : gV X G K nL Qp σ L st pc := V_callS C F M hh hn hKK hna hst hcat d (fun rv s hq => by obtain ⟨rfl, rfl⟩ := hq; exact kk)
theorem V_callSR (C : gC X G K KR nL cc (g_RX own) ret h) {ix n' na h' : Nat} {y : MethodName} {b : ByteArray} {ret' : Option FieldType} {KR' : Nat → Bool} {As rest : List Value} {r : Nat} {S2 : gS} (F : g_CS (g_RX own) ix y b n' ret' na) (M : g_Met y b n' ret' h' KR' As σ (fun rv s => rv = some (.ref r) ∧ s = S2)) (hh : h' + 1 ≤ h) (hn : n' ≤ 40) (hKK : ∀ k, KR' k = true → KR k = true) (hna : As.length = na) (hst : st = As.reverse ++ rest) (hcat : (rest.map fun v => v.category).sum ≤ 8) (d : decode cc pc = .ok (.invokestatic ix, 3))
    (kk : gV X G K nL Qp S2 L (.ref r :: rest) (pc + 3)) : gV X G K nL Qp σ L st pc := V_callS C F M hh hn hKK hna hst hcat d (fun rv s hq => by obtain ⟨rfl, rfl⟩ := hq; exact kk)
theorem V_callNI (C : gC X G K KR nL cc (g_RX own) ret h) {ix n' na h' : Nat} {y : MethodName} {b : ByteArray} {ret' : Option FieldType} {KR' : Nat → Bool} {As rest : List Value} {r : Int32} {S2 : gS} (F : g_CN (g_RX own) ix y b n' ret' na) (M : g_Met y b n' ret' h' KR' As σ (fun rv s => rv = some (.int r) ∧ s = S2)) (hh : h' + 1 ≤ h) (hn : n' ≤ 40) (hKK : ∀ k, KR' k = true → KR k = true) (hna : As.length = na) (hst : st = As.reverse ++ rest) (hcat : (rest.map fun v => v.category).sum ≤ 8) (d : decode cc pc = .ok (.invokestatic ix, 3))
    (kk : gV X G K nL Qp S2 L (.int r :: rest) (pc + 3)) : gV X G K nL Qp σ L st pc := V_callN C F M hh hn hKK hna hst hcat d (fun rv s hq => by obtain ⟨rfl, rfl⟩ := hq; exact kk)
theorem V_callNV (C : gC X G K KR nL cc (g_RX own) ret h) {ix n' na h' : Nat} {y : MethodName} {b : ByteArray} {ret' : Option FieldType} {KR' : Nat → Bool} {As rest : List Value} {S2 : gS} (F : g_CN (g_RX own) ix y b n' ret' na) (M : g_Met y b n' ret' h' KR' As σ (fun rv s => rv = none ∧ s = S2)) (hh : h' + 1 ≤ h) (hn : n' ≤ 40) (hKK : ∀ k, KR' k = true → KR k = true) (hna : As.length = na) (hst : st = As.reverse ++ rest) (hcat : (rest.map fun v => v.category).sum ≤ 8) (d : decode cc pc = .ok (.invokestatic ix, 3))
    (kk : gV X G K nL Qp S2 L (rest) (pc + 3)) : gV X G K nL Qp σ L st pc := V_callN C F M hh hn hKK hna hst hcat d (fun rv s hq => by obtain ⟨rfl, rfl⟩ := hq; exact kk)
theorem V_callNL (C : gC X G K KR nL cc (g_RX own) ret h) {ix n' na h' : Nat} {y : MethodName} {b : ByteArray} {ret' : Option FieldType} {KR' : Nat → Bool} {As rest : List Value} {r : Int64} {S2 : gS} (F : g_CN (g_RX own) ix y b n' ret' na) (M : g_Met y b n' ret' h' KR' As σ (fun rv s => rv = some (.long r) ∧ s = S2)) (hh : h' + 1 ≤ h) (hn : n' ≤ 40) (hKK : ∀ k, KR' k = true → KR k = true) (hna : As.length = na) (hst : st = As.reverse ++ rest) (hcat : (rest.map fun v => v.category).sum ≤ 8) (d : decode cc pc = .ok (.invokestatic ix, 3))
    (kk : gV X G K nL Qp S2 L (.long r :: rest) (pc + 3)) : gV X G K nL Qp σ L st pc := V_callN C F M hh hn hKK hna hst hcat d (fun rv s hq => by obtain ⟨rfl, rfl⟩ := hq; exact kk)
theorem V_callNR (C : gC X G K KR nL cc (g_RX own) ret h) {ix n' na h' : Nat} {y : MethodName} {b : ByteArray} {ret' : Option FieldType} {KR' : Nat → Bool} {As rest : List Value} {r : Nat} {S2 : gS} (F : g_CN (g_RX own) ix y b n' ret' na) (M : g_Met y b n' ret' h' KR' As σ (fun rv s => rv = some (.ref r) ∧ s = S2)) (hh : h' + 1 ≤ h) (hn : n' ≤ 40) (hKK : ∀ k, KR' k = true → KR k = true) (hna : As.length = na) (hst : st = As.reverse ++ rest) (hcat : (rest.map fun v => v.category).sum ≤ 8) (d : decode cc pc = .ok (.invokestatic ix, 3))
    (kk : gV X G K nL Qp S2 L (.ref r :: rest) (pc + 3)) : gV X G K nL Qp σ L st pc := V_callN C F M hh hn hKK hna hst hcat d (fun rv s hq => by obtain ⟨rfl, rfl⟩ := hq; exact kk)

end GV2
