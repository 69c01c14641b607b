/-! THE CLASS'S CONSTRUCTOR -/
def b_KR : List Nat := [19, 20, 45, 46, 47, 48, 49, 50, 51, 52, 53, 54, 55, 56, 57, 58, 59, 60, 61, 62]
def b_K1 : List Nat := [0, 1, 2, 3, 4, 5, 6, 7, 8, 9, 10, 11, 12, 13, 14, 15, 16, 17, 18, 21, 22, 37, 38, 39, 40, 41, 42, 43, 44]
def b_K3 : List Nat := [23, 24, 25]
def b_K4 : List Nat := [26, 27, 28, 29, 30, 31, 32, 33, 34, 35, 36]
def b_KX : List Nat := ((b_K1 ++ b_KR) ++ b_K3) ++ b_K4
theorem KR_nd : b_KR.Nodup := by decide +kernel
theorem kR_in : ∀ k, kR k = true → k ∈ b_KR := fun k h => by
  have hk : k < 63 := by
    simp [kR] at h
    omega
  exact (by decide +kernel : ∀ k, k < 63 → kR k = true → k ∈ b_KR) k hk h
theorem kR_tr : ∀ k, k ∈ b_KR → kR k = true := by decide +kernel
theorem kR_all {P : Nat → Prop} (h : P 19 ∧ P 20 ∧ P 45 ∧ P 46 ∧ P 47 ∧ P 48 ∧ P 49 ∧ P 50 ∧ P 51 ∧ P 52 ∧ P 53 ∧ P 54 ∧ P 55 ∧ P 56 ∧ P 57 ∧ P 58 ∧ P 59 ∧ P 60 ∧ P 61 ∧ P 62) : ∀ k, k ∈ b_KR → P k := by
  obtain ⟨a0, a1, a2, a3, a4, a5, a6, a7, a8, a9, a10, a11, a12, a13, a14, a15, a16, a17, a18, a19⟩ := h
  exact List.forall_mem_cons.mpr ⟨a0, List.forall_mem_cons.mpr ⟨a1, List.forall_mem_cons.mpr ⟨a2, List.forall_mem_cons.mpr ⟨a3, List.forall_mem_cons.mpr ⟨a4, List.forall_mem_cons.mpr ⟨a5, List.forall_mem_cons.mpr ⟨a6, List.forall_mem_cons.mpr ⟨a7, List.forall_mem_cons.mpr ⟨a8, List.forall_mem_cons.mpr ⟨a9, List.forall_mem_cons.mpr ⟨a10, List.forall_mem_cons.mpr ⟨a11, List.forall_mem_cons.mpr ⟨a12, List.forall_mem_cons.mpr ⟨a13, List.forall_mem_cons.mpr ⟨a14, List.forall_mem_cons.mpr ⟨a15, List.forall_mem_cons.mpr ⟨a16, List.forall_mem_cons.mpr ⟨a17, List.forall_mem_cons.mpr ⟨a18, List.forall_mem_cons.mpr ⟨a19, fun _ h => absurd h List.not_mem_nil⟩⟩⟩⟩⟩⟩⟩⟩⟩⟩⟩⟩⟩⟩⟩⟩⟩⟩⟩⟩
def b_adX (ad : Nat → Nat) (vs : List Nat) : Nat → Nat := fun k => if k < 63 then vs.getD k 0 else ad k
def b_GX (G : gG) (ad : Nat → Nat) (vs : List Nat) : gG := (b_adX ad vs, G.2)
def b_s0 : gS := fun k j => if k = 19 ∧ j = 2 then -1 else if (k = 1 ∨ k = 10) ∧ j = 11 then 2 else if (k = 37 ∨ k = 39 ∨ k = 41 ∨ k = 43) ∧ j = 0 then -1 else 0
def b_sF (s : gS) : gS := fun k j => if kR k = true then s k j else if k = 0 ∧ j = 5 then 1 else b_s0 k j
/-- what is so of the class's cells, behind its constructor -/
def b_FX (σ : gS) : Prop := (σ 1 8 = 0 ∧ σ 1 9 = 0 ∧ σ 1 10 = 0 ∧ σ 1 11 = 2 ∧ σ 1 12 = 0 ∧ σ 1 13 = 0) ∧ (∀ h, σ 2 h = 0) ∧ σ 0 5 = 1 ∧ σ 0 2 = 0 ∧ σ 19 1 = 0 ∧ (∀ t, t < 4 → σ (37 + 2 * t) 0 = -1 ∧ σ (37 + 2 * t) 1 = 0) ∧ m_tok σ 0 ∧ ∀ pa, pa < 3 → ∀ mo nm, m_tell σ 0 pa mo nm = t_of (q_l b_ch 46) pa mo nm
/-- an array of references is what it is at its places -/
theorem b_cellq {cA : ClassId} {n : Nat} {f g : Nat → Option Nat} (e : ∀ j, j < n → f j = g j) : vp_cell cA (n, .inr (.inr (.inr (.inr f)))) = vp_cell cA (n, .inr (.inr (.inr (.inr g)))) := by
  rw [vp_cell_q, vp_cell_q]
  have h : (fun j : Fin n => va_rf (f j.val)) = fun j : Fin n => va_rf (g j.val) := funext fun j => by rw [e j.val j.isLt]
  show ({ cls := cA, slots := Array.ofFn (n := n) fun j => va_rf (f j.val), vm := .none } : Cell) = { cls := cA, slots := Array.ofFn (n := n) fun j => va_rf (g j.val), vm := .none }
  rw [h]
theorem b_arrq {D : va_G} {ws : va_W} {H : Heap} {q0 a n : Nat} {cA : ClassId} {f g : Nat → Option Nat} (hP : va_P D g_cl ws H) (ha : ws[q0]? = some (a, .inl (cA, n, .inr (.inr (.inr (.inr f)))))) (e : ∀ j, j < n → f j = g j) : va_P D g_cl (ws.set q0 (a, .inl (cA, n, .inr (.inr (.inr (.inr g)))))) H := by
  intro k z hz
  rw [List.getElem?_set] at hz
  by_cases y : q0 = k
  · subst y
    rw [if_pos rfl, if_pos (List.getElem?_eq_some_iff.mp ha).1] at hz
    cases hz
    have := hP q0 _ ha
    show H[a]? = some (vp_cell cA (n, .inr (.inr (.inr (.inr g)))))
    rw [← b_cellq e]
    exact this
  · rw [if_neg y] at hz
    exact hP k z hz
theorem g_wl_app (G : gG) (a b : List Nat) (σ : gS) : g_wl G (a ++ b) σ = g_wl G a σ ++ g_wl G b σ := List.map_append
theorem bC_new {X : gX} {G G' : gG} {A : Nat → Prop} {nL : Nat} {cc : ByteArray} {own : String} {Rm : Room} (C : bCC X G.2.1 (g_tys G) A nL cc own Rm) (e : G'.2 = G.2) : bCC X G'.2.1 (g_tys G') A nL cc own Rm := by
  have e1 : g_tys G' = g_tys G := by unfold g_tys; rw [e]
  rw [e, e1]
  exact C
/-- the reader's cells, by another map of addresses -/
theorem rd_same {G : gG} {ad1 ad2 : Nat → Nat} {vs1 vs2 : List Nat} {s σ : gS} (h2 : s 19 2 = nI 0) (hv : ∀ k, k ∈ b_KR → vs2.getD k 0 = vs1.getD k 0) (hs : ∀ k, k ∈ b_KR → σ k = s k) : g_wl (b_GX G ad1 vs1) b_KR s = g_wl (b_GX G ad2 vs2) b_KR σ := by
  have ad : ∀ k, k ∈ b_KR → (b_GX G ad2 vs2).1 k = (b_GX G ad1 vs1).1 k := fun k hk => by
    have : k < 63 := (by decide +kernel : ∀ k, k ∈ b_KR → k < 63) k hk
    show (if k < 63 then vs2.getD k 0 else ad2 k) = if k < 63 then vs1.getD k 0 else ad1 k
    rw [if_pos this, if_pos this]
    exact hv k hk
  have obj : ∀ (k : Nat) (ts : List Nat) (i : Nat), (∀ j t, ts[j]? = some t → t = 0 ∨ (∃ m, t = m + 3 ∧ m ∈ b_KR) ∨ (t = 2 ∧ k = 19 ∧ i + j = 2)) → σ k = s k → g_fs (b_GX G ad1 vs1).1 s k i ts = g_fs (b_GX G ad2 vs2).1 σ k i ts := by
    intro k ts
    induction ts with
    | nil => intro i _ _; rfl
    | cons t ts ih =>
      intro i h e
      rw [g_fs, g_fs, ih (i + 1) (fun j t' hj => by
        have := h (j + 1) t' (by simpa using hj)
        rcases this with z | z | z
        · exact Or.inl z
        · exact Or.inr (Or.inl z)
        · exact Or.inr (Or.inr ⟨z.1, z.2.1, by omega⟩)) e]
      congr 1
      rcases h 0 t rfl with rfl | ⟨m, rfl, hm⟩ | ⟨rfl, rfl, hi⟩
      · show Value.int (s k i) = .int (σ k i)
        rw [e]
      · show Value.ref ((b_GX G ad1 vs1).1 m) = .ref ((b_GX G ad2 vs2).1 m)
        rw [ad m hm]
      · have hi2 : i = 2 := by omega
        subst hi2
        have l1 : g_lv s 19 2 2 = .ref 45 := by
          show (if s 19 2 = -1 then Value.null else .ref (45 + 3 * (s 19 2).toNatClampNeg)) = _
          rw [h2]
          rfl
        have l2 : g_lv σ 19 2 2 = .ref 45 := by
          show (if σ 19 2 = -1 then Value.null else .ref (45 + 3 * (σ 19 2).toNatClampNeg)) = _
          rw [e, h2]
          rfl
        rw [l1, l2]
        show Value.ref ((b_GX G ad1 vs1).1 45) = .ref ((b_GX G ad2 vs2).1 45)
        rw [ad 45 (by decide)]
  have chk : ∀ k, k ∈ b_KR → (∃ ci ts, g_sh k = .inl (ci, ts) ∧ ∀ j t, ts[j]? = some t → t = 0 ∨ (∃ m, t = m + 3 ∧ m ∈ b_KR) ∨ (t = 2 ∧ k = 19 ∧ 0 + j = 2)) ∨ ∃ N, g_sh k = .inr (0, N) := by
    intro k hk
    have hk' : k = 19 ∨ k = 20 ∨ ∃ t, t < 6 ∧ (k = 45 + 3 * t ∨ k = 46 + 3 * t ∨ k = 47 + 3 * t) := (by decide +kernel : ∀ k, k ∈ b_KR → k = 19 ∨ k = 20 ∨ ∃ t, t < 6 ∧ (k = 45 + 3 * t ∨ k = 46 + 3 * t ∨ k = 47 + 3 * t)) k hk
    rcases hk' with rfl | rfl | ⟨t, ht, rfl | rfl | rfl⟩
    · refine Or.inl ⟨_, _, rfl, fun j t hj => ?_⟩
      match j, hj with
      | 0, hj => cases hj; exact Or.inr (Or.inl ⟨20, rfl, by decide⟩)
      | 1, hj => cases hj; exact Or.inl rfl
      | 2, hj => cases hj; exact Or.inr (Or.inr ⟨rfl, rfl, rfl⟩)
      | 3, hj => cases hj; exact Or.inl rfl
      | 4, hj => cases hj; exact Or.inl rfl
      | 5, hj => cases hj; exact Or.inl rfl
      | 6, hj => cases hj; exact Or.inl rfl
      | 7, hj => cases hj; exact Or.inl rfl
      | 8, hj => cases hj; exact Or.inl rfl
      | 9, hj => cases hj; exact Or.inl rfl
      | j + 10, hj => simp at hj
    · exact Or.inr ⟨_, rfl⟩
    · refine Or.inl ⟨_, _, sh_text ht, fun j u hj => ?_⟩
      have in1 : ∀ t, t < 6 → 46 + 3 * t ∈ b_KR ∧ 47 + 3 * t ∈ b_KR := by decide +kernel
      match j, hj with
      | 0, hj => cases hj; exact Or.inr (Or.inl ⟨_, rfl, (in1 t ht).1⟩)
      | 1, hj => cases hj; exact Or.inr (Or.inl ⟨_, rfl, (in1 t ht).2⟩)
      | j + 2, hj => simp at hj
    · exact Or.inr ⟨_, sh_code ht⟩
    · exact Or.inr ⟨_, sh_ends ht⟩
  refine List.map_congr_left (fun k hk => ?_)
  rw [ad k hk]
  congr 1
  rcases chk k hk with ⟨ci, ts, e1, e2⟩ | ⟨N, e1⟩
  · rw [g_en, g_en, e1]
    show (Sum.inr (ci, g_fs (b_GX G ad1 vs1).1 s k 0 ts) : va_E) = .inr (ci, g_fs (b_GX G ad2 vs2).1 σ k 0 ts)
    rw [obj k ts 0 e2 (hs k hk)]
  · rw [g_en, g_en, e1]
    show (Sum.inl (G.2.2 0, N, .inl (s k)) : va_E) = .inl (G.2.2 0, N, .inl (σ k))
    rw [hs k hk]
theorem fx_of {s : gS} (x3 : s 19 1 = 0) (x5 : m_tok s 0) (x6 : ∀ pa, pa < 3 → ∀ mo nm, m_tell s 0 pa mo nm = t_of (q_l b_ch 46) pa mo nm) : b_FX (b_sF s) := by
  refine ⟨⟨rfl, rfl, rfl, rfl, rfl, rfl⟩, fun _ => rfl, rfl, rfl, x3, fun t ht => ?_, ?_, ?_⟩
  · rcases (show t = 0 ∨ t = 1 ∨ t = 2 ∨ t = 3 by omega) with rfl | rfl | rfl | rfl <;> exact ⟨rfl, rfl⟩
  · exact (x5.same (s := (b_sF s)) rfl rfl).1
  · intro pa hp mo nm
    exact ((x5.same (s := (b_sF s)) rfl rfl).2 pa mo nm).trans (x6 pa hp mo nm)
set_option maxHeartbeats 2000000 in
/-- the loop that takes the first text, byte by byte -/
theorem tk_loop {X : gX} {A : Nat → Prop} {Q : State → Prop} {Rm : Room} (G : gG) (ad0 : Nat → Nat) (q : Nat) (vs : List Nat) (tl : va_W) (fs : List Value) (C : bCC X G.2.1 (g_tys G) A 2 cX7_init (g_RX 7) Rm) (E : bEX X ad0 A) (hfs : fs[3]? = some (.ref (vs.getD 19 0))) {mc ms : Nat} (hr : mc ≤ Rm.cells ∧ ms ≤ Rm.slots) (hf : 10 ≤ Rm.frames ∧ 1000 ≤ Rm.locals) (hx : ∀ σ : gS, σ 19 1 = nI 46 → (∀ j, j < 46 → σ 20 j = b_ch j) → (∀ a, a ≠ 19 → a ≠ 20 → σ a = b_s0 a) → bV X G.2.1 A 2 Q (((q, .inr (7, fs)) :: tl) ++ g_wl (b_GX G ad0 vs) b_KR σ) [(1, .int (nI 46)), (0, .ref q)] [] mc ms 138) : ∀ (n i : Nat) (σ : gS), i + n = 46 → σ 19 1 = nI i → (∀ j, j < i → σ 20 j = b_ch j) → (∀ a, a ≠ 19 → a ≠ 20 → σ a = b_s0 a) → bV X G.2.1 A 2 Q (((q, .inr (7, fs)) :: tl) ++ g_wl (b_GX G ad0 vs) b_KR σ) [(1, .int (nI i)), (0, .ref q)] [] mc ms 109 := by
  have had : ∀ k, 100 ≤ k → (b_GX G ad0 vs).1 k = ad0 k := fun k hk => if_neg (by omega)
  have e100 : (b_GX G ad0 vs).1 (100 + 0) = ad0 100 := had 100 (by decide)
  have e19 : (b_GX G ad0 vs).1 19 = vs.getD 19 0 := rfl
  intro n
  induction n with
  | zero =>
    intro i σ hi h1 h2 h3
    have hi' : i = 46 := by omega
    subst hi'
    refine B_iload C 0 dX7_init_109 rfl rfl ?_
    refine B_ldcS C E dX7_init_110 ?_
    refine B_gS (G := b_GX G ad0 vs) (K := b_KR) (σ := σ) (bC_new C rfl) E had KR_nd (k := 0) (As := []) (rest := [.int (nI 46)]) cv_X7_42 (c_length (KR := kR) σ (i := 0) (by decide)) (by decide) rfl kR_in (by omega) (by omega) rfl (by rw [e100]; rfl) (Nat.le_of_ble_eq_true rfl) hr dX7_init_112 (fun rv s hq => ?_)
    obtain ⟨rfl, rfl⟩ := hq
    refine B_steq (st' := [.int (nI 46), .int (nI 46)]) rfl ?_
    refine B_icmpge C (tgt := 138) dX7_init_115 (by decide) (fun _ => hx s h1 h2 h3) (fun z => absurd z (by decide))
  | succ n ih =>
    intro i σ hi h1 h2 h3
    refine B_iload C 0 dX7_init_109 rfl rfl ?_
    refine B_ldcS C E dX7_init_110 ?_
    refine B_gS (G := b_GX G ad0 vs) (K := b_KR) (σ := σ) (bC_new C rfl) E had KR_nd (k := 0) (As := []) (rest := [.int (nI i)]) cv_X7_42 (c_length (KR := kR) σ (i := 0) (by decide)) (by decide) rfl kR_in (by omega) (by omega) rfl (by rw [e100]; rfl) (Nat.le_of_ble_eq_true rfl) hr dX7_init_112 (fun rv s hq => ?_)
    obtain ⟨rfl, rfl⟩ := hq
    refine B_steq (st' := [.int (nI 46), .int (nI i)]) rfl ?_
    refine B_icmpge C (tgt := 138) dX7_init_115 (by decide) (fun z => absurd ((n_lt (a := i) (b := 46) (by omega) (by omega)).mpr (by omega)) z) (fun _ => ?_)
    refine B_aload C 1 dX7_init_118 rfl rfl ?_
    refine B_get C 0 fl_X7_22 rfl hfs dX7_init_119 ?_
    refine B_ldcS C E dX7_init_122 ?_
    refine B_iload C 0 dX7_init_124 rfl rfl ?_
    refine B_gS (G := b_GX G ad0 vs) (K := b_KR) (σ := s) (bC_new C rfl) E had KR_nd (k := 0) (As := [.int (nI i)]) (rest := [.ref (vs.getD 19 0)]) cv_X7_48 (c_charAt (KR := kR) s (i := 0) (by decide) (k := i) (by show i < 46; omega)) (by decide) rfl kR_in (by omega) (by omega) rfl (by rw [e100]; rfl) (Nat.le_of_ble_eq_true rfl) hr dX7_init_125 (fun rv u hq => ?_)
    obtain ⟨rfl, rfl⟩ := hq
    refine B_steq (st' := [.int (b_ch i), .ref (vs.getD 19 0)]) rfl ?_
    refine B_gV (G := b_GX G ad0 vs) (K := b_KR) (σ := u) (bC_new C rfl) E had KR_nd (k := 19) (As := [.int (b_ch i)]) (rest := []) cv_X7_52 (c_X2_take u (b_ch i) h1 (by omega)) ⟨_, _, _, _, rfl, rfl⟩ (by decide) kR_in (by omega) (by omega) rfl rfl (Nat.le_of_ble_eq_true rfl) hr dX7_init_128 (fun rv w hq => ?_)
    obtain ⟨e1, e2⟩ := hq
    have c9 : g_in (u 19 1) 0 159 := by rw [h1]; exact (n_0to (a := i) (M := 159) (by omega) (by omega)).mpr (by omega)
    rw [if_pos c9] at e1 e2
    rw [h1, ix_nI (by omega), nI_1] at e2
    subst e1
    refine B_steq (st' := [.int 1]) rfl ?_
    refine B_pop C dX7_init_131 rfl ?_
    refine B_iinc C (v := nI (i + 1)) [(1, .int (nI (i + 1))), (0, .ref q)] dX7_init_132 (k := 0) rfl (nI_1 i) (by decide) rfl ?_
    refine B_goto C (tgt := 109) dX7_init_135 (by decide) ?_
    refine ih (i + 1) w (by omega) ?_ (fun j hj => ?_) (fun a z1 z2 => ?_)
    · rw [e2, u_eq]
    · rw [e2, g_up_ne (by decide)]
      by_cases y : j = i
      · subst y; rw [u_eq]
      · rw [u_ne y]; exact h2 j (by omega)
    · rw [e2, g_up_ne z1, g_up_ne z2]
      exact h3 a z1 z2
