/-! MY LAYER: one logical memory for all cells of both worlds (cells have numbers; a state is 'cell, place ↦ int'), and a judgement over it -/
abbrev gS : Type := Nat → Nat → Int32
abbrev gG : Type := (Nat → Nat) × va_G × (Nat → ClassId)
abbrev gX : Type := Program × Env × Room × State × MethodId × Array Value × List Frame × Method × Code × Launch
abbrev gL : Type := List (Option Value)
abbrev g_cl : List vw_C := [(RX0, TX0, 18), (RX1, TX1, 14), (RX2, TX2, 10), (RX3, TX3, 3), (RX4, TX4, 3), (RX5, TX5, 7), (RX6, TX6, 2), (RX7, TX7, 9), (RX8, TX8, 64)]
/-- a cell: an object (class, its fields: 0 int, 1 long, 2 a text by its number, n + 3 the cell n), or an array (0 ints, 1 booleans, 2 texts, 3 sheets; length) -/
def g_tab : List ((Nat × List Nat) ⊕ (Nat × Nat)) := [.inl (7, [4, 13, 0, 22, 24, 0, 26, 29, 25]), .inl (1, [5, 6, 7, 8, 9, 10, 11, 12, 0, 0, 0, 0, 0, 0]), .inr (0, 24), .inr (0, 6), .inr (0, 6), .inr (0, 6), .inr (0, 6), .inr (0, 5), .inr (0, 5), .inr (0, 5), .inl (1, [14, 15, 16, 17, 18, 19, 20, 21, 0, 0, 0, 0, 0, 0]), .inr (0, 24), .inr (0, 6), .inr (0, 6), .inr (0, 6), .inr (0, 6), .inr (0, 5), .inr (0, 5), .inr (0, 5), .inl (2, [23, 0, 2, 0, 0, 0, 0, 0, 0, 0]), .inr (0, 160), .inr (2, 6), .inr (3, 4), .inl (3, [2, 27, 28]), .inr (0, 6), .inr (0, 160), .inl (0, [4, 26, 36, 0, 0, 0, 30, 31, 32, 33, 34, 35, 0, 0, 0, 0, 0, 0]), .inr (0, 5), .inr (0, 8), .inr (0, 5), .inr (0, 8), .inr (0, 192), .inr (0, 192), .inl (5, [4, 26, 37, 38, 0, 0, 39]), .inr (0, 24), .inr (0, 6), .inr (0, 192), .inl (4, [0, 0, 41]), .inr (0, 40), .inl (4, [0, 0, 43]), .inr (0, 40), .inl (4, [0, 0, 45]), .inr (0, 40), .inl (4, [0, 0, 47]), .inr (0, 40), .inl (6, [49, 50]), .inr (0, 160), .inr (0, 3), .inl (6, [52, 53]), .inr (0, 160), .inr (0, 3), .inl (6, [55, 56]), .inr (0, 160), .inr (0, 3), .inl (6, [58, 59]), .inr (0, 160), .inr (0, 3), .inl (6, [61, 62]), .inr (0, 160), .inr (0, 3), .inl (6, [64, 65]), .inr (0, 160), .inr (0, 3), .inl (8, [0, 67, 68, 0, 0, 69, 0, 70, 0, 0, 0, 71, 72, 73, 74, 0, 75, 76, 77, 0, 0, 0, 0, 0, 0, 0, 0, 0, 0, 0, 0, 1, 0, 0, 0, 78, 79, 80, 81, 0, 0, 0, 0, 82, 0, 83, 0, 0, 84, 0, 85, 86, 87, 88, 0, 0, 0, 0, 0, 0, 89, 90, 91, 92]), .inr (0, 960), .inr (0, 6), .inr (0, 160), .inr (0, 24), .inr (0, 6), .inr (0, 6), .inr (0, 6), .inr (0, 6), .inr (0, 5), .inr (0, 5), .inr (0, 5), .inr (0, 192), .inr (0, 5), .inr (0, 120), .inr (0, 192), .inr (0, 249792), .inr (0, 5), .inr (0, 5), .inr (0, 24), .inr (0, 24), .inr (0, 18), .inr (0, 10), .inr (1, 4), .inr (0, 4), .inr (0, 4), .inr (0, 160)]
def g_sh (k : Nat) : (Nat × List Nat) ⊕ (Nat × Nat) := g_tab.getD k (.inr (0, 0))
def g_tr (ad : Nat → Nat) : Value → Value
  | .ref k => .ref (ad k)
  | v => v
def g_lv (σ : gS) (k j : Nat) : Nat → Value
  | 0 => .int (σ k j)
  | 1 => .long (σ k j).toInt64
  | 2 => if σ k j = -1 then .null else .ref (45 + 3 * (σ k j).toNatClampNeg)
  | n + 3 => .ref n
def g_fs (ad : Nat → Nat) (σ : gS) (k : Nat) : Nat → List Nat → List Value
  | _, [] => []
  | j, t :: ts => g_tr ad (g_lv σ k j t) :: g_fs ad σ k (j + 1) ts
def g_el (ad : Nat → Nat) (a : Nat) (f : Nat → Int32) : (Nat → Int32) ⊕ (Nat → Int64) ⊕ (Nat → UInt32) ⊕ (Nat → UInt64) ⊕ (Nat → Option Nat) := match a with
  | 0 => .inl f
  | 1 => .inl f
  | 2 => .inr (.inr (.inr (.inr (fun j => some (ad (45 + 3 * j))))))
  | _ => .inr (.inr (.inr (.inr (fun j => some (ad (37 + 2 * j))))))
def g_en (G : gG) (σ : gS) (k : Nat) : va_E := match g_sh k with
  | .inl q => .inr (q.1, g_fs G.1 σ k 0 q.2)
  | .inr q => .inl (G.2.2 q.1, q.2, g_el G.1 q.1 (σ k))
def g_wl (G : gG) (K : List Nat) (σ : gS) : va_W := K.map fun k => (G.1 k, g_en G σ k)
def g_tys (G : gG) : List (ClassId × FieldType) := [(G.2.2 0, .int), (G.2.2 1, .boolean), (G.2.2 2, .object "UnderTheRoof$Text"), (G.2.2 3, .object "UnderTheRoof$Sheet")]
def g_D (G : gG) (K : List Nat) : Prop := K.Nodup ∧ ∀ i ∈ K, ∀ j ∈ K, G.1 i = G.1 j → i = j
def g_A (G : gG) (K : List Nat) (sz : Nat) : Nat → Prop := fun q => (∃ k ∈ K, G.1 k = q) ∨ sz ≤ q
def g_up (σ : gS) (k j : Nat) (v : Int32) : gS := fun a => if a = k then (fun b => if b = j then v else σ k b) else σ a
theorem g_up_same (σ : gS) (k j : Nat) (v : Int32) : g_up σ k j v k = (fun b => if b = j then v else σ k b) := by simp [g_up]
theorem g_up_ne {σ : gS} {k j a : Nat} {v : Int32} (h : a ≠ k) : g_up σ k j v a = σ a := by simp [g_up, h]
def g_B : List Cond := lw_tbl.filter goodWord
theorem g_B_sub : ∀ w ∈ g_B, w ∈ lw_tbl := fun w h => (List.mem_filter.mp h).1
theorem g_B_in {w : Cond} (h : w ∈ lw_tbl) (g : goodWord w = true) : w ∈ g_B := List.mem_filter.mpr ⟨h, g⟩
theorem g_B_good : GoodIn g_B g_B := fun w h => ⟨h, good_of_word (List.mem_filter.mp h).2⟩
/-! what doesn't change: nest words, String constants, statics -/
def g_nest : List (String × Nat × MethodName × String) := [("UnderTheRoof", 11, ⟨"UnderTheRoof$House", "<init>", "()V"⟩, "UnderTheRoof"), ("UnderTheRoof", 21, ⟨"UnderTheRoof$Reader", "<init>", "()V"⟩, "UnderTheRoof"), ("UnderTheRoof", 38, ⟨"UnderTheRoof$Text", "<init>", "()V"⟩, "UnderTheRoof"), ("UnderTheRoof", 39, ⟨"UnderTheRoof$Sheet", "<init>", "()V"⟩, "UnderTheRoof"), ("UnderTheRoof$Reader", 21, ⟨"UnderTheRoof", "isIn", "(III)Z"⟩, "UnderTheRoof"), ("UnderTheRoof$Showers", 57, ⟨"UnderTheRoof", "isPlace", "(I)Z"⟩, "UnderTheRoof"), ("UnderTheRoof$Day", 139, ⟨"UnderTheRoof", "isPlace", "(I)Z"⟩, "UnderTheRoof"), ("UnderTheRoof$Day", 146, ⟨"UnderTheRoof", "isIn", "(III)Z"⟩, "UnderTheRoof"), ("UnderTheRoof$Day", 91, ⟨"UnderTheRoof", "costOf", "(J)I"⟩, "UnderTheRoof"), ("UnderTheRoof$Showers", 48, ⟨"UnderTheRoof", "isIn", "(III)Z"⟩, "UnderTheRoof"), ("UnderTheRoof$Sheet", 22, ⟨"UnderTheRoof", "isIn", "(III)Z"⟩, "UnderTheRoof")]
theorem g_nest_in : ∀ q ∈ g_nest, Cond.methodLinkNest q.1 q.2.1 q.2.2.1 q.2.2.2 ∈ lw_tbl := by decide +kernel
def g_slen : List Nat := [46, 60, 8]
def g_sbyt : List (List Int32) := [[102, 97, 108, 108, 115, 32, 114, 97, 116, 101, 32, 42, 32, 114, 97, 105, 110, 32, 59, 32, 104, 97, 114, 109, 115, 32, 115, 105, 122, 101, 32, 42, 32, 50, 32, 59, 32, 119, 97, 107, 101, 115, 32, 53, 32, 59], [114, 97, 105, 110, 32, 104, 111, 117, 114, 32, 112, 108, 97, 99, 101, 32, 114, 97, 116, 101, 32, 115, 105, 122, 101, 32, 103, 111, 110, 101, 32, 102, 97, 108, 108, 115, 32, 104, 97, 114, 109, 115, 32, 119, 97, 107, 101, 115, 32, 111, 114, 32, 97, 110, 100, 32, 110, 111, 116, 32], [40, 41, 59, 43, 45, 42, 60, 61]]
def g_under : List Int32 := [-1, 0, 0, 1, 2, 1]
/-- what lies outside the worlds and stays: Strings (cells 100, 101, 102; their bytes 103, 104, 105), the class's table of kinds (106), two statics of the JDK's (107: the formatter, if there is one) -/
def g_E (ad : Nat → Nat) (A : Nat → Prop) (U : State) (H : Heap) : Prop :=
  (∀ q ∈ g_nest, va_Nw (.methodLinkNest q.1 q.2.1 q.2.2.1 q.2.2.2) U) ∧
  (vk_S 3 g_slen g_sbyt (fun i => ad (100 + i)) (fun i => ad (103 + i)) A U H ∧ vk_R RX7 40 "falls rate * rain ; harms size * 2 ; wakes 5 ;" (ad 100) U ∧ vk_R RX2 108 "rain hour place rate size gone falls harms wakes or and not " (ad 101) U ∧ vk_R RX2 101 "();+-*<=" (ad 102) U) ∧
  (va_Z "UnderTheRoof" "UNDER" "[I" (.ref (ad 106)) A U H ∧ va_T .int (ad 106) 6 (fun j => .int (g_under.getD j 0)) A U H) ∧
  va_Z "java/lang/String" "COMPACT_STRINGS" "Z" (.int 1) A U H ∧
  (va_Z "jdk/internal/util/Preconditions" "SIOOBE_FORMATTER" "Ljava/util/function/BiFunction;" .null A U H ∨ va_Z "jdk/internal/util/Preconditions" "SIOOBE_FORMATTER" "Ljava/util/function/BiFunction;" (.ref (ad 107)) A U H)
theorem g_E.warm {ad : Nat → Nat} {A : Nat → Prop} {u U : State} {H : Heap} (hW : u.WarmedH U.vm) (h : g_E ad A u H) : g_E ad A U H := by
  obtain ⟨h1, ⟨s1, s2, s3, s4⟩, ⟨z1, z2⟩, h4, h5⟩ := h
  exact ⟨fun q hq => (h1 q hq).warmM hW, ⟨s1.moved hW.alike, s2.warm hW, s3.warm hW, s4.warm hW⟩, ⟨z1.moved hW.alike, z2.moved hW.alike⟩, h4.moved hW.alike, h5.imp (fun z => z.moved hW.alike) (fun z => z.moved hW.alike)⟩
theorem g_E.same {ad : Nat → Nat} {A : Nat → Prop} {u U : State} {H : Heap} (hv : U.vm = u.vm) (h : g_E ad A u H) : g_E ad A U H := by
  have hal : u.vm.Alike U.vm := by rw [hv]; exact Vm.Alike.refl _
  obtain ⟨h1, ⟨s1, s2, s3, s4⟩, ⟨z1, z2⟩, h4, h5⟩ := h
  exact ⟨fun q hq => (h1 q hq).same rfl hv.symm, ⟨s1.moved hal, s2.same hv, s3.same hv, s4.same hv⟩, ⟨z1.moved hal, z2.moved hal⟩, h4.moved hal, h5.imp (fun z => z.moved hal) (fun z => z.moved hal)⟩
theorem g_E.kept {ad : Nat → Nat} {A B : Nat → Prop} {U : State} {H H1 : Heap} (h : g_E ad A U H) (hq : ∀ a : Nat, a < H.size → ¬ A a → H1[a]? = H[a]?) (hAB : ∀ q, B q → A q) : g_E ad B U H1 := by
  obtain ⟨h1, ⟨s1, s2, s3, s4⟩, ⟨z1, z2⟩, h4, h5⟩ := h
  exact ⟨h1, ⟨(s1.kept hq).narrow hAB, s2, s3, s4⟩, ⟨(z1.kept hq).narrow hAB, (z2.kept hq).narrow hAB⟩, (h4.kept hq).narrow hAB, h5.imp (fun z => (z.kept hq).narrow hAB) (fun z => (z.kept hq).narrow hAB)⟩
/-! contracts over the logical memory -/
def g_rm (h : Nat) : Room := { frames := h, cells := 0, slots := 0, locals := 64 * h }
def g_W (G : gG) (K : List Nat) (σ : gS) (sz : Nat) (U : State) : Prop := U.heap.size = sz ∧ va_P G.2.1 g_cl (g_wl G K σ) U.heap ∧ va_K G.2.1 g_cl (g_tys G) U ∧ g_E G.1 (g_A G K sz) U U.heap
def g_Q (G : gG) (K : List Nat) (Qp : Option Value → gS → Prop) (sz : Nat) : Array Value → State → Outcome → State → Prop := fun _ st oc t =>
  (∃ (rv : Option Value) (σ' : gS), oc = .returned (rv.map (g_tr G.1)) ∧ Qp rv σ' ∧ va_P G.2.1 g_cl (g_wl G K σ') t.heap) ∧ va_F (g_A G K sz) st t
/-- a method's contract: from any memory σ of any cells K among which those of KR are, with these arguments (references are cells' numbers), it returns, with Qp -/
def g_Met (y : MethodName) (b : ByteArray) (n : Nat) (ret : Option FieldType) (h : Nat) (KR : Nat → Bool) (av : List Value) (σ : gS) (Qp : Option Value → gS → Prop) : Prop :=
  ∀ (l : Launch) (G : gG) (K : List Nat) (sz : Nat), g_D G K → (∀ k, KR k = true → k ∈ K) → Met l y (.code y b n ret :: g_B) (g_rm h) (va_Pc (av.map (g_tr G.1)) (g_W G K σ sz)) (g_Q G K Qp sz) 0 0 (g_A G K sz)
theorem g_blind {G : gG} {K : List Nat} {σ : gS} {sz : Nat} {av : List Value} : FrameBlind (va_Pc av (g_W G K σ sz)) := by
  intro a U g mk q
  obtain ⟨q0, q1, qP, qK, qE⟩ := q
  exact ⟨q0, q1, qP, va_K.moved (u := U) (U := U.calling g mk a) (Vm.Alike.refl U.vm) qK, g_E.same (u := U) (U := U.calling g mk a) rfl qE⟩
def g_lf (ad : Nat → Nat) : Nat → gL → List (Nat × Value)
  | _, [] => []
  | i, none :: t => g_lf ad (i + 1) t
  | i, some v :: t => (i, g_tr ad v) :: g_lf ad (i + 1) t
theorem g_lf_mem {ad : Nat → Nat} : ∀ {L : gL} {i j : Nat} {w : Value}, (j, w) ∈ g_lf ad i L ↔ ∃ (k : Nat) (v : Value), L[k]? = some (some v) ∧ j = i + k ∧ w = g_tr ad v := by
  intro L
  induction L with
  | nil => intro i j w; simp [g_lf]
  | cons x t ih =>
    intro i j w
    cases x with
    | none =>
      rw [g_lf, ih]
      constructor
      · rintro ⟨k, v, h1, h2, h3⟩
        exact ⟨k + 1, v, by simpa using h1, by omega, h3⟩
      · rintro ⟨k, v, h1, h2, h3⟩
        cases k with
        | zero => simp at h1
        | succ k => exact ⟨k, v, by simpa using h1, by omega, h3⟩
    | some x =>
      rw [g_lf, List.mem_cons, ih]
      constructor
      · rintro (h | ⟨k, v, h1, h2, h3⟩)
        · cases h
          exact ⟨0, x, by simp, by omega, rfl⟩
        · exact ⟨k + 1, v, by simpa using h1, by omega, h3⟩
      · rintro ⟨k, v, h1, h2, h3⟩
        cases k with
        | zero =>
          left
          simp at h1
          subst h1
          rw [h2, h3]
          rfl
        | succ k => exact Or.inr ⟨k, v, by simpa using h1, by omega, h3⟩
theorem g_tr_cat (ad : Nat → Nat) (v : Value) : (g_tr ad v).category = v.category := by cases v <;> rfl
def g_has (ad : Nat → Nat) (ls : Array Slot) (nL : Nat) (L : gL) : Prop := L.length = nL ∧ lv_has ls nL (g_lf ad 0 L)
theorem g_has.at {ad : Nat → Nat} {ls : Array Slot} {nL : Nat} {L : gL} (h : g_has ad ls nL L) {i : Nat} {v : Value} (hv : L[i]? = some (some v)) : ls[i]? = some (.val (g_tr ad v)) :=
  h.2.2.2 (i, g_tr ad v) (g_lf_mem.mpr ⟨i, v, hv, by omega, rfl⟩)
def gC : gX → gG → List Nat → (Nat → Bool) → Nat → ByteArray → String → Option FieldType → Nat → Prop
  | (p, e, R, s, m, args, below, meth, c, l), G, K, KR, nL, cc, own, ret, h => p.tables.exec = Jvm.exec ∧ c.code = cc ∧ c.maxLocals = nL ∧ meth.sig.returnType = ret ∧ s.vm.findClass own = some m.cls ∧ (∀ w ∈ g_B, w.before args s = true) ∧ va_K G.2.1 g_cl (g_tys G) s ∧ meth.locks = false ∧ R = g_rm h ∧ g_D G K ∧ (∀ k, KR k = true → k ∈ K) ∧ g_E G.1 (g_A G K s.heap.size) s s.heap
/-- THE JUDGEMENT: the machine in this method, memory σ, locals L, operand stack st, at pc, comes to the method's end with Qp -/
def gV : gX → gG → List Nat → Nat → (Option Value → gS → Prop) → gS → gL → List Value → Nat → Prop
  | (p, e, R, s, m, args, below, meth, c, l), G, K, nL, Qp, σ, L, st, pc => ∀ (H : Heap) (locs : List Loc) (ls : Array Slot), va_P G.2.1 g_cl (g_wl G K σ) H → va_S (g_A G K s.heap.size) s.heap H locs → g_has G.1 ls nL L →
    W p l e R s m args below meth c H locs 0 0 (MQ below (g_Q G K Qp s.heap.size) args s 0 0 (g_A G K s.heap.size)) (F0 m pc ls (st.map (g_tr G.1)))
theorem g_D.vD {G : gG} {K : List Nat} (h : g_D G K) (σ : gS) (sz : Nat) : va_D (g_A G K sz) (g_wl G K σ) := by
  refine ⟨fun i j p q hi hj e => ?_, fun k q hk => ?_⟩
  · simp only [g_wl, List.getElem?_map, Option.map_eq_some_iff] at hi hj
    obtain ⟨a, ha, rfl⟩ := hi
    obtain ⟨b, hb, rfl⟩ := hj
    have hab := h.2 a (List.mem_of_getElem? ha) b (List.mem_of_getElem? hb) e
    subst hab
    exact (List.getElem?_inj (List.getElem?_eq_some_iff.mp ha).1 h.1).mp (ha.trans hb.symm)
  · simp only [g_wl, List.getElem?_map, Option.map_eq_some_iff] at hk
    obtain ⟨a, ha, rfl⟩ := hk
    exact Or.inl ⟨a, List.mem_of_getElem? ha, rfl⟩
theorem g_at {G : gG} {K : List Nat} {σ : gS} {k : Nat} (hk : k ∈ K) : ∃ q0 : Nat, K[q0]? = some k ∧ (g_wl G K σ)[q0]? = some (G.1 k, g_en G σ k) := by
  obtain ⟨q0, h⟩ := List.getElem?_of_mem hk
  exact ⟨q0, h, by simp [g_wl, h]⟩
/-- a cell is changed: the world of the changed memory -/
theorem g_wl_set {G : gG} {K : List Nat} {σ σ' : gS} {k q0 : Nat} (hD : g_D G K) (hk : K[q0]? = some k) (ho : ∀ a, a ≠ k → σ' a = σ a) : (g_wl G K σ).set q0 (G.1 k, g_en G σ' k) = g_wl G K σ' := by
  apply List.ext_getElem?
  intro i
  rw [List.getElem?_set]
  by_cases h : q0 = i
  · subst h
    have hl := (List.getElem?_eq_some_iff.mp hk).1
    simp [g_wl, hl, hk]
    exact ⟨by rw [(List.getElem?_eq_some_iff.mp hk).2], by rw [(List.getElem?_eq_some_iff.mp hk).2]⟩
  · rw [if_neg h]
    simp only [g_wl, List.getElem?_map]
    cases hi : K[i]? with
    | none => rfl
    | some a =>
      have hne : a ≠ k := by
        intro e
        subst e
        exact h ((List.getElem?_inj (List.getElem?_eq_some_iff.mp hk).1 hD.1).mp (hk.trans hi.symm))
      simp only [Option.map_some, g_en, g_lv]
      have e1 := ho a hne
      congr 2
      cases g_sh a with
      | inl q =>
        simp only
        congr 2
        have : ∀ (ts : List Nat) (j : Nat), g_fs G.1 σ a j ts = g_fs G.1 σ' a j ts := by
          intro ts
          induction ts with
          | nil => intro j; rfl
          | cons t ts ih =>
            intro j
            simp only [g_fs]
            rw [ih]
            congr 2
            match t with
            | 0 => simp [g_lv, e1]
            | 1 => simp [g_lv, e1]
            | 2 => simp [g_lv, e1]
            | n + 3 => rfl
        exact this q.2 0
      | inr q => simp only [e1]
