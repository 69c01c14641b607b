/-! THE REFERENCE'S READER: words, signs, faults -/
def m_wl (l : Nat → Int32) (S A : Nat) : List Int32 := (List.range (A - S)).map (fun i => l (S + i))
theorem q_at_iff (l : Nat → Int32) : ∀ (w : List Int32) (i : Nat), q_at l w i = true ↔ (List.range w.length).map (fun j => l (i + j)) = w
  | [], _ => ⟨fun _ => rfl, fun _ => rfl⟩
  | c :: w, i => by
    rw [q_at, Bool.and_eq_true, decide_eq_true_eq, q_at_iff l w (i + 1), List.length_cons, List.range_succ_eq_map, List.map_cons, List.map_map, List.cons.injEq]
    have : ((fun j => l (i + j)) ∘ Nat.succ) = fun j => l (i + 1 + j) := by
      funext j
      show l (i + (j + 1)) = l (i + 1 + j)
      congr 1
      omega
    rw [this]
    exact Iff.rfl
theorem q_is_iff (l : Nat → Int32) (S A : Nat) (w : List Int32) : q_is l S A w = true ↔ m_wl l S A = w := by
  rw [q_is, Bool.and_eq_true, decide_eq_true_eq, q_at_iff]
  constructor
  · rintro ⟨h1, h2⟩
    rw [m_wl, h1]
    exact h2
  · intro h
    have h1 : A - S = w.length := by
      rw [← h, m_wl, List.length_map, List.length_range]
    refine ⟨h1, ?_⟩
    rw [← h1]
    exact h
def m_wcL (L : List Int32) : List (List Int32) → Nat → Int32 → Int32
  | [], _, t => t
  | w :: ws, j, t => m_wcL L ws (j + 1) (if L = w then nI (97 + j) else t)
theorem q_wcL (l : Nat → Int32) (S A : Nat) : ∀ (ws : List (List Int32)) (j : Nat) (t : Int32), q_wc l S A ws j t = m_wcL (m_wl l S A) ws j t
  | [], _, _ => rfl
  | w :: ws, j, t => by
    rw [q_wc, m_wcL, q_wcL l S A ws (j + 1)]
    congr 1
    by_cases h : m_wl l S A = w
    · rw [if_pos h, if_pos ((q_is_iff l S A w).mpr h)]
    · rw [if_neg h, if_neg (fun z => h ((q_is_iff l S A w).mp z))]
theorem m_wcL_no {L : List Int32} : ∀ {ws : List (List Int32)} {j : Nat} {t : Int32}, (∀ w ∈ ws, L ≠ w) → m_wcL L ws j t = t
  | [], _, _, _ => rfl
  | w :: ws, j, t, h => by
    rw [m_wcL, if_neg (h w List.mem_cons_self)]
    exact m_wcL_no (fun w' h' => h w' (List.mem_cons_of_mem _ h'))
theorem m_wc_all : ∀ k : Fin 12, m_wcL (q_words.getD k.val []) q_words 0 2 = nI (97 + k.val) := by decide +kernel
theorem m_wc_cases (L : List Int32) : (∃ k, k < 12 ∧ L = q_words.getD k [] ∧ m_wcL L q_words 0 2 = nI (97 + k)) ∨ ((∀ w ∈ q_words, L ≠ w) ∧ m_wcL L q_words 0 2 = 2) := by
  by_cases h : ∃ k, k < 12 ∧ L = q_words.getD k []
  · obtain ⟨k, hk, e⟩ := h
    left
    refine ⟨k, hk, e, ?_⟩
    rw [e]
    exact m_wc_all ⟨k, hk⟩
  · right
    have hn : ∀ w ∈ q_words, L ≠ w := by
      intro w hw e
      obtain ⟨k, hk, e2⟩ := List.getElem_of_mem hw
      have hk12 : k < 12 := hk
      refine h ⟨k, hk12, ?_⟩
      rw [e, ← e2]
      simp [List.getD_eq_getElem?_getD, hk]
    exact ⟨hn, m_wcL_no hn⟩
theorem m_wc_iff (L : List Int32) {j : Nat} (hj : j < 12) : m_wcL L q_words 0 2 = nI (97 + j) ↔ L = q_words.getD j [] := by
  constructor
  · intro h
    rcases m_wc_cases L with ⟨k, hk, e, e2⟩ | ⟨-, e2⟩
    · rw [e2, n_eq (by omega) (by omega)] at h
      have : k = j := by omega
      subst this
      exact e
    · rw [e2] at h
      exact absurd ((n_eq (a := 2) (b := 97 + j) (by omega) (by omega)).mp h) (by omega)
  · intro h
    rw [h]
    exact m_wc_all ⟨j, hj⟩
theorem m_wc_val (L : List Int32) : m_wcL L q_words 0 2 = 2 ∨ ∃ k, k < 12 ∧ m_wcL L q_words 0 2 = nI (97 + k) := by
  rcases m_wc_cases L with ⟨k, hk, -, e2⟩ | ⟨-, e2⟩
  · exact Or.inr ⟨k, hk, e2⟩
  · exact Or.inl e2
/-- the reader's memory and the pure state -/
def g_mx (b : gF) (n t : Nat) (nm : gF) (s : gS) (p : pS) : Prop := mb b n t nm s ∧ (s 63 32 = nI (p_op p) ∧ p_op p ≤ 5) ∧ (p_fa p = none → s 63 33 = 0 ∧ mtk (q_l b n) n s (p_tk p, p_num p, p_st p, p_af p)) ∧ ∀ f, p_fa p = some f → s 63 33 = 1 ∧ s 63 34 = nI f
theorem g_mx.zup32 {b nm : gF} {n t : Nat} {s : gS} {p : pS} (h : g_mx b n t nm s p) {k : Nat} (hk : k ≤ 5) {v : Int32} (hv : v = nI k) : g_mx b n t nm (g_up s 63 32 v) (p_open p k) := by
  subst hv
  obtain ⟨h1, h2, h3, h4⟩ := h
  refine ⟨h1.zup _ (by omega), ⟨u_eq _ _ _ _, hk⟩, fun z => ?_, fun f z => ?_⟩
  · obtain ⟨a1, a2⟩ := h3 z
    refine ⟨by rw [u_ne (by decide)]; exact a1, ?_⟩
    unfold mtk at a2 ⊢
    simp only [u_ne (show 30 ≠ 32 by decide), u_ne (show 29 ≠ 32 by decide), u_ne (show 28 ≠ 32 by decide), u_ne (show 31 ≠ 32 by decide)]
    exact a2
  · obtain ⟨a1, a2⟩ := h4 f z
    exact ⟨by rw [u_ne (by decide)]; exact a1, by rw [u_ne (by decide)]; exact a2⟩
theorem k_fail {h : Nat} (hh : 6 ≤ h) (σ : gS) {b nm : gF} {n t : Nat} {p : pS} (hx : g_mx b n t nm σ p) : g_Met yX8_fail cX8_fail 1 none h kM [.ref 63] σ (fun rv s => rv = none ∧ g_mx b n t nm s (p_fail p) ∧ mrf σ s) := by
  obtain ⟨h1, h2, h3, h4⟩ := hx
  have hF : ¬ p_fa (p_fail p) = none := by
    show ¬ (match p_fa p with | none => some (p_st p) | some f => some f) = none
    cases p_fa p <;> simp
  refine w_X8_fail hh ?_
  unfold P_X8_fail
  cases hf : p_fa p with
  | none =>
    obtain ⟨a1, a2⟩ := h3 hf
    refine ⟨fun _ => ⟨rfl, ⟨(h1.zup _ (by omega)).zup _ (by omega), ⟨by rw [u_ne (by decide), u_ne (by decide)]; exact h2.1, h2.2⟩, fun z => absurd z hF, fun f z => ?_⟩, ((mrf.zrefl σ).zup _ (by omega)).zup _ (by omega)⟩, fun z => absurd a1 z⟩
    have z' : (match p_fa p with | none => some (p_st p) | some f => some f) = some f := z
    rw [hf] at z'
    cases z'
    exact ⟨by rw [u_ne (by decide), u_eq], by rw [u_eq]; exact a2.1.1⟩
  | some g =>
    obtain ⟨a1, a2⟩ := h4 g hf
    refine ⟨fun z => absurd (a1.symm.trans z) (by decide), fun _ => ⟨rfl, ⟨h1, h2, fun z => absurd z hF, fun f z => ?_⟩, mrf.zrefl σ⟩⟩
    have z' : (match p_fa p with | none => some (p_st p) | some f => some f) = some f := z
    rw [hf] at z'
    cases z'
    exact ⟨a1, a2⟩
theorem q_sign_word {L : List Int32} : ¬ q_sign (m_wcL L q_words 0 2) = true := by
  rcases m_wc_val L with e | ⟨k, hk, e⟩
  · rw [e]; decide
  · rw [e]
    have H : ∀ k : Fin 12, ¬ q_sign (nI (97 + k.val)) = true := by decide
    exact H ⟨k, hk⟩
theorem k_isSign {h : Nat} (hh : 6 ≤ h) (σ : gS) {b nm : gF} {n t : Nat} {p : pS} (hx : g_mx b n t nm σ p) (hp : p_ok n p) {sg : Int32} (hs : q_sign sg = true) : g_Met yX8_isSign cX8_isSign 2 (some .boolean) h kM [.ref 63, .int sg] σ (fun rv s => rv = some (.int (if p_tk p = sg then 1 else 0)) ∧ s = σ) := by
  obtain ⟨h1, h2, h3, h4⟩ := hx
  refine w_X8_isSign hh ?_
  unfold P_X8_isSign
  cases hf : p_fa p with
  | some g =>
    obtain ⟨a1, a2⟩ := h4 g hf
    have e2 : p_tk p = 2 := hp.2 (by rw [hf]; exact fun z => by cases z)
    refine ⟨fun z => absurd (a1.symm.trans z) (by decide), fun _ => ⟨?_, rfl⟩⟩
    rw [e2, if_neg (fun z => by rw [← z] at hs; exact absurd hs (by decide))]
  | none =>
    obtain ⟨a1, -, a2⟩ := h3 hf
    refine ⟨fun _ => ⟨fun k3 => ⟨?_, rfl⟩, fun k3 => ⟨?_, rfl⟩⟩, fun z => absurd a1 z⟩
    · rcases a2 with ⟨-, z⟩ | ⟨z, -⟩ | ⟨z, -⟩ | ⟨-, b1, b2, b3⟩ | ⟨z, -⟩
      · rw [z] at k3; exact absurd k3 (by decide)
      · rw [z] at k3; exact absurd k3 (by decide)
      · rw [z] at k3; exact absurd k3 (by decide)
      · rw [b2]
        by_cases e : p_tk p = sg
        · rw [if_pos e, if_pos (by rw [show (p_tk p, p_num p, p_st p, p_af p).1 = p_tk p from rfl, e])]
        · rw [if_neg e, if_neg (fun z => e (by
            have := congrArg Int64.toInt z
            rw [Int32.toInt_toInt64, Int32.toInt_toInt64] at this
            exact Int32.toInt_inj.mp this))]
      · rw [z] at k3; exact absurd k3 (by decide)
    · have e : ¬ p_tk p = sg := by
        intro e
        rcases a2 with ⟨z, -⟩ | ⟨-, -, -, -, z⟩ | ⟨-, z, -⟩ | ⟨z, -⟩ | ⟨-, z⟩
        · have z' : p_tk p = 1 := z
          rw [← e, z'] at hs; exact absurd hs (by decide)
        · have z' : p_tk p = m_wcL (m_wl (q_l b n) (p_st p) (p_af p)) q_words 0 2 := z.trans (q_wcL _ _ _ _ _ _)
          rw [← e, z'] at hs; exact absurd hs q_sign_word
        · have z' : p_tk p = 3 := z
          rw [← e, z'] at hs; exact absurd hs (by decide)
        · exact k3 z
        · have z' : p_tk p = 2 := z
          rw [← e, z'] at hs; exact absurd hs (by decide)
      rw [if_neg e]
theorem g_mx.at {b nm : gF} {n t : Nat} {s : gS} {p : pS} (h : g_mx b n t nm s p) (hp : p_ok n p) (h1 : ¬ p_tk p = 1) (h2 : ¬ p_tk p = 2) : p_fa p = none ∧ s 63 28 = nI (p_af p) ∧ p_af p ≤ n := by
  have h0 : p_fa p = none := Decidable.of_not_not (fun z => h2 (hp.2 z))
  obtain ⟨-, ⟨-, -, a3⟩, a2⟩ := h.2.2.1 h0
  refine ⟨h0, ?_, a3⟩
  rcases a2 with ⟨z, -⟩ | ⟨-, z, -⟩ | ⟨-, -, -, z, -⟩ | ⟨-, -, -, z⟩ | ⟨-, z⟩
  · exact absurd z h1
  · exact z
  · exact z
  · exact z
  · exact absurd z h2
theorem k_nextx {h : Nat} (hh : 8 ≤ h) (σ : gS) {b nm : gF} {n t : Nat} {p : pS} (hx : g_mx b n t nm σ p) (hp : p_ok n p) (h1 : ¬ p_tk p = 1) (h2 : ¬ p_tk p = 2) : g_Met yX8_next cX8_next 3 none h kM [.ref 63] σ (fun rv s => rv = none ∧ g_mx b n t nm s (p_next (q_l b n) p) ∧ mrf σ s) := by
  obtain ⟨h0, ha, hA⟩ := hx.at hp h1 h2
  refine k_mono (k_M_next hh σ hx.1 ha hA) (fun rv s hq => ?_)
  obtain ⟨rfl, g1, g2, g3, g4, g5⟩ := hq
  exact ⟨rfl, ⟨hx.1.zfr g2, ⟨g3.trans hx.2.1.1, hx.2.1.2⟩, fun _ => ⟨g4.trans (hx.2.2.1 h0).1, g1⟩, fun f z => by have z' : p_fa p = some f := z; rw [h0] at z'; cases z'⟩, g2⟩
theorem k_opens {h : Nat} (hh : 10 ≤ h) (σ : gS) {b nm : gF} {n t : Nat} {p : pS} (hx : g_mx b n t nm σ p) (hp : p_ok n p) (h1 : ¬ p_tk p = 1) (h2 : ¬ p_tk p = 2) : g_Met yX8_opens cX8_opens 1 (some .boolean) h kM [.ref 63] σ (fun rv s => rv = some (.int (if p_op p < 5 then 1 else 0)) ∧ g_mx b n t nm s (if p_op p < 5 then p_next (q_l b n) (p_open p (p_op p + 1)) else p_fail p) ∧ mrf σ s) := by
  have ho := hx.2.1
  refine w_X8_opens (by omega) ?_
  unfold P_X8_opens
  rw [ho.1]
  refine ⟨fun g => ?_, fun g => ?_⟩
  · have e5 : p_op p = 5 := (n_eq (b := 5) (by omega) (by omega)).mp g
    have hn : ¬ p_op p < 5 := by omega
    rw [if_neg hn, if_neg hn]
    refine g_call.i (k_fail (h := 6) (by omega) σ hx) (by omega) (fun rv s hq => ?_)
    obtain ⟨rfl, g1, g2⟩ := hq
    exact ⟨rfl, rfl, g1, g2⟩
  · have hlt : p_op p < 5 := by
      rcases Nat.lt_or_ge (p_op p) 5 with z | z
      · exact z
      · have : p_op p = 5 := by omega
        exact absurd ((n_eq (b := 5) (by omega) (by omega)).mpr this) g
    rw [if_pos hlt, if_pos hlt]
    have hx2 := hx.zup32 (k := p_op p + 1) (by omega) (v := nI (p_op p) + 1) (nI_1 _)
    refine g_call.i (k_nextx (h := 8) (by omega) _ hx2 (p_open_ok hp _) h1 h2) (by omega) (fun rv s hq => ?_)
    obtain ⟨rfl, g1, g2⟩ := hq
    exact ⟨rfl, rfl, g1, ((mrf.zrefl σ).zup _ (by omega)).ztrans g2⟩
theorem m_wl_get (l : Nat → Int32) (S A i : Nat) : (m_wl l S A).getD i 0 = if S + i < A then l (S + i) else 0 := by
  unfold m_wl
  rw [List.getD_eq_getElem?_getD, List.getElem?_map]
  by_cases h : i < A - S
  · rw [List.getElem?_range h, if_pos (by omega)]
    rfl
  · rw [if_neg (by omega), List.getElem?_eq_none (by rw [List.length_range]; omega)]
    rfl
theorem k_isLetter {h : Nat} (hh : 8 ≤ h) (σ : gS) {b nm : gF} {n t S A : Nat} (hb : mb b n t nm σ) (hS : σ 63 30 = nI S) (hA : σ 63 28 = nI A) (hSn : S ≤ n) (hAn : A ≤ n) {i : Nat} (hi : i ≤ 8) {x : Int32} (hxi : x = nI i) (c : Int32) : g_Met yX8_isLetter cX8_isLetter 3 (some .boolean) h kM [.ref 63, .int x, .int c] σ (fun rv s => rv = some (.int (if (m_wl (q_l b n) S A).getD i 0 = c then 1 else 0)) ∧ s = σ) := by
  subst hxi
  have hn := hb.1.2.1
  refine w_X8_isLetter (by omega) ?_
  unfold P_X8_isLetter
  rw [hS, hA, nI_add, m_wl_get]
  refine ⟨fun g => ?_, fun g => ⟨?_, rfl⟩⟩
  · have hlt := (n_lt (by omega) (by omega)).mp g
    refine g_call.i (k_byteAt (h := 6) (by omega) σ hb (i := S + i) (by omega)) (by omega) (fun rv s hq => ?_)
    obtain ⟨rfl, rfl⟩ := hq
    exact ⟨_, rfl, by rw [if_pos hlt], rfl⟩
  · have hlt : ¬ S + i < A := fun z => g ((n_lt (by omega) (by omega)).mpr z)
    rw [if_neg hlt]
    by_cases e : c = 0
    · rw [if_pos e, if_pos e.symm]
    · rw [if_neg e, if_neg (fun z => e z.symm)]
theorem m_weq {L w : List Int32} (hL : ∀ i, i < L.length → ¬ L.getD i 0 = 0) (hw : ∀ i, i < w.length → ¬ w.getD i 0 = 0) (hL8 : L.length ≤ 8) (hw8 : w.length ≤ 8) (h : ∀ i, i < 8 → L.getD i 0 = w.getD i 0) : L = w := by
  have out : ∀ (M : List Int32) (i : Nat), M.length ≤ i → M.getD i 0 = 0 := fun M i hi => by
    rw [List.getD_eq_getElem?_getD, List.getElem?_eq_none hi]
    rfl
  have e : L.length = w.length := by
    rcases Nat.lt_trichotomy L.length w.length with z | z | z
    · exfalso
      refine hw L.length z ?_
      rw [← h L.length (by omega)]
      exact out L _ (Nat.le_refl _)
    · exact z
    · exfalso
      refine hL w.length z ?_
      rw [h w.length (by omega)]
      exact out w _ (Nat.le_refl _)
  refine List.ext_getElem e (fun i h1 h2 => ?_)
  have := h i (by omega)
  rw [List.getD_eq_getElem?_getD, List.getD_eq_getElem?_getD, List.getElem?_eq_getElem h1, List.getElem?_eq_getElem h2] at this
  exact this
theorem q_words_ok : ∀ k : Fin 12, (q_words.getD k.val []).length ≤ 8 ∧ ∀ i : Fin 8, i.val < (q_words.getD k.val []).length → ¬ (q_words.getD k.val []).getD i.val 0 = 0 := by decide +kernel
theorem k_isWord {h : Nat} (hh : 10 ≤ h) (σ : gS) {b nm : gF} {n t : Nat} {p : pS} (hx : g_mx b n t nm σ p) (hp : p_ok n p) {j : Nat} (hj : j < 12) {a0 a1 a2 a3 a4 a5 a6 a7 : Int32} (e0 : (q_words.getD j []).getD 0 0 = a0) (e1 : (q_words.getD j []).getD 1 0 = a1) (e2 : (q_words.getD j []).getD 2 0 = a2) (e3 : (q_words.getD j []).getD 3 0 = a3) (e4 : (q_words.getD j []).getD 4 0 = a4) (e5 : (q_words.getD j []).getD 5 0 = a5) (e6 : (q_words.getD j []).getD 6 0 = a6) (e7 : (q_words.getD j []).getD 7 0 = a7) : g_Met yX8_isWord cX8_isWord 9 (some .boolean) h kM [.ref 63, .int a0, .int a1, .int a2, .int a3, .int a4, .int a5, .int a6, .int a7] σ (fun rv s => rv = some (.int (if p_tk p = nI (97 + j) then 1 else 0)) ∧ s = σ) := by
  obtain ⟨h1, h2, h3, h4⟩ := hx
  refine w_X8_isWord (by omega) ?_
  unfold P_X8_isWord
  have no : ∀ (hn : ¬ p_tk p = nI (97 + j)), (fun (rv : Option Value) (s : gS) => rv = some (.int (if p_tk p = nI (97 + j) then 1 else 0)) ∧ s = σ) (some (.int 0)) σ := fun hn => ⟨by rw [if_neg hn], rfl⟩
  have n97 : ∀ q : Nat, q ≤ 4 → ¬ nI q = nI (97 + j) := fun q hq z => absurd ((n_eq (by omega) (by omega)).mp z) (by omega)
  cases hf : p_fa p with
  | some g =>
    obtain ⟨b1, b2⟩ := h4 g hf
    have t2 : p_tk p = 2 := hp.2 (by rw [hf]; exact fun z => by cases z)
    exact ⟨fun z => absurd (b1.symm.trans z) (by decide), fun _ => no (by rw [t2]; exact n97 2 (by omega))⟩
  | none =>
    obtain ⟨b1, ⟨c1, c2, c3⟩, b2⟩ := h3 hf
    refine ⟨fun _ => ⟨fun k1 => ?_, fun k1 => no ?_⟩, fun z => absurd b1 z⟩
    · rcases b2 with ⟨-, z⟩ | ⟨-, d2, d3, d4, d5⟩ | ⟨z, -⟩ | ⟨z, -⟩ | ⟨z, -⟩
      · rw [z] at k1; exact absurd k1 (by decide)
      · have hn := h1.1.2.1
        have c1' : σ 63 30 = nI (p_st p) := c1
        have d2' : σ 63 28 = nI (p_af p) := d2
        have c2' : p_st p ≤ n := c2
        have c3' : p_af p ≤ n := c3
        have d3' : p_st p < p_af p := d3
        have etk : p_tk p = m_wcL (m_wl (q_l b n) (p_st p) (p_af p)) q_words 0 2 := d5.trans (q_wcL _ _ _ _ _ _)
        rw [etk]
        clear no
        have hlen : (m_wl (q_l b n) (p_st p) (p_af p)).length = p_af p - p_st p := by rw [m_wl, List.length_map, List.length_range]
        have iff : (if m_wcL (m_wl (q_l b n) (p_st p) (p_af p)) q_words 0 2 = nI (97 + j) then (1 : Int32) else 0) = if m_wl (q_l b n) (p_st p) (p_af p) = q_words.getD j [] then 1 else 0 := by
          by_cases z : m_wl (q_l b n) (p_st p) (p_af p) = q_words.getD j []
          · rw [if_pos z, if_pos ((m_wc_iff _ hj).mpr z)]
          · rw [if_neg z, if_neg (fun y => z ((m_wc_iff _ hj).mp y))]
        rw [iff]
        obtain ⟨q1, q2⟩ := q_words_ok ⟨j, hj⟩
        generalize hL : m_wl (q_l b n) (p_st p) (p_af p) = L at hlen ⊢
        have no : ∀ (hn : ¬ L = q_words.getD j []), (fun (rv : Option Value) (s : gS) => rv = some (.int (if L = q_words.getD j [] then 1 else 0)) ∧ s = σ) (some (.int 0)) σ := fun hn => ⟨by rw [if_neg hn], rfl⟩
        have hLn : ∀ i, i < L.length → ¬ L.getD i 0 = 0 := by
          intro i hi
          rw [← hL, m_wl_get, if_pos (by omega)]
          intro z
          have := d4 (p_st p + i) (Nat.le_add_right _ _) (by show p_st p + i < p_af p; omega)
          have := of_decide_eq_true this
          rw [z] at this
          exact absurd this (by decide)
        rw [c1', d2']
        have lt8 : nI (p_st p) + 8 < nI (p_af p) ↔ p_st p + 8 < p_af p := by
          have : nI (p_st p) + 8 = nI (p_st p + 8) := nI_add _ 8
          rw [this]
          exact n_lt (by omega) (by omega)
        have letter : ∀ (i : Nat) (x c : Int32), i ≤ 8 → x = nI i → g_Met yX8_isLetter cX8_isLetter 3 (some .boolean) 8 kM [.ref 63, .int x, .int c] σ (fun rv s => rv = some (.int (if L.getD i 0 = c then 1 else 0)) ∧ s = σ) := by
          intro i x c hi hx
          rw [← hL]
          exact k_isLetter (by omega) σ h1 c1' d2' c2' c3' hi hx c
        have bad : ∀ (i : Nat) (c : Int32), (q_words.getD j []).getD i 0 = c → ¬ L.getD i 0 = c → ¬ L = q_words.getD j [] := fun i c e z y => z (by rw [y]; exact e)
        refine ⟨fun g => no (fun z => ?_), fun g => ?_⟩
        · have := lt8.mp g
          rw [z] at hlen
          have q1' : (q_words.getD j []).length ≤ 8 := q1
          omega
        · have hL8 : L.length ≤ 8 := by
            rw [hlen]
            rcases Nat.lt_or_ge (p_st p + 8) (p_af p) with z | z
            · exact absurd (lt8.mpr z) g
            · omega
          have stp : ∀ (i : Nat) (x c : Int32) (R : gS → Prop), i ≤ 8 → x = nI i → (q_words.getD j []).getD i 0 = c → (L.getD i 0 = c → R σ) → g_call yX8_isLetter cX8_isLetter 3 (some .boolean) kM h [.ref 63, .int x, .int c] σ (fun rv s10 => ∃ r12 : Int32, rv = some (.int r12) ∧ (((r12 : Int32) = 0 → (some (Value.int 0) = some (.int (if L = q_words.getD j [] then 1 else 0)) ∧ s10 = σ)) ∧ (¬ (r12 : Int32) = 0 → R s10))) := by
            intro i x c R hi hx e hR
            refine g_call.i (letter i x c hi hx) (by omega) (fun rv s hq => ?_)
            obtain ⟨rfl, rfl⟩ := hq
            by_cases z : L.getD i 0 = c
            · rw [if_pos z]
              exact ⟨_, rfl, fun y => absurd y (by decide), fun _ => hR z⟩
            · rw [if_neg z]
              exact ⟨_, rfl, fun _ => no (bad i c e z), fun y => absurd rfl y⟩
          refine stp 0 0 a0 _ (by omega) rfl e0 (fun y0 => stp 1 1 a1 _ (by omega) rfl e1 (fun y1 => stp 2 2 a2 _ (by omega) rfl e2 (fun y2 => stp 3 3 a3 _ (by omega) rfl e3 (fun y3 => stp 4 4 a4 _ (by omega) rfl e4 (fun y4 => stp 5 5 a5 _ (by omega) rfl e5 (fun y5 => stp 6 6 a6 _ (by omega) rfl e6 (fun y6 => ?_)))))))
          refine g_call.i (letter 7 7 a7 (by omega) rfl) (by omega) (fun rv s hq => ?_)
          obtain ⟨rfl, rfl⟩ := hq
          refine ⟨_, rfl, ?_, rfl⟩
          by_cases z : L.getD 7 0 = a7
          · have : L = q_words.getD j [] := by
              refine m_weq hLn (fun i hi => q2 ⟨i, by have q1' : (q_words.getD j []).length ≤ 8 := q1; omega⟩ hi) hL8 q1 (fun i hi => ?_)
              match i, hi with
              | 0, _ => exact y0.trans e0.symm
              | 1, _ => exact y1.trans e1.symm
              | 2, _ => exact y2.trans e2.symm
              | 3, _ => exact y3.trans e3.symm
              | 4, _ => exact y4.trans e4.symm
              | 5, _ => exact y5.trans e5.symm
              | 6, _ => exact y6.trans e6.symm
              | 7, _ => exact z.trans e7.symm
            rw [if_pos z, if_pos this]
            rfl
          · rw [if_neg z, if_neg (bad 7 a7 e7 z)]
            rfl
      · rw [z] at k1; exact absurd k1 (by decide)
      · rw [z] at k1; exact absurd k1 (by decide)
      · rw [z] at k1; exact absurd k1 (by decide)
    · rcases b2 with ⟨z, -⟩ | ⟨z, -⟩ | ⟨-, z, -⟩ | ⟨-, z, -⟩ | ⟨-, z⟩
      · have z' : p_tk p = 1 := z
        rw [z']; exact n97 1 (by omega)
      · exact absurd z k1
      · have z' : p_tk p = 3 := z
        rw [z']; exact n97 3 (by omega)
      · intro y
        have z' : q_sign (p_tk p) = true := z
        rw [y] at z'
        have H : ∀ k : Fin 12, ¬ q_sign (nI (97 + k.val)) = true := by decide
        exact H ⟨j, hj⟩ z'
      · have z' : p_tk p = 2 := z
        rw [z']; exact n97 2 (by omega)
