/-! THE REFERENCE'S READER: bytes, tokens -/
/-- the text at hand and the names -/
def mb (b : gF) (n t : Nat) (nm : gF) (s : gS) : Prop := (t < 6 ∧ n ≤ 160 ∧ s 63 26 = nI (160 * t) ∧ s 63 27 = nI n ∧ (∀ i, i < n → s 64 (160 * t + i) = b i) ∧ ∀ i, i < n → g_in (b i) 0 255) ∧ (s 63 20 = nm 0 ∧ s 63 21 = nm 1 ∧ s 63 22 = nm 2 ∧ s 63 23 = nm 3 ∧ s 63 24 = nm 4 ∧ s 63 25 = nm 5)
/-- what the reader leaves alone -/
def mrf (σ s : gS) : Prop := (∀ a, a ≠ 63 → s a = σ a) ∧ ∀ j, (j < 28 ∨ 34 < j) → s 63 j = σ 63 j
theorem mrf.zrefl (σ : gS) : mrf σ σ := ⟨fun _ _ => rfl, fun _ _ => rfl⟩
theorem mrf.ztrans {σ s u : gS} (h1 : mrf σ s) (h2 : mrf s u) : mrf σ u := ⟨fun a b => (h2.1 a b).trans (h1.1 a b), fun j b => (h2.2 j b).trans (h1.2 j b)⟩
theorem mrf.zup {σ s : gS} (h : mrf σ s) {j : Nat} (v : Int32) (hj : 28 ≤ j ∧ j ≤ 34) : mrf σ (g_up s 63 j v) := ⟨fun a ha => by rw [g_up_ne ha]; exact h.1 a ha, fun i hi => by rw [u_ne (by omega)]; exact h.2 i hi⟩
theorem mb.zfr {b : gF} {n t : Nat} {nm : gF} {σ s : gS} (h : mb b n t nm σ) (e : mrf σ s) : mb b n t nm s := by
  obtain ⟨⟨h1, h2, h3, h4, h5, h6⟩, g0, g1, g2, g3, g4, g5⟩ := h
  exact ⟨⟨h1, h2, by rw [e.2 26 (by omega)]; exact h3, by rw [e.2 27 (by omega)]; exact h4, fun i hi => by rw [e.1 64 (by decide)]; exact h5 i hi, h6⟩, by rw [e.2 20 (by omega)]; exact g0, by rw [e.2 21 (by omega)]; exact g1, by rw [e.2 22 (by omega)]; exact g2, by rw [e.2 23 (by omega)]; exact g3, by rw [e.2 24 (by omega)]; exact g4, by rw [e.2 25 (by omega)]; exact g5⟩
theorem mb.zup {b : gF} {n t : Nat} {nm : gF} {s : gS} (h : mb b n t nm s) {j : Nat} (v : Int32) (hj : 28 ≤ j ∧ j ≤ 34) : mb b n t nm (g_up s 63 j v) := h.zfr ((mrf.zrefl s).zup v hj)
theorem k_byteAt {h : Nat} (hh : 6 ≤ h) (σ : gS) {b nm : gF} {n t i : Nat} (hb : mb b n t nm σ) (hi : i ≤ 1000) : g_Met yX8_byteAt cX8_byteAt 2 (some .int) h kM [.ref 63, .int (nI i)] σ (fun rv s => rv = some (.int (q_l b n i)) ∧ s = σ) := by
  obtain ⟨⟨h1, h2, h3, h4, h5, h6⟩, -⟩ := hb
  refine w_X8_byteAt hh ?_
  unfold P_X8_byteAt
  rw [h3, h4]
  refine ⟨fun g => ?_, fun g => ⟨?_, rfl⟩⟩
  · have hin := (n_lt (by omega) (by omega)).mp g
    refine ⟨160 * t + i, nI_add _ _, by omega, ?_, rfl⟩
    rw [h5 i hin, q_l, if_pos hin]
  · rw [q_l, if_neg (fun z => g ((n_lt (by omega) (by omega)).mpr z))]
theorem q_stp {P : Nat → Bool} {n : Nat} (hP : ∀ j, n ≤ j → P j = false) (hn : n ≤ 160) {i : Nat} (h : P i = true) : q_run P 160 i = q_run P 160 (i + 1) := by
  have : (160 : Nat) = 159 + 1 := rfl
  rw [this, q_run, if_pos h]
  have hi : i < n := by
    rcases Nat.lt_or_ge i n with z | z
    · exact z
    · rw [hP i z] at h; cases h
  exact q_run_fuel hP 159 (159 + 1) (i + 1) (by omega) (by omega)
theorem q_end {P : Nat → Bool} {i : Nat} (h : P i = false) : q_run P 160 i = i := by
  have : (160 : Nat) = 159 + 1 := rfl
  rw [this, q_run, h]
  rfl
theorem q_val_snoc (l : Nat → Int32) : ∀ (k i : Nat) (a : Int32), q_val l (k + 1) i a = q_val l k i a * 10 + l (i + k) - 48
  | 0, _, _ => rfl
  | k + 1, i, a => by
    rw [q_val, q_val_snoc l k (i + 1), q_val, show i + 1 + k = i + (k + 1) by omega]
/-- the token as the reference holds it -/
def mtk (l : Nat → Int32) (n : Nat) (s : gS) (q : Int32 × Int32 × Nat × Nat) : Prop :=
  (s 63 30 = nI q.2.2.1 ∧ q.2.2.1 ≤ n ∧ q.2.2.2 ≤ n) ∧
  ((q.1 = 1 ∧ s 63 29 = 0) ∨ (s 63 29 = 1 ∧ s 63 28 = nI q.2.2.2 ∧ q.2.2.1 < q.2.2.2 ∧ (∀ i, q.2.2.1 ≤ i → i < q.2.2.2 → q_let l i = true) ∧ q.1 = q_wc l q.2.2.1 q.2.2.2 q_words 0 2) ∨
   (s 63 29 = 2 ∧ q.1 = 3 ∧ s 63 31 = q.2.1 ∧ s 63 28 = nI q.2.2.2 ∧ ¬ q.2.1 < 0) ∨ (s 63 29 = 3 ∧ q_sign q.1 = true ∧ s 63 31 = q.1 ∧ s 63 28 = nI q.2.2.2) ∨ (s 63 29 = 4 ∧ q.1 = 2))
theorem q_l_byte {b : gF} {n i : Nat} (hb : ∀ i, i < n → g_in (b i) 0 255) (h : ¬ q_l b n i = -1) : ¬ q_l b n i < 0 := by
  have hi := q_l_in h
  rw [q_l, if_pos hi]
  exact (hb i hi).1
theorem n_dig {x : Int32} (h : g_in x 48 57) : ∃ d, d ≤ 9 ∧ x = nI (48 + d) := by
  obtain ⟨a, ha, e⟩ := n_of (x := x) (M := 57) ⟨fun z => by
    have h1 := h.1
    rw [Int32.lt_iff_toInt_lt] at z h1
    have e0 : (0 : Int32).toInt = 0 := rfl
    have e48 : (48 : Int32).toInt = 48 := rfl
    omega, h.2⟩ (by decide)
  subst e
  have := (n_in (lo := 48) (hi := 57) (by omega) (by omega) (by omega)).mp h
  exact ⟨a - 48, by omega, by rw [show 48 + (a - 48) = a by omega]⟩
theorem k_M_next {h : Nat} (hh : 8 ≤ h) (σ : gS) {b nm : gF} {n t A : Nat} (hb : mb b n t nm σ) (hA : σ 63 28 = nI A) (hAn : A ≤ n) : g_Met yX8_next cX8_next 3 none h kM [.ref 63] σ (fun rv s => rv = none ∧ mtk (q_l b n) n s (q_lex (q_l b n) A) ∧ mrf σ s ∧ s 63 32 = σ 63 32 ∧ s 63 33 = σ 63 33 ∧ s 63 34 = σ 63 34) := by
  have hn := hb.1.2.1
  have h255 := hb.1.2.2.2.2.2
  refine w_X8_next (by omega) ?_
  unfold P_X8_next
  have oB : ∀ j, n ≤ j → q_blank (q_l b n) j = false := fun j hj => q_blank_out hj
  have oL : ∀ j, n ≤ j → q_let (q_l b n) j = false := fun j hj => q_let_out hj
  have oD : ∀ j, n ≤ j → q_dig (q_l b n) j = false := fun j hj => q_dig_out hj
  generalize hS : q_run (q_blank (q_l b n)) 160 A = S
  have hSn : S ≤ n := by rw [← hS]; exact q_run_le (fun j => oB j) 160 A hAn
  have F3 : ∀ (s : gS), mrf σ s → mb b n t nm s := fun s e => hb.zfr e
  refine ⟨fun k s => ∃ a, s 63 28 = nI a ∧ a ≤ n ∧ k + a = n ∧ q_run (q_blank (q_l b n)) 160 a = S ∧ mrf σ s ∧ s 63 32 = σ 63 32 ∧ s 63 33 = σ 63 33 ∧ s 63 34 = σ 63 34, ⟨n - A, A, hA, hAn, by omega, hS, mrf.zrefl σ, rfl, rfl, rfl⟩, fun k s hI => ?_⟩
  obtain ⟨a, ha, han, hk, haS, hf, f32, f33, f34⟩ := hI
  rw [ha]
  have skip : q_blank (q_l b n) a = true → ∃ k', k' < k ∧ ∃ a', (g_up s 63 28 (nI a + 1)) 63 28 = nI a' ∧ a' ≤ n ∧ k' + a' = n ∧ q_run (q_blank (q_l b n)) 160 a' = S ∧ mrf σ (g_up s 63 28 (nI a + 1)) ∧ (g_up s 63 28 (nI a + 1)) 63 32 = σ 63 32 ∧ (g_up s 63 28 (nI a + 1)) 63 33 = σ 63 33 ∧ (g_up s 63 28 (nI a + 1)) 63 34 = σ 63 34 := by
    intro hbl
    have hlt : a < n := by
      rcases Nat.lt_or_ge a n with z | z
      · exact z
      · rw [oB a z] at hbl; cases hbl
    exact ⟨k - 1, by omega, a + 1, by rw [u_eq, nI_1], by omega, by omega, by rw [← haS, q_stp oB hn hbl], hf.zup _ (by omega), by rw [u_ne (by decide)]; exact f32, by rw [u_ne (by decide)]; exact f33, by rw [u_ne (by decide)]; exact f34⟩
  refine g_call.i (k_byteAt (h := 6) (by omega) s (F3 s hf) (i := a) (by omega)) (by omega) (fun rv s1 hq => ?_)
  obtain ⟨rfl, rfl⟩ := hq
  refine ⟨_, rfl, fun h1 => ?_, fun h1 => ?_⟩
  · rw [ha]; exact skip (decide_eq_true (Or.inl h1))
  rw [ha]
  refine g_call.i (k_byteAt (h := 6) (by omega) s1 (F3 s1 hf) (i := a) (by omega)) (by omega) (fun rv s2 hq => ?_)
  obtain ⟨rfl, rfl⟩ := hq
  refine ⟨_, rfl, fun h2 => ?_, fun h2 => ?_⟩
  · rw [ha]; exact skip (decide_eq_true (Or.inr h2))
  rw [ha]
  have hnb : q_blank (q_l b n) a = false := decide_eq_false (fun z => z.elim h1 h2)
  have haS' : a = S := by rw [← haS, q_end hnb]
  subst haS'
  have hf3 := hf.zup (j := 30) (nI a) (by omega)
  refine g_call.i (k_byteAt (h := 6) (by omega) _ (F3 _ hf3) (i := a) (by omega)) (by omega) (fun rv s3 hq => ?_)
  obtain ⟨rfl, rfl⟩ := hq
  have r28 : (g_up s2 63 30 (nI a)) 63 28 = nI a := by rw [u_ne (by decide)]; exact ha
  have r27 : (g_up s2 63 30 (nI a)) 63 27 = nI n := (F3 _ hf3).1.2.2.2.1
  have f3 : (g_up s2 63 30 (nI a)) 63 32 = σ 63 32 ∧ (g_up s2 63 30 (nI a)) 63 33 = σ 63 33 ∧ (g_up s2 63 30 (nI a)) 63 34 = σ 63 34 := ⟨by rw [u_ne (by decide)]; exact f32, by rw [u_ne (by decide)]; exact f33, by rw [u_ne (by decide)]; exact f34⟩
  have r30 : (g_up s2 63 30 (nI a)) 63 30 = nI a := u_eq _ _ _ _
  generalize hs4 : g_up s2 63 30 (nI a) = s4 at hf3 r28 r27 f3 r30 ⊢
  clear skip
  refine ⟨_, rfl, fun h3 => ?_, fun h3 => ?_⟩
  · -- the end
    have hm1 : q_l b n a = -1 := by
      by_cases z : q_l b n a = -1
      · exact z
      · exact absurd h3 (q_l_byte h255 z)
    have han2 : a = n := by
      rcases Nat.lt_or_ge a n with z | z
      · exfalso
        rw [q_l, if_pos z] at h3
        exact (h255 a z).1 h3
      · omega
    rw [q_lex_end hS hm1]
    refine ⟨rfl, ⟨⟨by rw [u_eq, r27, ← han2], hSn, hSn⟩, Or.inl ⟨rfl, by rw [u_ne (by decide), u_eq]⟩⟩, ((hf3.zup _ (by omega)).zup _ (by omega)).zup _ (by omega), by simp only [u_ne (show 32 ≠ 30 by decide), u_ne (show 32 ≠ 29 by decide)]; exact f3.1, by simp only [u_ne (show 33 ≠ 30 by decide), u_ne (show 33 ≠ 29 by decide)]; exact f3.2.1, by simp only [u_ne (show 34 ≠ 30 by decide), u_ne (show 34 ≠ 29 by decide)]; exact f3.2.2⟩
  have hne : ¬ q_l b n a = -1 := fun z => h3 (by rw [z]; decide)
  have hlt := q_l_in hne
  refine ⟨fun h4 => ?_, fun h4 => ?_⟩
  · -- a word
    rw [q_lex_word hS hne h4]
    generalize hE : q_run (q_let (q_l b n)) 160 a = E
    have hEn : E ≤ n := by rw [← hE]; exact q_run_le (fun j => oL j) 160 a hSn
    have hw1 : q_let (q_l b n) a = true := decide_eq_true h4
    have haE : a < E := by
      rw [← hE, q_stp oL hn hw1]
      exact Nat.lt_of_lt_of_le (Nat.lt_succ_self a) (q_run_ge _ _ _)
    refine ⟨fun k s => ∃ e, s 63 28 = nI e ∧ a ≤ e ∧ e ≤ n ∧ k + e = n ∧ q_run (q_let (q_l b n)) 160 e = E ∧ (∀ i, a ≤ i → i < e → q_let (q_l b n) i = true) ∧ mrf σ s ∧ s 63 29 = 1 ∧ s 63 30 = nI a ∧ s 63 32 = σ 63 32 ∧ s 63 33 = σ 63 33 ∧ s 63 34 = σ 63 34, ⟨n - a, a, by rw [u_ne (by decide), u_ne (by decide)]; exact r28, Nat.le_refl a, hSn, by omega, hE, fun i i1 i2 => absurd i2 (by omega), (hf3.zup _ (by omega)).zup _ (by omega), by rw [u_eq], by rw [u_ne (by decide), u_ne (by decide)]; exact r30, by rw [u_ne (by decide), u_ne (by decide)]; exact f3.1, by rw [u_ne (by decide), u_ne (by decide)]; exact f3.2.1, by rw [u_ne (by decide), u_ne (by decide)]; exact f3.2.2⟩, fun k s hI => ?_⟩
    obtain ⟨e, he, hae, hen, hk, heE, hlet, hfs, g29, g30, g32, g33, g34⟩ := hI
    rw [he]
    refine g_call.i (k_byteAt (h := 6) (by omega) s (F3 s hfs) (i := e) (by omega)) (by omega) (fun rv s5 hq => ?_)
    obtain ⟨rfl, rfl⟩ := hq
    refine ⟨_, rfl, fun h5 => ?_, fun h5 => ?_⟩
    · have hel : q_let (q_l b n) e = true := decide_eq_true h5
      have hlt2 : e < n := by
        rcases Nat.lt_or_ge e n with z | z
        · exact z
        · rw [oL e z] at hel; cases hel
      rw [he]
      exact ⟨k - 1, by omega, e + 1, by rw [u_eq, nI_1], by omega, by omega, by omega, by rw [← heE, q_stp oL hn hel], fun i i1 i2 => by
        by_cases z : i = e
        · subst z; exact hel
        · exact hlet i i1 (by omega), hfs.zup _ (by omega), by rw [u_ne (by decide)]; exact g29, by rw [u_ne (by decide)]; exact g30, by rw [u_ne (by decide)]; exact g32, by rw [u_ne (by decide)]; exact g33, by rw [u_ne (by decide)]; exact g34⟩
    · have hel : q_let (q_l b n) e = false := decide_eq_false h5
      have : e = E := by rw [← heE, q_end hel]
      subst this
      exact ⟨rfl, ⟨⟨g30, hSn, hen⟩, Or.inr (Or.inl ⟨g29, he, haE, hlet, rfl⟩)⟩, hfs, g32, g33, g34⟩
  refine ⟨fun h5 => ?_, fun h5 => ?_⟩
  · -- a number
    rw [q_lex_num hS hne h4 h5]
    generalize hE : q_run (q_dig (q_l b n)) 160 a = E
    have hEn : E ≤ n := by rw [← hE]; exact q_run_le (fun j => oD j) 160 a hSn
    have haE0 : a ≤ E := by rw [← hE]; exact q_run_ge _ _ _
    refine ⟨0, by decide, fun k v s => ∃ e x, s 63 28 = nI e ∧ a ≤ e ∧ e ≤ n ∧ k + e = n ∧ v = nI (e - a) ∧ q_run (q_dig (q_l b n)) 160 e = E ∧ (e - a ≤ 4 → s 63 31 = nI x ∧ q_val (q_l b n) (e - a) a 0 = nI x ∧ x < 10 ^ (e - a)) ∧ mrf σ s ∧ s 63 30 = nI a ∧ s 63 32 = σ 63 32 ∧ s 63 33 = σ 63 33 ∧ s 63 34 = σ 63 34, ⟨n - a, a, 0, by rw [u_ne (by decide), u_ne (by decide), u_ne (by decide)]; exact r28, Nat.le_refl a, hSn, by omega, by rw [Nat.sub_self]; rfl, hE, fun _ => ⟨by rw [u_eq]; rfl, by rw [Nat.sub_self]; rfl, by rw [Nat.sub_self]; decide⟩, ((hf3.zup _ (by omega)).zup _ (by omega)).zup _ (by omega), by rw [u_ne (by decide), u_ne (by decide), u_ne (by decide)]; exact r30, by rw [u_ne (by decide), u_ne (by decide), u_ne (by decide)]; exact f3.1, by rw [u_ne (by decide), u_ne (by decide), u_ne (by decide)]; exact f3.2.1, by rw [u_ne (by decide), u_ne (by decide), u_ne (by decide)]; exact f3.2.2⟩, fun k v s hI => ?_⟩
    obtain ⟨e, x, he, hae, hen, hk, rfl, heE, hval, hfs, g30, g32, g33, g34⟩ := hI
    rw [he]
    refine g_call.i (k_byteAt (h := 6) (by omega) s (F3 s hfs) (i := e) (by omega)) (by omega) (fun rv s5 hq => ?_)
    obtain ⟨rfl, rfl⟩ := hq
    refine ⟨_, rfl, fun h6 => ?_, fun h6 => ?_⟩
    · have hel : q_dig (q_l b n) e = true := decide_eq_true h6
      have hlt2 : e < n := by
        rcases Nat.lt_or_ge e n with z | z
        · exact z
        · rw [oD e z] at hel; cases hel
      obtain ⟨dg, hdg, edg⟩ := n_dig h6
      have esub : e + 1 - a = (e - a) + 1 := by omega
      refine ⟨fun h7 => ?_, fun h7 => ?_⟩
      · have h4' := (n_lt (b := 4) (by omega) (by omega)).mp h7
        obtain ⟨v1, v2, v3⟩ := hval (by omega)
        have hx4 : x < 10000 := Nat.lt_of_lt_of_le v3 (Nat.pow_le_pow_right (by decide) (show e - a ≤ 4 by omega))
        rw [he]
        refine g_call.i (k_byteAt (h := 6) (by omega) s5 (F3 s5 hfs) (i := e) (by omega)) (by omega) (fun rv s6 hq => ?_)
        obtain ⟨rfl, rfl⟩ := hq
        have ew : (10 * Int32.toInt64 (nI x) + Int32.toInt64 (nI (48 + dg))) - 48 = Int32.toInt64 (nI (10 * x + dg)) := by
          rw [nI_l (by omega), nI_l (by omega), nI_l (by omega)]
          have e10 : (10 : Int64) * lN x = lN (10 * x) := lN_mul 10 x
          rw [e10, lN_add]
          exact (lN_sub (a := 10 * x + (48 + dg)) (b := 48) (by omega)).trans (by rw [show 10 * x + (48 + dg) - 48 = 10 * x + dg by omega])
        refine ⟨_, rfl, nI (10 * x + dg), ?_, k - 1, by omega, e + 1, 10 * x + dg, ?_, by omega, by omega, by omega, by rw [esub, nI_1], by rw [← heE, q_stp oD hn hel], fun _ => ⟨by rw [u_ne (by decide), u_eq], ?_, ?_⟩, (hfs.zup _ (by omega)).zup _ (by omega), by rw [u_ne (by decide), u_ne (by decide)]; exact g30, by rw [u_ne (by decide), u_ne (by decide)]; exact g32, by rw [u_ne (by decide), u_ne (by decide)]; exact g33, by rw [u_ne (by decide), u_ne (by decide)]; exact g34⟩
        · rw [v1, edg]; exact ew
        · rw [u_eq, he, nI_1]
        · rw [esub, q_val_snoc, v2, show a + (e - a) = e by omega, edg]
          have e1 : nI x * 10 = nI (x * 10) := pk_mul x 10
          rw [e1, nI_add]
          exact (pk_sub (a := x * 10 + (48 + dg)) (b := 48) (by omega)).trans (by rw [show x * 10 + (48 + dg) - 48 = 10 * x + dg by omega])
        · rw [esub, Nat.pow_succ]
          omega
      · have h4' : 4 ≤ e - a := by
          rcases Nat.lt_or_ge (e - a) 4 with z | z
          · exact absurd ((n_lt (b := 4) (by omega) (by omega)).mpr z) h7
          · exact z
        exact ⟨s5 63 31, rfl, k - 1, by omega, e + 1, 0, by rw [u_eq, he, nI_1], by omega, by omega, by omega, by rw [esub, nI_1], by rw [← heE, q_stp oD hn hel], fun z => absurd z (by omega), (hfs.zup _ (by omega)).zup _ (by omega), by rw [u_ne (by decide), u_ne (by decide)]; exact g30, by rw [u_ne (by decide), u_ne (by decide)]; exact g32, by rw [u_ne (by decide), u_ne (by decide)]; exact g33, by rw [u_ne (by decide), u_ne (by decide)]; exact g34⟩
    · have hel : q_dig (q_l b n) e = false := decide_eq_false h6
      have : e = E := by rw [← heE, q_end hel]
      subst this
      refine ⟨rfl, ⟨⟨by rw [u_ne (by decide)]; exact g30, hSn, hen⟩, ?_⟩, hfs.zup _ (by omega), by rw [u_ne (by decide)]; exact g32, by rw [u_ne (by decide)]; exact g33, by rw [u_ne (by decide)]; exact g34⟩
      by_cases h7 : (4 : Int32) < nI (e - a)
      · have := (n_lt (a := 4) (by omega) (by omega)).mp h7
        rw [if_pos h7]
        exact Or.inr (Or.inr (Or.inr (Or.inr ⟨u_eq _ _ _ _, if_neg (by omega)⟩)))
      · have h4' : e - a ≤ 4 := by
          rcases Nat.lt_or_ge 4 (e - a) with z | z
          · exact absurd ((n_lt (a := 4) (by omega) (by omega)).mpr z) h7
          · exact z
        obtain ⟨v1, v2, v3⟩ := hval h4'
        have hx4 : x < 10000 := Nat.lt_of_lt_of_le v3 (Nat.pow_le_pow_right (by decide) h4')
        rw [if_neg h7]
        refine Or.inr (Or.inr (Or.inl ⟨u_eq _ _ _ _, if_pos h4', ?_, by rw [u_ne (by decide)]; exact he, ?_⟩))
        · rw [u_ne (by decide), v1]; exact v2.symm
        · rw [v2]; exact nI_pos (by omega)
  · -- a sign
    have sg : ∀ (c : Int32), q_l b n a = c → q_sign c = true → ∃ x : Int32, Int32.toInt64 (q_l b n a) = Int32.toInt64 x ∧ (none : Option Value) = none ∧ mtk (q_l b n) n (g_up (g_up (g_up (g_up s4 63 29 4) 63 29 3) 63 31 x) 63 28 (s4 63 28 + 1)) (q_lex (q_l b n) A) ∧ mrf σ (g_up (g_up (g_up (g_up s4 63 29 4) 63 29 3) 63 31 x) 63 28 (s4 63 28 + 1)) ∧ (g_up (g_up (g_up (g_up s4 63 29 4) 63 29 3) 63 31 x) 63 28 (s4 63 28 + 1)) 63 32 = σ 63 32 ∧ (g_up (g_up (g_up (g_up s4 63 29 4) 63 29 3) 63 31 x) 63 28 (s4 63 28 + 1)) 63 33 = σ 63 33 ∧ (g_up (g_up (g_up (g_up s4 63 29 4) 63 29 3) 63 31 x) 63 28 (s4 63 28 + 1)) 63 34 = σ 63 34 := by
      intro c ec hc
      have hc' : q_sign (q_l b n a) = true := by rw [ec]; exact hc
      refine ⟨q_l b n a, rfl, rfl, ?_, (((hf3.zup _ (by omega)).zup _ (by omega)).zup _ (by omega)).zup _ (by omega), by simp only [u_ne (show 32 ≠ 28 by decide), u_ne (show 32 ≠ 31 by decide), u_ne (show 32 ≠ 29 by decide)]; exact f3.1, by simp only [u_ne (show 33 ≠ 28 by decide), u_ne (show 33 ≠ 31 by decide), u_ne (show 33 ≠ 29 by decide)]; exact f3.2.1, by simp only [u_ne (show 34 ≠ 28 by decide), u_ne (show 34 ≠ 31 by decide), u_ne (show 34 ≠ 29 by decide)]; exact f3.2.2⟩
      rw [q_lex_sign hS hne h4 h5 hc']
      exact ⟨⟨by simp only [u_ne (show 30 ≠ 28 by decide), u_ne (show 30 ≠ 31 by decide), u_ne (show 30 ≠ 29 by decide)]; exact r30, hSn, hlt⟩, Or.inr (Or.inr (Or.inr (Or.inl ⟨by rw [u_ne (by decide), u_ne (by decide), u_eq], hc', by rw [u_ne (by decide), u_eq], by rw [u_eq, r28, nI_1]⟩)))⟩
    refine ⟨fun g => sg 40 g (by decide), fun g1 => ⟨fun g => sg 41 g (by decide), fun g2 => ⟨fun g => sg 59 g (by decide), fun g3 => ⟨fun g => sg 43 g (by decide), fun g4 => ⟨fun g => sg 45 g (by decide), fun g5 => ⟨fun g => sg 42 g (by decide), fun g6 => ⟨fun g => sg 60 g (by decide), fun g7 => ⟨fun g => sg 61 g (by decide), fun g8 => ?_⟩⟩⟩⟩⟩⟩⟩⟩
    have hns : ¬ q_sign (q_l b n a) = true := fun z => by
      rcases of_decide_eq_true z with y | y | y | y | y | y | y | y
      · exact g1 y
      · exact g2 y
      · exact g3 y
      · exact g4 y
      · exact g5 y
      · exact g6 y
      · exact g7 y
      · exact g8 y
    rw [q_lex_wrong hS hne h4 h5 hns]
    exact ⟨rfl, ⟨⟨by rw [u_ne (by decide)]; exact r30, hSn, hSn⟩, Or.inr (Or.inr (Or.inr (Or.inr ⟨u_eq _ _ _ _, rfl⟩)))⟩, hf3.zup _ (by omega), by rw [u_ne (by decide)]; exact f3.1, by rw [u_ne (by decide)]; exact f3.2.1, by rw [u_ne (by decide)]; exact f3.2.2⟩
