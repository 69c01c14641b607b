/-! THE CLASS READER: read -/
theorem p_part_gv {b : gF} {n : Nat} (hn : n ≤ 160) {key : Int32} (key1 : ¬ key = 1) (key2 : ¬ key = 2) : p_gv n (p_part (q_l b n) key) := fun p hp hnn => by
  have a := p_need_gv (b := b) hn key1 key2 p
  have f1 := p_need_fine (b := b) hn key1 key2 p hp
  have g := (p_lv_gv (b := b) hn 5).2.2 _ f1.1 a.1
  have f := (p_lv_fine (b := b) hn 5).2.2 _ f1.1
  have e0 : p_part (q_l b n) key p = p_need (q_l b n) 59 ((p_lv (q_l b n) 5).2.2 (p_need (q_l b n) key p)) := rfl
  rw [e0]
  generalize (p_lv (q_l b n) 5).2.2 (p_need (q_l b n) key p) = Q at g f
  have c := p_need_gv (b := b) hn (w := 59) (by decide) (by decide) Q
  have f2 := p_need_fine (b := b) hn (w := 59) (by decide) (by decide) _ f.1
  refine ⟨c.1, fun z => ?_⟩
  have z2 := (f2.2.2.1 z).1
  obtain ⟨code, e1, e2⟩ := g.2 z2
  have z1 := (f.2.2.1 z2).1
  exact ⟨code, by rw [c.2 z, e1, a.2 z1], e2⟩
theorem m_cd_eq {c : Nat → Int32} : ∀ (L : List Int32) (i : Nat), (∀ j, j < L.length → c (i + j) = L.getD j 0) → m_cd c i L.length = L
  | [], _, _ => rfl
  | x :: L, i, h => by
    have h0 := h 0 (by simp)
    have e : m_cd c i (x :: L).length = c i :: m_cd c (i + 1) L.length := rfl
    rw [e, m_cd_eq L (i + 1) (fun j hj => by
      have := h (j + 1) (by simp; omega)
      rw [show i + 1 + j = i + (j + 1) by omega, this]
      rfl)]
    rw [Nat.add_zero] at h0
    rw [h0]
    rfl
def p_pp (l : Nat → Int32) : Nat → pS
  | 0 => p_start l
  | v + 1 => p_part l (nI (103 + v)) (p_pp l v)
theorem pp_1 (l : Nat → Int32) : p_pp l 1 = p_1 l := by
  rw [p_pp, p_pp, show nI (103 + 0) = (103 : Int32) from rfl, e_p1]
theorem pp_2 (l : Nat → Int32) : p_pp l 2 = p_2 l := by
  rw [p_pp, pp_1, show nI (103 + 1) = (104 : Int32) from rfl, e_p2]
theorem pp_3 (l : Nat → Int32) : p_pp l 3 = p_3 l := by
  rw [p_pp, pp_2, show nI (103 + 2) = (105 : Int32) from rfl, e_p3]
theorem n_key {v : Nat} (hv : v ≤ 3) : ¬ nI (103 + v) = 1 ∧ ¬ nI (103 + v) = 2 := ⟨fun z => by have := (n_eq (a := 103 + v) (b := 1) (by omega) (by omega)).mp z; omega, fun z => by have := (n_eq (a := 103 + v) (b := 2) (by omega) (by omega)).mp z; omega⟩
theorem pp_s (l : Nat → Int32) (v : Nat) : p_pp l (v + 1) = p_part l (nI (103 + v)) (p_pp l v) := by rw [p_pp]
theorem pp_fine {b : gF} {n : Nat} (hn : n ≤ 160) : ∀ v, v ≤ 3 → p_ok n (p_pp (q_l b n) v) ∧ p_nn (p_pp (q_l b n) v) ∧ p_op (p_pp (q_l b n) v) = 0
  | 0, _ => ⟨p_start_ok (b := b) hn, q_lex_nn (q_l b n) 0, rfl⟩
  | v + 1, hv => by
    obtain ⟨h1, h2, h3⟩ := pp_fine (b := b) hn v (by omega)
    obtain ⟨k1, k2⟩ := n_key (v := v) (by omega)
    rw [pp_s]
    generalize p_pp (q_l b n) v = p at h1 h2 h3 ⊢
    have f := p_part_fine (b := b) hn k1 k2 _ h1
    have g := p_part_gv (b := b) hn k1 k2 _ h1 h2
    generalize p_part (q_l b n) (nI (103 + v)) p = q at f g ⊢
    exact ⟨f.1, g.1, f.2.2.2.trans h3⟩
theorem pp_back {b : gF} {n : Nat} (hn : n ≤ 160) {v : Nat} (hv : v ≤ 2) (z : p_fa (p_pp (q_l b n) (v + 1)) = none) : p_fa (p_pp (q_l b n) v) = none ∧ p_ex (p_pp (q_l b n) v) (p_pp (q_l b n) (v + 1)) := by
  obtain ⟨h1, h2, h3⟩ := pp_fine (b := b) hn v (by omega)
  obtain ⟨k1, k2⟩ := n_key (v := v) (by omega)
  rw [pp_s] at z ⊢
  generalize p_pp (q_l b n) v = p at h1 h2 h3 z ⊢
  have f := p_part_fine (b := b) hn k1 k2 _ h1
  have g := p_part_gv (b := b) hn k1 k2 _ h1 h2
  generalize p_part (q_l b n) (nI (103 + v)) p = q at f g z ⊢
  exact ⟨(f.2.2.1 z).1, g.2 z⟩
theorem pp_bk {b : gF} {n : Nat} (hn : n ≤ 160) {v w : Nat} (hv : v ≤ 2) (e : w = v + 1) (z : p_fa (p_pp (q_l b n) w) = none) : p_fa (p_pp (q_l b n) v) = none ∧ p_ex (p_pp (q_l b n) v) (p_pp (q_l b n) w) := by
  subst e
  exact pp_back (b := b) hn hv z
theorem g_rx.zup {b : gF} {n t : Nat} {σ : gS} {p : pS} (h : g_rx b n t σ p) (j : Nat) (v : Int32) : g_rx b n t (g_up σ (47 + 3 * t) j v) p := by
  obtain ⟨⟨hn, ht, m1, m2, hb⟩, h2, h3, h4, ⟨len, l1, l2, l3⟩⟩ := h
  have e19 : g_up σ (47 + 3 * t) j v 19 = σ 19 := g_up_ne (by omega)
  have e20 : g_up σ (47 + 3 * t) j v 20 = σ 20 := g_up_ne (by omega)
  have e46 : g_up σ (47 + 3 * t) j v (46 + 3 * t) = σ (46 + 3 * t) := g_up_ne (by omega)
  unfold g_rx
  rw [e19, e20, e46]
  exact ⟨⟨hn, ht, m1, m2, hb⟩, h2, h3, h4, ⟨len, l1, l2, l3⟩⟩
def rff (t : Nat) (σ s : gS) : Prop := ∀ a, a ≠ 19 → a ≠ 46 + 3 * t → a ≠ 47 + 3 * t → s a = σ a
theorem r_fr.zf {t : Nat} {σ s : gS} (h : r_fr t σ s) : rff t σ s := fun a x y _ => h a x y
theorem rff.ztrans {t : Nat} {σ s u : gS} (h1 : rff t σ s) (h2 : rff t s u) : rff t σ u := fun a x y z => (h2 a x y z).trans (h1 a x y z)
theorem need_1 {l : Nat → Int32} {p : pS} (z : p_fa (p_need l 1 p) = none) : p_fa p = none ∧ p_cd (p_need l 1 p) = p_cd p := by
  unfold p_need at z ⊢
  by_cases y : p_tk p = 1
  · rw [if_pos y] at z ⊢
    exact ⟨z, rfl⟩
  · rw [if_neg y] at z
    exact absurd z (p_fail_fa _)
theorem tok_of {s : gS} {t : Nat} (ht : t < 6) {A d1 d2 : List Int32} (w0 : ∀ nm, ∃ v, ∀ st, e_run nm A st = v :: st) (w1 : ∀ nm, ∃ v, ∀ st, e_run nm d1 st = v :: st) (w2 : ∀ nm, ∃ v, ∀ st, e_run nm d2 st = v :: st) (r0 : s (47 + 3 * t) 0 = nI A.length) (r1 : s (47 + 3 * t) 1 = nI (A ++ d1).length) (r2 : s (47 + 3 * t) 2 = nI (A ++ d1 ++ d2).length) (h160 : (A ++ d1 ++ d2).length ≤ 160) (hc : ∀ i, i < (A ++ d1 ++ d2).length → s (46 + 3 * t) i = (A ++ d1 ++ d2).getD i 0) : m_tok s t ∧ m_code s t 0 = A ∧ m_code s t 1 = d1 ∧ m_code s t 2 = d2 := by
  have L1 : (A ++ d1).length = A.length + d1.length := List.length_append
  have L2 : (A ++ d1 ++ d2).length = A.length + d1.length + d2.length := by rw [List.length_append, L1]
  have t0 : m_to s t 0 = A.length := by rw [m_to, r0, ix_nI (by omega)]
  have t1 : m_to s t 1 = A.length + d1.length := by rw [m_to, r1, ix_nI (by omega), L1]
  have t2 : m_to s t 2 = A.length + d1.length + d2.length := by rw [m_to, r2, ix_nI (by omega), L2]
  have f0 : m_fr s t 0 = 0 := rfl
  have f1 : m_fr s t 1 = A.length := t0
  have f2 : m_fr s t 2 = A.length + d1.length := t1
  have c0 : m_code s t 0 = A := by
    rw [m_code, f0, t0, Nat.sub_zero]
    refine m_cd_eq A 0 (fun j hj => ?_)
    rw [Nat.zero_add, hc j (by omega), List.getD_eq_getElem?_getD, List.getD_eq_getElem?_getD, List.getElem?_append_left (by rw [L1]; omega), List.getElem?_append_left hj]
  have c1 : m_code s t 1 = d1 := by
    rw [m_code, f1, t1, show A.length + d1.length - A.length = d1.length by omega]
    refine m_cd_eq d1 A.length (fun j hj => ?_)
    rw [hc _ (by omega), List.getD_eq_getElem?_getD, List.getD_eq_getElem?_getD, List.getElem?_append_left (by rw [L1]; omega), List.getElem?_append_right (by omega), show A.length + j - A.length = j by omega]
  have c2 : m_code s t 2 = d2 := by
    rw [m_code, f2, t2, show A.length + d1.length + d2.length - (A.length + d1.length) = d2.length by omega]
    refine m_cd_eq d2 _ (fun j hj => ?_)
    rw [hc _ (by omega), List.getD_eq_getElem?_getD, List.getD_eq_getElem?_getD, List.getElem?_append_right (by rw [L1]; omega), L1, show A.length + d1.length + j - (A.length + d1.length) = j by omega]
  refine ⟨⟨ht, fun pa hpa => ?_⟩, c0, c1, c2⟩
  have hp : pa = 0 ∨ pa = 1 ∨ pa = 2 := by omega
  rcases hp with rfl | rfl | rfl
  · rw [c0, t0, f0]
    exact ⟨r0, by omega, by omega, fun nm => by obtain ⟨v, hv⟩ := w0 nm; exact ⟨v, hv []⟩⟩
  · rw [c1, t1, f1]
    exact ⟨by rw [r1, L1], by omega, by omega, fun nm => by obtain ⟨v, hv⟩ := w1 nm; exact ⟨v, hv []⟩⟩
  · rw [c2, t2, f2]
    exact ⟨by rw [r2, L2], by omega, by omega, fun nm => by obtain ⟨v, hv⟩ := w2 nm; exact ⟨v, hv []⟩⟩
theorem tell_of {s : gS} {t : Nat} (ht : t < 6) {l : Nat → Int32} {P1 P2 P3 : pS} (e1 : p_1 l = P1) (e2 : p_2 l = P2) (e3 : p_3 l = P3) {P0 : pS} (e0 : p_cd P0 = []) (x1 : p_ex P0 P1) (x2 : p_ex P1 P2) (x3 : p_ex P2 P3) (r0 : s (47 + 3 * t) 0 = nI (p_cd P1).length) (r1 : s (47 + 3 * t) 1 = nI (p_cd P2).length) (r2 : s (47 + 3 * t) 2 = nI (p_cd P3).length) (h160 : (p_cd P3).length ≤ 160) (hc : ∀ i, i < (p_cd P3).length → s (46 + 3 * t) i = (p_cd P3).getD i 0) : m_tok s t ∧ ∀ pa, pa < 3 → ∀ mo nm, m_tell s t pa mo nm = t_of l pa mo nm := by
  obtain ⟨A, a1, w0⟩ := x1
  obtain ⟨d1, a2, w1⟩ := x2
  obtain ⟨d2, a3, w2⟩ := x3
  rw [e0, List.nil_append] at a1
  rw [a1] at a2 r0
  rw [a2] at a3 r1
  rw [a3] at r2 h160 hc
  obtain ⟨k1, c0, c1, c2⟩ := tok_of ht w0 w1 w2 r0 r1 r2 h160 hc
  refine ⟨k1, fun pa hpa mo nm => ?_⟩
  have hp : pa = 0 ∨ pa = 1 ∨ pa = 2 := by omega
  rcases hp with rfl | rfl | rfl
  · have e : p_seg l 0 = A := by rw [p_seg, if_pos rfl, e1, a1]
    rw [m_tell, c0, t_of, e]
  · have e : p_seg l 1 = d1 := by rw [p_seg, if_neg (by decide), if_pos rfl, e1, e2, a2, a1, List.drop_left]
    rw [m_tell, c1, t_of, e]
  · have e : p_seg l 2 = d2 := by rw [p_seg, if_neg (by decide), if_neg (by decide), e2, e3, a3, a2, List.drop_left]
    rw [m_tell, c2, t_of, e]
theorem k_X2_readT {h : Nat} (hh : 47 ≤ h) (σ : gS) {b : gF} {n t : Nat} (ht : t < 6) (hn : n ≤ 160) (h1 : σ 19 1 = nI n) (hb : ∀ i, i < n → σ 20 i = b i) (hbb : ∀ k, k < n → g_in (b k) 0 255) : g_Met yX2_read cX2_read 3 (some .int) h kR [.ref 19, .ref (45 + 3 * t)] σ (fun rv s => s 19 2 = nI t ∧ rff t σ s ∧ s 19 1 = 0 ∧ (p_fa (p_end (q_l b n)) = none → rv = some (.int (-1)) ∧ m_tok s t ∧ ∀ pa, pa < 3 → ∀ mo nm, m_tell s t pa mo nm = t_of (q_l b n) pa mo nm) ∧ ∀ f, p_fa (p_end (q_l b n)) = some f → rv = some (.int (nI f)) ∧ f ≤ 200) := by
  refine w_X2_read (by omega) ht ?_
  unfold P_X2_read
  generalize hs0 : g_up (g_up (g_up (g_up (g_up σ 19 2 (nI t)) 19 3 0) 19 4 0) 19 8 0) 19 9 (-1) = s0
  have a20 : s0 20 = σ 20 := by rw [← hs0]; repeat rw [g_up_ne (by decide)]
  have a1 : s0 19 1 = nI n := by rw [← hs0]; repeat rw [u_ne (by decide)]; exact h1
  have a2 : s0 19 2 = nI t := by rw [← hs0, u_ne (by decide), u_ne (by decide), u_ne (by decide), u_ne (by decide), u_eq]
  have a3 : s0 19 3 = nI 0 := by rw [← hs0, u_ne (by decide), u_ne (by decide), u_ne (by decide), u_eq]; rfl
  have a4 : s0 19 4 = nI 0 := by rw [← hs0, u_ne (by decide), u_ne (by decide), u_eq]; rfl
  have a8 : s0 19 8 = nI 0 := by rw [← hs0, u_ne (by decide), u_eq]; rfl
  have a9 : s0 19 9 = -1 := by rw [← hs0, u_eq]
  have f0 : rff t σ s0 := fun a x y z => by rw [← hs0]; repeat rw [g_up_ne x]
  refine g_call.i (c_X2_next0 s0 a1 hn (fun k hk => by rw [a20, hb k hk]; exact hbb k hk) (Nat.zero_le n) a4) (by omega) (fun rv s hq => ?_)
  obtain ⟨rfl, hl⟩ := hq
  have eb : ∀ i, i < n → s0 20 i = b i := fun i hi => by rw [a20]; exact hb i hi
  rw [q_l_congr eb] at hl
  obtain ⟨r1, r2, r3, ⟨a', r4, r5, r6⟩, r7, r8⟩ := hl
  obtain ⟨c1, c2, c3, c4⟩ := q_lex_pos (b := b) hn (Nat.zero_le n)
  have R : ∀ j, j ≠ 4 → j ≠ 5 → j ≠ 6 → j ≠ 7 → s 19 j = s0 19 j := r8
  have hx0 : g_rx b n t s (p_start (q_l b n)) := by
    refine ⟨⟨hn, ht, (R 1 (by decide) (by decide) (by decide) (by decide)).trans a1, (R 2 (by decide) (by decide) (by decide) (by decide)).trans a2, fun i hi => by rw [r7 20 (by decide)]; exact eb i hi⟩, ⟨r1, r2, ?_, (R 8 (by decide) (by decide) (by decide) (by decide)).trans a8, Nat.zero_le 5, r3⟩, ⟨a', r4, by omega, r6⟩, ⟨fun _ => (R 9 (by decide) (by decide) (by decide) (by decide)).trans a9, fun f hf => absurd hf (by show ¬ (none : Option Nat) = some f; exact fun z => by cases z)⟩, ⟨0, (R 3 (by decide) (by decide) (by decide) (by decide)).trans a3, by omega, fun _ => ⟨rfl, fun i hi => absurd hi (Nat.not_lt_zero i)⟩⟩⟩
    show (q_lex (q_l b n) 0).2.2.1 ≤ 200
    omega
  have fs : rff t σ s := f0.ztrans (fun a x y z => r7 a x)
  refine ⟨rfl, fun k i u => ∃ v, i = nI v ∧ k + v = 3 ∧ g_rx b n t u (p_pp (q_l b n) v) ∧ rff t σ u ∧ (p_fa (p_pp (q_l b n) v) = none → ∀ w, w < v → u (47 + 3 * t) w = nI (p_cd (p_pp (q_l b n) (w + 1))).length), ⟨3, 0, rfl, rfl, hx0, fs, fun _ w hw => absurd hw (Nat.not_lt_zero w)⟩, fun k i u hI => ?_⟩
  obtain ⟨v, rfl, hk, hxu, hfu, hrow⟩ := hI
  refine ⟨fun g3 => ?_, fun g3 => ?_⟩
  · have hv := (n_lt (b := 3) (by omega) (by omega)).mp g3
    obtain ⟨o1, o2, o3⟩ := pp_fine (b := b) hn v (by omega)
    obtain ⟨k1, k2⟩ := n_key (v := v) (by omega)
    have ek : (103 : Int32) + nI v = nI (103 + v) := nI_add 103 v
    rw [ek]
    refine g_call.i (c_X2_need u hxu o1 hbb (nI (103 + v)) k2) (by omega) (fun rv u1 hq => ?_)
    obtain ⟨rfl, hx1, hf1⟩ := hq
    have f1 := p_need_fine (b := b) hn k1 k2 _ o1
    have mE := (k_X2_all (b := b) (t := t) hn hbb 5).2.2
    have fE := (p_lv_fine (b := b) hn 5).2.2 _ f1.1
    refine ⟨rfl, g_call.i (mE u1 _ hx1 f1.1 (by rw [f1.2.2.2, o3])) (by omega) (fun rv u2 hq => ?_)⟩
    obtain ⟨rfl, hx2, hf2⟩ := hq
    refine ⟨rfl, g_call.i (c_X2_need u2 hx2 fE.1 hbb 59 (by decide)) (by omega) (fun rv u3 hq => ?_)⟩
    obtain ⟨rfl, hx3, hf3⟩ := hq
    have eP : p_need (q_l b n) 59 ((p_lv (q_l b n) 5).2.2 (p_need (q_l b n) (nI (103 + v)) (p_pp (q_l b n) v))) = p_pp (q_l b n) (v + 1) := by rw [pp_s, p_part]
    rw [eP] at hx3
    have hfr := (hf1.trans hf2).trans hf3
    refine ⟨rfl, t, hx3.1.2.2.2.1, ht, v, rfl, hv, k - 1, by omega, v + 1, nI_1 v, by omega, hx3.zup _ _, (hfu.ztrans hfr.zf).ztrans (fun a x y z => g_up_ne z), fun z w hw => ?_⟩
    by_cases e : w = v
    · subst e
      rw [u_eq]
      obtain ⟨-, -, -, -, ⟨len, l1, l2, l3⟩⟩ := hx3
      rw [l1, (l3 z).1]
    · rw [u_ne e, hfr _ (by omega) (by omega)]
      exact hrow (pp_back (b := b) hn (by omega) z).1 w (by omega)
  · have ev : v = 3 := by
      rcases Nat.lt_or_ge v 3 with z | z
      · exact absurd ((n_lt (b := 3) (by omega) (by omega)).mpr z) g3
      · omega
    subst ev
    obtain ⟨o1, o2, o3⟩ := pp_fine (b := b) hn 3 (by omega)
    refine g_call.i (c_X2_need u hxu o1 hbb 1 (by decide)) (by omega) (fun rv u1 hq => ?_)
    obtain ⟨rfl, hx1, hf1⟩ := hq
    have eE : p_need (q_l b n) 1 (p_pp (q_l b n) 3) = p_end (q_l b n) := by rw [pp_3, p_end]
    have e19 : g_up u1 19 1 0 (46 + 3 * t) = u1 (46 + 3 * t) := g_up_ne (by omega)
    have e47 : g_up u1 19 1 0 (47 + 3 * t) = u (47 + 3 * t) := by rw [g_up_ne (by omega), hf1 _ (by omega) (by omega)]
    rw [eE] at hx1
    refine ⟨rfl, by rw [u_ne (by decide)]; exact hx1.1.2.2.2.1, (hfu.ztrans hf1.zf).ztrans (fun a x y z => g_up_ne x), u_eq _ _ _ _, fun z => ?_, fun f hf => ?_⟩
    · obtain ⟨-, -, -, ⟨m1, -⟩, ⟨len, l1, l2, l3⟩⟩ := hx1
      obtain ⟨l4, l5⟩ := l3 z
      have z' := z
      rw [← eE] at z l4 l5
      obtain ⟨z3, zc⟩ := need_1 z
      rw [zc] at l4 l5
      obtain ⟨b3, x3⟩ := pp_bk (b := b) hn (v := 2) (w := 3) (by omega) rfl z3
      obtain ⟨b2, x2⟩ := pp_bk (b := b) hn (v := 1) (w := 2) (by omega) rfl b3
      obtain ⟨b1, x1⟩ := pp_bk (b := b) hn (v := 0) (w := 1) (by omega) rfl b2
      have hr := hrow z3
      have hr0 := hr 0 (by decide)
      have hr1 := hr 1 (by decide)
      have hr2 := hr 2 (by decide)
      have es : p_cd (p_pp (q_l b n) 0) = [] := rfl
      have E1 := (pp_1 (q_l b n)).symm
      have E2 := (pp_2 (q_l b n)).symm
      have E3 := (pp_3 (q_l b n)).symm
      simp only [Nat.zero_add, Nat.reduceAdd] at hr0 hr1 hr2
      generalize p_pp (q_l b n) 0 = P0 at es x1
      generalize p_pp (q_l b n) 1 = P1 at x1 x2 hr0 E1
      generalize p_pp (q_l b n) 2 = P2 at x2 x3 hr1 E2
      generalize p_pp (q_l b n) 3 = P3 at x3 hr2 l4 l5 E3
      have m9 := m1 z'
      refine ⟨by rw [m9], tell_of ht E1 E2 E3 es x1 x2 x3 (by rw [e47]; exact hr0) (by rw [e47]; exact hr1) (by rw [e47]; exact hr2) (by omega) (fun i hi => by rw [e19]; exact l5 i (by omega))⟩
    · obtain ⟨-, -, -, ⟨-, m2⟩, -⟩ := hx1
      obtain ⟨m3, m4⟩ := m2 f hf
      exact ⟨by rw [m3], m4⟩
theorem k_X2_read {h : Nat} (hh : 47 ≤ h) (σ : gS) {b : gF} {n t : Nat} (ht : t < 6) (hn : n ≤ 160) (h1 : σ 19 1 = nI n) (hb : ∀ i, i < n → σ 20 i = b i) (hbb : ∀ k, k < n → g_in (b k) 0 255) : g_Met yX2_read cX2_read 3 (some .int) h kR [.ref 19, .ref (45 + 3 * t)] σ (fun rv s => rff t σ s ∧ s 19 1 = 0 ∧ (p_fa (p_end (q_l b n)) = none → rv = some (.int (-1)) ∧ m_tok s t ∧ ∀ pa, pa < 3 → ∀ mo nm, m_tell s t pa mo nm = t_of (q_l b n) pa mo nm) ∧ ∀ f, p_fa (p_end (q_l b n)) = some f → rv = some (.int (nI f)) ∧ f ≤ 200) := k_mono (k_X2_readT hh σ ht hn h1 hb hbb) (fun _ _ hq => hq.2)
