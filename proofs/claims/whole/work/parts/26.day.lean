/-! A DAY, as one pure thing; the class's Day -/
/-- what a day is made of: texts, rain, sizes, stands, how many vessels, what falls, ups, sort, hands, water at first -/
abbrev mC : Type := (Nat → Int32 → gF → Int32) × gF × gF × gF × Nat × gF × Int32 × Int32 × Nat × gF
abbrev c_T (c : mC) := c.1
abbrev c_ra (c : mC) := c.2.1
abbrev c_sz (c : mC) := c.2.2.1
abbrev c_st (c : mC) := c.2.2.2.1
abbrev c_nv (c : mC) := c.2.2.2.2.1
abbrev c_su (c : mC) := c.2.2.2.2.2.1
abbrev c_up (c : mC) := c.2.2.2.2.2.2.1
abbrev c_so (c : mC) := c.2.2.2.2.2.2.2.1
abbrev c_hd (c : mC) := c.2.2.2.2.2.2.2.2.1
abbrev c_w0 (c : mC) := c.2.2.2.2.2.2.2.2.2
/-- how it stands: water, harm, wakes, over, first, alone, spilt, fallen -/
abbrev mD : Type := gF × Int32 × Int32 × Int32 × Int32 × Int32 × gF × Int32
abbrev d_w (x : mD) := x.1
abbrev d_hm (x : mD) := x.2.1
abbrev d_wk (x : mD) := x.2.2.1
abbrev d_ov (x : mD) := x.2.2.2.1
abbrev d_fi (x : mD) := x.2.2.2.2.1
abbrev d_al (x : mD) := x.2.2.2.2.2.1
abbrev d_sp (x : mD) := x.2.2.2.2.2.2.1
abbrev d_fa (x : mD) := x.2.2.2.2.2.2.2
def m_put (f : gF) (i : Nat) (v : Int32) : gF := fun j => if j = i then v else f j
def m_mn (a b : Int32) : Int32 := if b < a then b else a
def m_en : Option Nat → Int32
  | none => -1
  | some v => nI v
def m_on (st : gF) : Nat → Nat → Option Nat
  | 0, _ => none
  | k + 1, p => if st k = nI p then some k else m_on st k p
def m_H (c : mC) (h p : Nat) (size al : Int32) : Int32 := c_T c 1 999 (m_nm (c_ra c h) (nI h) (nI p) 0 size al)
/-- a vessel catches what it can: water, rest -/
def m_ca (r : Int32) (sz w : gF) : Option Nat → gF × Int32
  | none => (w, r)
  | some v => if 0 < r then (m_put w v (w v + m_mn r (sz v - w v)), r - m_mn r (sz v - w v)) else (w, r)
def m_c1 (c : mC) (h p : Nat) (x : mD) : mD × Int32 :=
  (((m_ca (c_su c (8 * h + p)) (c_sz c) (d_w x) (m_on (c_st c) (c_nv c) p)).1, d_hm x, d_wk x, d_ov x, d_fi x, d_al x, d_sp x, d_fa x + c_su c (8 * h + p)), (m_ca (c_su c (8 * h + p)) (c_sz c) (d_w x) (m_on (c_st c) (c_nv c) p)).2)
def m_s1 (c : mC) (h p : Nat) (y : mD × Int32) : mD :=
  if 0 < y.2 then (d_w y.1, d_hm y.1 + m_H c h p y.2 (d_al y.1), d_wk y.1, d_ov y.1 + y.2, (if d_fi y.1 = -1 then nI h else d_fi y.1), d_al y.1, m_put (d_sp y.1) p y.2, d_fa y.1)
  else (d_w y.1, d_hm y.1, d_wk y.1, d_ov y.1, d_fi y.1, d_al y.1, m_put (d_sp y.1) p y.2, d_fa y.1)
def m_pf (c : mC) (h : Nat) : Nat → Nat → mD → mD
  | 0, _, x => x
  | k + 1, p, x => m_pf c h k (p + 1) (m_s1 c h p (m_c1 c h p x))
def m_fu (c : mC) (w : gF) (v : Nat) : Int32 := if c_so c = 0 then w v else w v - c_sz c v
def m_ns (c : mC) (w : gF) : Nat → Nat → Option Nat → Int32 → Option Nat
  | 0, _, nx, _ => nx
  | k + 1, v, nx, mo => if ¬ c_st c v = -1 ∧ 0 < w v ∧ (nx = none ∨ mo < m_fu c w v) then m_ns c w k (v + 1) (some v) (m_fu c w v) else m_ns c w k (v + 1) nx mo
def m_nx (c : mC) (w : gF) : Option Nat := m_ns c w (c_nv c) 0 none 0
def m_em (c : mC) : Nat → gF → gF
  | 0, w => w
  | k + 1, w => match m_nx c w with
    | none => w
    | some v => m_em c k (m_put w v 0)
def m_bit (up : Int32) (h : Nat) : Prop := ¬ ((up >>> (nI h &&& 31)) &&& 1) = 0
def m_wake (c : mC) (h : Nat) (x : mD) : mD :=
  if ((c_up c >>> (nI h &&& 31)) &&& 1) = 0 then x
  else (m_em c (c_hd c) (d_w x), d_hm x, d_wk x + c_T c 2 999 (m_nm (c_ra c h) (nI h) 0 0 0 (d_al x)), d_ov x, d_fi x, 0, d_sp x, d_fa x)
def m_al1 (x : mD) : mD := (d_w x, d_hm x, d_wk x, d_ov x, d_fi x, d_al x + 1, d_sp x, d_fa x)
def m_hr (c : mC) (h : Nat) (x : mD) : mD := m_al1 (m_pf c h 8 0 (m_wake c h x))
def m_go (c : mC) : Nat → Nat → mD → mD
  | 0, _, x => x
  | k + 1, h, x => m_go c k (h + 1) (m_hr c h x)
def m_x0 (c : mC) : mD := (c_w0 c, 0, 0, 0, -1, 0, fun _ => 0, 0)
def m_cost (x : mD) : Int32 := d_hm x + d_wk x
theorem m_go_snoc (c : mC) : ∀ (k h : Nat) (x : mD), m_go c (k + 1) h x = m_hr c (h + k) (m_go c k h x)
  | 0, _, _ => rfl
  | k + 1, h, x => by
    rw [m_go, m_go_snoc c k (h + 1) (m_hr c h x), m_go, show h + 1 + k = h + (k + 1) by omega]
/-- the class's memory as a day that runs -/
def xr (s : gS) (c : mC) (t : Nat) : Prop :=
  x_tx s t (c_T c) ∧ (∀ h, h < 24 → s 34 h = c_ra c h) ∧ (c_nv c ≤ 5 ∧ s 1 9 = nI (c_nv c)) ∧ (∀ v, v < c_nv c → s 7 v = c_sz c v) ∧ (∀ v, v < c_nv c → s 27 v = c_st c v) ∧ (∀ v, v < c_nv c → s 9 v = c_w0 c v) ∧ (∀ i, i < 192 → s 36 i = c_su c i) ∧ (s 26 3 = c_up c ∧ s 26 5 = c_so c ∧ s 26 4 = nI (c_hd c) ∧ c_hd c ≤ 5)
def xd (s : gS) (c : mC) (x : mD) : Prop :=
  (∀ v, v < c_nv c → s 29 v = d_w x v) ∧ (s 26 13 = d_hm x ∧ s 26 14 = d_wk x ∧ s 26 15 = d_ov x ∧ s 26 16 = d_fi x ∧ s 26 12 = d_al x ∧ s 26 17 = d_fa x) ∧ ∀ p, p < 8 → s 30 p = d_sp x p
def xon (s : gS) (c : mC) : Prop := ∀ p, p < 8 → s 28 p = m_en (m_on (c_st c) (c_nv c) p)
def xm (s : gS) (c : mC) : Prop := ∀ h p q a, h < 24 → p < 8 → q ≤ 100000 → a < 24 → s 31 (8 * h + p) = nI (24 * q + a) → s 32 (8 * h + p) = m_H c h p (nI q) (nI a)
/-- what a run leaves alone -/
def xst (σ s : gS) : Prop := (∀ a, a ≠ 24 → a ≠ 25 → a ≠ 26 → a ≠ 28 → a ≠ 29 → a ≠ 30 → a ≠ 31 → a ≠ 32 → s a = σ a) ∧ s 26 3 = σ 26 3 ∧ s 26 4 = σ 26 4 ∧ s 26 5 = σ 26 5
theorem xst.refl (σ : gS) : xst σ σ := ⟨fun _ _ _ _ _ _ _ _ _ => rfl, rfl, rfl, rfl⟩
theorem xst.trans {σ s u : gS} (h1 : xst σ s) (h2 : xst s u) : xst σ u := ⟨fun a b1 b2 b3 b4 b5 b6 b7 b8 => (h2.1 a b1 b2 b3 b4 b5 b6 b7 b8).trans (h1.1 a b1 b2 b3 b4 b5 b6 b7 b8), h2.2.1.trans h1.2.1, h2.2.2.1.trans h1.2.2.1, h2.2.2.2.trans h1.2.2.2⟩
theorem xr.same {σ s : gS} {c : mC} {t : Nat} (h : xr σ c t) (e : xst σ s) : xr s c t := by
  obtain ⟨h1, h2, h3, h4, h5, h6, h7, h8⟩ := h
  obtain ⟨e0, e1, e2, e3⟩ := e
  have k34 := e0 34 (by decide) (by decide) (by decide) (by decide) (by decide) (by decide) (by decide) (by decide)
  have k1 := e0 1 (by decide) (by decide) (by decide) (by decide) (by decide) (by decide) (by decide) (by decide)
  have k7 := e0 7 (by decide) (by decide) (by decide) (by decide) (by decide) (by decide) (by decide) (by decide)
  have k27 := e0 27 (by decide) (by decide) (by decide) (by decide) (by decide) (by decide) (by decide) (by decide)
  have k9 := e0 9 (by decide) (by decide) (by decide) (by decide) (by decide) (by decide) (by decide) (by decide)
  have k36 := e0 36 (by decide) (by decide) (by decide) (by decide) (by decide) (by decide) (by decide) (by decide)
  have k23 := e0 23 (by decide) (by decide) (by decide) (by decide) (by decide) (by decide) (by decide) (by decide)
  refine ⟨h1.same (by rw [k23]) (e0 _ (by omega) (by omega) (by omega) (by omega) (by omega) (by omega) (by omega) (by omega)) (e0 _ (by omega) (by omega) (by omega) (by omega) (by omega) (by omega) (by omega) (by omega)), fun h a => by rw [k34]; exact h2 h a, ⟨h3.1, by rw [k1]; exact h3.2⟩, fun v a => by rw [k7]; exact h4 v a, fun v a => by rw [k27]; exact h5 v a, fun v a => by rw [k9]; exact h6 v a, fun i a => by rw [k36]; exact h7 i a, by rw [e1]; exact h8.1, by rw [e3]; exact h8.2.1, by rw [e2]; exact h8.2.2.1, h8.2.2.2⟩
/-- what holds of a day by itself -/
def c_ok (c : mC) : Prop := (∀ v, v < c_nv c → ∃ W S, c_w0 c v = nI W ∧ c_sz c v = nI S ∧ W ≤ S ∧ S ≤ 99) ∧ (∀ i, i < 192 → ∃ q, c_su c i = nI q ∧ q ≤ 100000) ∧ ∀ pa M nm, M ≤ 1000000 → ∃ q, q ≤ M ∧ c_T c pa (nI M) nm = nI q
def m_gd (c : mC) (h : Nat) (x : mD) : Prop := (∀ v, v < c_nv c → ∃ W S, d_w x v = nI W ∧ c_sz c v = nI S ∧ W ≤ S ∧ S ≤ 99) ∧ ∃ a, d_al x = nI a ∧ a ≤ h
theorem m_mn_n {a b : Nat} (ha : a ≤ 1000000) (hb : b ≤ 1000000) : m_mn (nI a) (nI b) = nI (min a b) := by
  unfold m_mn
  by_cases h : b < a
  · rw [if_pos ((n_lt hb ha).mpr h), Nat.min_eq_right (by omega)]
  · rw [if_neg (fun z => h ((n_lt hb ha).mp z)), Nat.min_eq_left (by omega)]
theorem m_on_lt {st : gF} : ∀ {k p v : Nat}, m_on st k p = some v → v < k
  | 0, _, _, h => by cases h
  | k + 1, p, v, h => by
    rw [m_on] at h
    split at h
    · cases h; omega
    · have := m_on_lt h; omega
/-- a vessel catches: what comes of it -/
theorem m_ca_ok {c : mC} {h : Nat} {x : mD} (hg : m_gd c h x) {q : Nat} (hq : q ≤ 100000) (p : Nat) : (∀ v, v < c_nv c → ∃ W S, (m_ca (nI q) (c_sz c) (d_w x) (m_on (c_st c) (c_nv c) p)).1 v = nI W ∧ c_sz c v = nI S ∧ W ≤ S ∧ S ≤ 99) ∧ ∃ r, (m_ca (nI q) (c_sz c) (d_w x) (m_on (c_st c) (c_nv c) p)).2 = nI r ∧ r ≤ q := by
  cases ho : m_on (c_st c) (c_nv c) p with
  | none => exact ⟨hg.1, q, rfl, Nat.le_refl _⟩
  | some v =>
    have hv := m_on_lt ho
    obtain ⟨W, S, e1, e2, h1, h2⟩ := hg.1 v hv
    simp only [m_ca]
    by_cases h0 : (0 : Int32) < nI q
    · rw [if_pos h0, e1, e2, pk_sub h1, m_mn_n (by omega) (by omega)]
      refine ⟨fun u hu => ?_, q - min q (S - W), pk_sub (by omega), by omega⟩
      show ∃ W' S', m_put (d_w x) v (nI W + nI (min q (S - W))) u = nI W' ∧ _
      by_cases e : u = v
      · subst e
        exact ⟨W + min q (S - W), S, by rw [m_put, if_pos rfl, nI_add], e2, by omega, h2⟩
      · obtain ⟨W', S', a1, a2, a3, a4⟩ := hg.1 u hu
        exact ⟨W', S', by rw [m_put, if_neg e]; exact a1, a2, a3, a4⟩
    · rw [if_neg h0]
      exact ⟨hg.1, q, rfl, Nat.le_refl _⟩
theorem m_p1_gd {c : mC} (hc : c_ok c) {h : Nat} {x : mD} (hg : m_gd c h x) {p : Nat} (hi : 8 * h + p < 192) : m_gd c h (m_s1 c h p (m_c1 c h p x)) := by
  obtain ⟨q, e, hq⟩ := hc.2.1 _ hi
  have := m_ca_ok hg hq p
  rw [← e] at this
  unfold m_s1
  split
  · exact ⟨this.1, hg.2⟩
  · exact ⟨this.1, hg.2⟩
theorem m_pf_gd {c : mC} (hc : c_ok c) {h : Nat} (hh : h < 24) : ∀ (k p : Nat) (x : mD), k + p = 8 → m_gd c h x → m_gd c h (m_pf c h k p x)
  | 0, _, _, _, hg => hg
  | k + 1, p, x, hk, hg => m_pf_gd hc hh k (p + 1) _ (by omega) (m_p1_gd hc hg (by omega))
theorem m_em_gd {c : mC} : ∀ (k : Nat) (w : gF), (∀ v, v < c_nv c → ∃ W S, w v = nI W ∧ c_sz c v = nI S ∧ W ≤ S ∧ S ≤ 99) → ∀ v, v < c_nv c → ∃ W S, m_em c k w v = nI W ∧ c_sz c v = nI S ∧ W ≤ S ∧ S ≤ 99
  | 0, w, h => h
  | k + 1, w, h => by
    rw [m_em]
    cases hn : m_nx c w with
    | none => exact h
    | some u =>
      refine m_em_gd k _ (fun v hv => ?_)
      obtain ⟨W, S, a1, a2, a3, a4⟩ := h v hv
      by_cases e : v = u
      · exact ⟨0, S, by rw [m_put, if_pos e]; rfl, a2, by omega, a4⟩
      · exact ⟨W, S, by rw [m_put, if_neg e]; exact a1, a2, a3, a4⟩
theorem m_wake_gd {c : mC} {h : Nat} {x : mD} (hg : m_gd c h x) : m_gd c h (m_wake c h x) := by
  unfold m_wake
  split
  · exact hg
  · exact ⟨m_em_gd _ _ hg.1, 0, rfl, by omega⟩
theorem m_hr_gd {c : mC} (hc : c_ok c) {h : Nat} (hh : h < 24) {x : mD} (hg : m_gd c h x) : m_gd c (h + 1) (m_hr c h x) := by
  obtain ⟨g1, a, g2, g3⟩ := m_pf_gd hc hh 8 0 _ rfl (m_wake_gd hg)
  exact ⟨g1, a + 1, by show d_al _ + 1 = _; rw [g2, nI_1], by omega⟩
theorem m_x0_gd {c : mC} (hc : c_ok c) : m_gd c 0 (m_x0 c) := ⟨hc.1, 0, rfl, Nat.le_refl _⟩
theorem m_go_gd {c : mC} (hc : c_ok c) : ∀ k, k ≤ 24 → m_gd c k (m_go c k 0 (m_x0 c))
  | 0, _ => m_x0_gd hc
  | k + 1, hk => by
    rw [m_go_snoc, Nat.zero_add]
    exact m_hr_gd hc (by omega) (m_go_gd hc k (by omega))
/-- costs grow, and stay small -/
def m_le (A B : Nat) (x y : mD) : Prop := ∀ a b, d_hm x = nI a → d_wk x = nI b → ∃ a' b', d_hm y = nI a' ∧ d_wk y = nI b' ∧ a ≤ a' ∧ a' ≤ a + A ∧ b ≤ b' ∧ b' ≤ b + B
theorem m_p1_le {c : mC} (hc : c_ok c) (h p : Nat) (x : mD) : m_le 999 0 x (m_s1 c h p (m_c1 c h p x)) := by
  intro a b e1 e2
  unfold m_s1
  split
  · obtain ⟨q, hq, e⟩ := hc.2.2 1 999 (m_nm (c_ra c h) (nI h) (nI p) 0 (m_c1 c h p x).2 (d_al x)) (by decide)
    refine ⟨a + q, b, ?_, e2, by omega, by omega, by omega, by omega⟩
    show d_hm x + m_H c h p _ _ = _
    rw [e1, ← nI_add, ← e]
    rfl
  · exact ⟨a, b, e1, e2, by omega, by omega, by omega, by omega⟩
theorem m_pf_le {c : mC} (hc : c_ok c) (h : Nat) : ∀ (k p : Nat) (x : mD), m_le (999 * k) 0 x (m_pf c h k p x)
  | 0, _, x => fun a b e1 e2 => ⟨a, b, e1, e2, by omega, by omega, by omega, by omega⟩
  | k + 1, p, x => fun a b e1 e2 => by
    obtain ⟨a1, b1, f1, f2, g1, g2, g3, g4⟩ := m_p1_le hc h p x a b e1 e2
    obtain ⟨a2, b2, k1, k2, l1, l2, l3, l4⟩ := m_pf_le hc h k (p + 1) _ a1 b1 f1 f2
    exact ⟨a2, b2, k1, k2, by omega, by omega, by omega, by omega⟩
theorem m_hr_le {c : mC} (hc : c_ok c) (h : Nat) (x : mD) : m_le 8000 1000 x (m_hr c h x) := by
  intro a b e1 e2
  have hw : ∃ b', d_hm (m_wake c h x) = nI a ∧ d_wk (m_wake c h x) = nI b' ∧ b ≤ b' ∧ b' ≤ b + 999 := by
    unfold m_wake
    split
    · exact ⟨b, e1, e2, by omega, by omega⟩
    · obtain ⟨q, hq, e⟩ := hc.2.2 2 999 (m_nm (c_ra c h) (nI h) 0 0 0 (d_al x)) (by decide)
      refine ⟨b + q, e1, ?_, by omega, by omega⟩
      show d_wk x + _ = _
      rw [e2, ← nI_add, ← e]
      rfl
  obtain ⟨b1, f1, f2, g1, g2⟩ := hw
  obtain ⟨a2, b2, k1, k2, l1, l2, l3, l4⟩ := m_pf_le hc h 8 0 _ a b1 f1 f2
  exact ⟨a2, b2, k1, k2, by omega, by omega, by omega, by omega⟩
theorem m_go_le {c : mC} (hc : c_ok c) : ∀ (k h : Nat) (x : mD), m_le (8000 * k) (1000 * k) x (m_go c k h x)
  | 0, _, x => fun a b e1 e2 => ⟨a, b, e1, e2, by omega, by omega, by omega, by omega⟩
  | k + 1, h, x => fun a b e1 e2 => by
    obtain ⟨a1, b1, f1, f2, g1, g2, g3, g4⟩ := m_hr_le hc h x a b e1 e2
    obtain ⟨a2, b2, k1, k2, l1, l2, l3, l4⟩ := m_go_le hc k (h + 1) _ a1 b1 f1 f2
    exact ⟨a2, b2, k1, k2, by omega, by omega, by omega, by omega⟩
theorem m_go_add (c : mC) : ∀ (k j h : Nat) (x : mD), m_go c (k + j) h x = m_go c j (h + k) (m_go c k h x)
  | 0, j, h, x => by rw [Nat.zero_add]; rfl
  | k + 1, j, h, x => by
    rw [show k + 1 + j = (k + j) + 1 by omega, m_go, m_go_add c k j (h + 1) _, m_go, show h + 1 + k = h + (k + 1) by omega]
/-- the cost at k hours: small; and not more than at n -/
theorem m_go_cost {c : mC} (hc : c_ok c) {k n : Nat} (hk : k ≤ n) (hn : n ≤ 24) : ∃ a b, m_cost (m_go c k 0 (m_x0 c)) = nI a ∧ m_cost (m_go c n 0 (m_x0 c)) = nI b ∧ a ≤ b ∧ b ≤ 216000 := by
  obtain ⟨a1, b1, f1, f2, g1, g2, g3, g4⟩ := m_go_le hc k 0 (m_x0 c) 0 0 rfl rfl
  obtain ⟨a2, b2, k1, k2, l1, l2, l3, l4⟩ := m_go_le hc (n - k) (0 + k) _ a1 b1 f1 f2
  rw [← m_go_add c k (n - k) 0, show k + (n - k) = n by omega] at k1 k2
  refine ⟨a1 + b1, a2 + b2, ?_, ?_, by omega, by omega⟩
  · rw [m_cost, f1, f2, nI_add]
  · rw [m_cost, k1, k2, nI_add]
