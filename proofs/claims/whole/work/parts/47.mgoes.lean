/-! THE REFERENCE'S DAY -/
theorem g_fd_none {P : Nat → Bool} : ∀ {k i : Nat}, (∀ j, i ≤ j → j < i + k → P j = false) → g_fd P k i = -1
  | 0, _, _ => rfl
  | k + 1, i, h => by
    rw [g_fd, if_neg (by rw [h i (Nat.le_refl i) (by omega)]; decide)]
    exact g_fd_none (fun j h1 h2 => h j (by omega) (by omega))
theorem g_fd_some {P : Nat → Bool} {v : Nat} (hv : P v = true) : ∀ {k i : Nat}, i ≤ v → v < i + k → (∀ j, i ≤ j → j < v → P j = false) → g_fd P k i = nI v
  | 0, _, h1, h2, _ => by omega
  | k + 1, i, h1, h2, h => by
    rw [g_fd]
    by_cases e : i = v
    · subst e; rw [if_pos hv]
    · rw [if_neg (by rw [h i (Nat.le_refl i) (by omega)]; decide)]
      exact g_fd_some hv (by omega) (by omega) (fun j a b => h j (by omega) b)
theorem m_on_none {st : gF} {p : Nat} : ∀ {k : Nat}, m_on st k p = none → ∀ v, v < k → ¬ st v = nI p
  | 0, _, v, hv => absurd hv (Nat.not_lt_zero v)
  | k + 1, h, v, hv => by
    rw [m_on] at h
    split at h
    · cases h
    · next e =>
      by_cases z : v = k
      · subst z; exact e
      · exact m_on_none h v (by omega)
theorem m_on_some {st : gF} {p v : Nat} : ∀ {k : Nat}, m_on st k p = some v → st v = nI p
  | 0, h => by cases h
  | k + 1, h => by
    rw [m_on] at h
    split at h
    · next e => cases h; exact e
    · exact m_on_some h
def c_dj (c : mC) : Prop := ∀ u v, u < c_nv c → v < c_nv c → u ≠ v → c_st c u = c_st c v → c_st c u = -1
theorem m_fd_on {c : mC} (hd : c_dj c) {f : gF} (hf : ∀ v, v < c_nv c → f v = c_st c v) {p : Nat} (hp : p < 8) : g_fd (fun j => decide (f j = nI p)) (c_nv c) 0 = m_en (m_on (c_st c) (c_nv c) p) := by
  cases ho : m_on (c_st c) (c_nv c) p with
  | none => exact g_fd_none (fun j _ h2 => decide_eq_false (by rw [hf j (by omega)]; exact m_on_none ho j (by omega)))
  | some v =>
    have hv := m_on_lt ho
    have e := m_on_some ho
    refine g_fd_some (v := v) (decide_eq_true (by rw [hf v hv]; exact e)) (Nat.zero_le v) (by omega) (fun j _ h2 => decide_eq_false (fun z => ?_))
    rw [hf j (by omega)] at z
    have := hd j v (by omega) hv (by omega) (z.trans e.symm)
    rw [z] at this
    exact nI_m1 (by omega) this
def mc (s : gS) (c : mC) (t : Nat) : Prop := my_tx s t (c_T c) ∧ (∀ h, h < 24 → s 67 h = c_ra c h) ∧ (c_nv c ≤ 5 ∧ s 63 19 = nI (c_nv c)) ∧ (∀ v, v < c_nv c → s 72 v = c_sz c v ∧ s 73 v = c_st c v ∧ s 74 v = c_w0 c v) ∧ (∀ i, i < 192 → s 75 i = c_su c i) ∧ (s 63 8 = c_up c ∧ s 63 10 = c_so c ∧ s 63 9 = nI (c_hd c) ∧ c_hd c ≤ 5)
/-- what a day leaves alone -/
def mgf (σ s : gS) : Prop := (∀ a, a ≠ 63 → a ≠ 76 → a ≠ 77 → a ≠ 78 → a ≠ 79 → s a = σ a) ∧ ∀ j, (j < 20 ∨ (34 < j ∧ j < 39) ∨ 42 < j) → s 63 j = σ 63 j
theorem mgf.zrefl (σ : gS) : mgf σ σ := ⟨fun _ _ _ _ _ _ => rfl, fun _ _ => rfl⟩
theorem mgf.ztrans {σ s u : gS} (h1 : mgf σ s) (h2 : mgf s u) : mgf σ u := ⟨fun a b1 b2 b3 b4 b5 => (h2.1 a b1 b2 b3 b4 b5).trans (h1.1 a b1 b2 b3 b4 b5), fun j b => (h2.2 j b).trans (h1.2 j b)⟩
theorem mfr.zg {σ s : gS} (h : mfr σ s) : mgf σ s := ⟨fun a b _ _ _ _ => h.1 a b, fun j b => h.2 j (by omega)⟩
theorem mgf.zup {σ s : gS} (h : mgf σ s) {a : Nat} (j : Nat) (v : Int32) (ha : a = 76 ∨ a = 77 ∨ a = 78 ∨ a = 79) : mgf σ (g_up s a j v) := ⟨fun b b1 b2 b3 b4 b5 => by rw [g_up_ne (by omega)]; exact h.1 b b1 b2 b3 b4 b5, fun i b => by rw [g_up_ne (by omega)]; exact h.2 i b⟩
theorem mgf.zup63 {σ s : gS} (h : mgf σ s) {j : Nat} (v : Int32) (hj : 39 ≤ j ∧ j ≤ 42) : mgf σ (g_up s 63 j v) := ⟨fun b b1 b2 b3 b4 b5 => by rw [g_up_ne b1]; exact h.1 b b1 b2 b3 b4 b5, fun i b => by rw [u_ne (by omega)]; exact h.2 i b⟩
theorem mc.zgf {σ s : gS} {c : mC} {t : Nat} (h : mc σ c t) (e : mgf σ s) : mc s c t := by
  obtain ⟨h1, h2, h3, h4, h5, h6⟩ := h
  have E : ∀ a, 63 < a → a < 76 → s a = σ a := fun a x y => e.1 a (by omega) (by omega) (by omega) (by omega) (by omega)
  exact ⟨h1.zfr (e.2 4 (by omega)) (E 64 (by omega) (by omega)) (E 65 (by omega) (by omega)), fun a b => by rw [E 67 (by omega) (by omega)]; exact h2 a b, ⟨h3.1, by rw [e.2 19 (by omega)]; exact h3.2⟩, fun a b => by rw [E 72 (by omega) (by omega), E 73 (by omega) (by omega), E 74 (by omega) (by omega)]; exact h4 a b, fun a b => by rw [E 75 (by omega) (by omega)]; exact h5 a b, by rw [e.2 8 (by omega), e.2 9 (by omega), e.2 10 (by omega)]; exact h6⟩
/-- hours since one was up, by the ups alone -/
def m_al (up : Int32) : Nat → Nat
  | 0 => 0
  | h + 1 => if ((up >>> (nI (h + 1) &&& 31)) &&& 1) = 0 then m_al up h + 1 else 0
theorem m_al_le (up : Int32) : ∀ h, m_al up h ≤ h
  | 0 => Nat.le_refl 0
  | h + 1 => by
    have := m_al_le up h
    rw [m_al]
    split <;> omega
theorem m_p1_al (c : mC) (h p : Nat) (x : mD) : d_al (m_s1 c h p (m_c1 c h p x)) = d_al x := by
  unfold m_s1
  split <;> rfl
theorem m_pf_al (c : mC) (h : Nat) : ∀ (k p : Nat) (x : mD), d_al (m_pf c h k p x) = d_al x
  | 0, _, _ => rfl
  | k + 1, p, x => by rw [m_pf, m_pf_al c h k (p + 1), m_p1_al]
theorem m_wake_al (c : mC) : ∀ h, d_al (m_wake c h (m_go c h 0 (m_x0 c))) = nI (m_al (c_up c) h)
  | 0 => by
    unfold m_wake
    split <;> rfl
  | h + 1 => by
    have e : d_al (m_go c (h + 1) 0 (m_x0 c)) = nI (m_al (c_up c) h + 1) := by
      rw [m_go_snoc, Nat.zero_add]
      show d_al (m_pf c h 8 0 (m_wake c h (m_go c h 0 (m_x0 c)))) + 1 = _
      rw [m_pf_al, m_wake_al c h, nI_1]
    unfold m_wake
    rw [m_al]
    split
    · exact e
    · rfl
/-- notes of harm, if there are any -/
def mn (s : gS) (c : mC) : Prop := s 63 44 = 0 ∨ (s 63 44 = 1 ∧ (∀ i, i < 192 → ∃ q, c_su c i = nI q ∧ q ≤ 1300) ∧ ∀ h p q, h < 24 → p < 8 → q ≤ 1300 → s 79 ((8 * h + p) * 1301 + q) = -1 ∨ s 79 ((8 * h + p) * 1301 + q) = m_H c h p (nI q) (nI (m_al (c_up c) h)))
theorem mn.zsame {σ s : gS} {c : mC} (h : mn σ c) (e1 : s 63 44 = σ 63 44) (e2 : s 79 = σ 79) : mn s c := by
  unfold mn
  rw [e1, e2]
  exact h
theorem k_harmOf {h : Nat} (hh : 68 ≤ h) (σ : gS) {c : mC} {t : Nat} (hx : mc σ c t) (hn : mn σ c) {hr p q Q : Nat} (h24 : hr < 24) (hp : p < 8) (eQ : c_su c (8 * hr + p) = nI Q) (hQ : Q ≤ 100000) (hq : q ≤ Q) : g_Met yX8_harmOf cX8_harmOf 6 (some .int) h kM [.ref 63, .int (nI hr), .int (nI p), .int (nI q), .int (nI (m_al (c_up c) hr))] σ (fun rv s => rv = some (.int (m_H c hr p (nI q) (nI (m_al (c_up c) hr)))) ∧ mn s c ∧ (∀ a, a ≠ 63 → a ≠ 79 → s a = σ a) ∧ ∀ j, (j < 20 ∨ 34 < j) → s 63 j = σ 63 j) := by
  refine w_X8_harmOf (by omega) ?_
  unfold P_X8_harmOf
  have eH : c_T c 1 (if (1 : Nat) = 0 then 99 else 999) (m_nm (σ 67 hr) (nI hr) (nI p) 0 (nI q) (nI (m_al (c_up c) hr))) = m_H c hr p (nI q) (nI (m_al (c_up c) hr)) := by
    rw [hx.2.1 hr h24]
    rfl
  refine ⟨fun h0 => ?_, fun h0 => ?_⟩
  · refine g_call.i (k_says (h := 66) (by omega) σ hx.1 (w := 1) (by decide) h24 rfl (nI p) 0 (nI q) (nI (m_al (c_up c) hr))) (by omega) (fun rv s hq => ?_)
    obtain ⟨rfl, hf⟩ := hq
    rw [eH]
    exact ⟨_, rfl, rfl, Or.inl (by rw [hf.2 44 (by omega)]; exact h0), fun a a1 _ => hf.1 a a1, hf.2⟩
  · rcases hn with z | ⟨n1, n2, n3⟩
    · exact absurd z h0
    · obtain ⟨Q', eQ', hQ'⟩ := n2 (8 * hr + p) (by omega)
      have hQQ : Q = Q' := (nI_eq (by omega) (by omega)).mp (eQ.symm.trans eQ')
      have hq13 : q ≤ 1300 := by omega
      have eidx : (8 * nI hr + nI p) * 1301 + nI q = nI ((8 * hr + p) * 1301 + q) := by
        have e : nI (8 * hr + p) * 1301 = nI ((8 * hr + p) * 1301) := pk_mul _ 1301
        rw [n_8mul, e, nI_add]
      rw [eidx]
      refine ⟨(8 * hr + p) * 1301 + q, rfl, by omega, fun g => ?_, fun g => ⟨?_, Or.inr ⟨n1, n2, n3⟩, fun _ _ _ => rfl, fun _ _ => rfl⟩⟩
      · refine g_call.i (k_says (h := 66) (by omega) σ hx.1 (w := 1) (by decide) h24 rfl (nI p) 0 (nI q) (nI (m_al (c_up c) hr))) (by omega) (fun rv s hq => ?_)
        obtain ⟨rfl, hf⟩ := hq
        rw [eH]
        refine ⟨_, rfl, rfl, Or.inr ⟨by rw [g_up_ne (by decide), hf.2 44 (by omega)]; exact n1, n2, fun h' p' q' a1 a2 a3 => ?_⟩, fun a a1 a2 => by rw [g_up_ne a2]; exact hf.1 a a1, fun j hj => by rw [g_up_ne (by decide)]; exact hf.2 j hj⟩
        by_cases e : (8 * h' + p') * 1301 + q' = (8 * hr + p) * 1301 + q
        · have eh : h' = hr := by omega
          have ep : p' = p := by omega
          have eq1 : q' = q := by omega
          subst eh ep eq1
          right
          rw [u_eq]
        · rw [u_ne e, hf.1 79 (by decide)]
          exact n3 h' p' q' a1 a2 a3
      · rw [(n3 hr p q h24 hp hq13).resolve_left g]
theorem m_em_none {c : mC} {w : gF} (h : m_nx c w = none) : ∀ k, m_em c k w = w
  | 0 => rfl
  | k + 1 => by rw [m_em, h]
theorem k_empties {h : Nat} (hh : 6 ≤ h) (σ : gS) {c : mC} {t : Nat} (hx : mc σ c t) (w : gF) (hw : ∀ v, v < c_nv c → σ 76 v = w v) (hb : ∀ v, v < c_nv c → ∃ W S, w v = nI W ∧ c_sz c v = nI S ∧ W ≤ S ∧ S ≤ 99) : g_Met yX8_empties cX8_empties 5 none h kM [.ref 63] σ (fun rv s => rv = none ∧ (∀ v, v < c_nv c → s 76 v = m_em c (c_hd c) w v) ∧ ∀ a, a ≠ 76 → s a = σ a) := by
  obtain ⟨-, -, ⟨hn5, hnv⟩, hrow, -, ⟨-, hso, hhd, hhd5⟩⟩ := hx
  refine w_X8_empties (by omega) ?_
  unfold P_X8_empties
  refine ⟨fun k v1 s => ∃ n w', v1 = nI n ∧ k + n = c_hd c ∧ (∀ v, v < c_nv c → s 76 v = w' v) ∧ (∀ v, v < c_nv c → ∃ W S, w' v = nI W ∧ c_sz c v = nI S ∧ W ≤ S ∧ S ≤ 99) ∧ m_em c k w' = m_em c (c_hd c) w ∧ ∀ a, a ≠ 76 → s a = σ a, ⟨c_hd c, 0, w, rfl, rfl, hw, hb, rfl, fun _ _ => rfl⟩, fun k v1 s hI => ?_⟩
  obtain ⟨n, w', rfl, hk, hw', hb', hR, hf⟩ := hI
  rw [hf 63 (by decide), hhd, hnv, hso, hf 73 (by decide), hf 72 (by decide)]
  refine ⟨fun h1 => ?_, fun h1 => ?_⟩
  · have hn := (n_lt (by omega) (by omega)).mp h1
    obtain ⟨k, rfl⟩ : ∃ k', k = k' + 1 := ⟨k - 1, by omega⟩
    refine ⟨fun k2 v15 v16 => ∃ v nx mo, v16 = nI v ∧ v15 = m_en nx ∧ k2 + v = c_nv c ∧ (∀ u, nx = some u → u < v ∧ mo = m_fu c w' u) ∧ m_ns c w' k2 v nx mo = m_nx c w', ⟨c_nv c, 0, none, 0, rfl, rfl, rfl, fun u z => (by cases z), rfl⟩, fun k2 v15 v16 hI2 => ?_⟩
    obtain ⟨v, nx, mo, rfl, rfl, hk2, hnx, hR2⟩ := hI2
    have hm1 := m_en_m1 (fun u z => (hnx u z).1) (show v ≤ 1000000 by omega)
    refine ⟨fun h2 => ?_, fun h2 => ?_⟩
    · have hv := (n_lt (by omega) (by omega)).mp h2
      obtain ⟨k2, rfl⟩ : ∃ k', k2 = k' + 1 := ⟨k2 - 1, by omega⟩
      have no : ∀ (hn : ¬ (¬ c_st c v = -1 ∧ 0 < w' v ∧ (nx = none ∨ mo < m_fu c w' v))), ∃ k26, k26 < k2 + 1 ∧ ∃ v', ∃ nx', ∃ mo', nI v + 1 = nI v' ∧ m_en nx = m_en nx' ∧ k26 + v' = c_nv c ∧ (∀ u, nx' = some u → u < v' ∧ mo' = m_fu c w' u) ∧ m_ns c w' k26 v' nx' mo' = m_nx c w' := by
        intro hn
        refine ⟨k2, by omega, v + 1, nx, mo, nI_1 v, rfl, by omega, fun u hu => ⟨by have := (hnx u hu).1; omega, (hnx u hu).2⟩, ?_⟩
        rw [← hR2, m_ns, if_neg hn]
      have ye : ∀ (hn : ¬ c_st c v = -1 ∧ 0 < w' v ∧ (nx = none ∨ mo < m_fu c w' v)), ∃ k26, k26 < k2 + 1 ∧ ∃ v', ∃ nx', ∃ mo', nI v + 1 = nI v' ∧ nI v = m_en nx' ∧ k26 + v' = c_nv c ∧ (∀ u, nx' = some u → u < v' ∧ mo' = m_fu c w' u) ∧ m_ns c w' k26 v' nx' mo' = m_nx c w' := by
        intro hn
        refine ⟨k2, by omega, v + 1, some v, m_fu c w' v, nI_1 v, rfl, by omega, fun u hu => by (cases hu; exact ⟨by omega, rfl⟩), ?_⟩
        rw [← hR2, m_ns, if_pos hn]
      obtain ⟨e72, e73, -⟩ := hrow v hv
      refine ⟨v, rfl, by omega, ?_⟩
      rw [e72, e73, hw' v hv]
      refine ⟨fun x => (x = 0 ∧ ¬ (¬ c_st c v = -1 ∧ 0 < w' v)) ∨ (x = 1 ∧ ¬ c_st c v = -1 ∧ 0 < w' v), ⟨fun g => Or.inl ⟨rfl, fun z => z.1 g⟩, fun g => ?_⟩, fun x hJ => ⟨fun g => ?_, fun g => ?_⟩⟩
      · by_cases g2 : (0 : Int32) < w' v
        · rw [if_pos g2]; exact Or.inr ⟨rfl, g, g2⟩
        · rw [if_neg g2]; exact Or.inl ⟨rfl, fun z => g2 z.2⟩
      · rcases hJ with ⟨-, z⟩ | ⟨z, -⟩
        · exact no (fun y => z ⟨y.1, y.2.1⟩)
        · rw [z] at g; exact absurd g (by decide)
      · rcases hJ with ⟨z, -⟩ | ⟨-, y1, y2⟩
        · exact absurd z g
        · refine ⟨fun g3 => ye ⟨y1, y2, Or.inl (hm1.mp g3)⟩, fun g3 => ?_⟩
          cases hnxe : nx with
          | none => rw [hnxe] at g3; exact absurd rfl g3
          | some f =>
            subst hnxe
            obtain ⟨hfv, emo⟩ := hnx f rfl
            have hfn : f < c_nv c := by omega
            subst emo
            have dec : ∀ (P : Prop), (P ↔ m_fu c w' f < m_fu c w' v) → (P → ∃ k26, k26 < k2 + 1 ∧ ∃ v', ∃ nx', ∃ mo', nI v + 1 = nI v' ∧ nI v = m_en nx' ∧ k26 + v' = c_nv c ∧ (∀ u, nx' = some u → u < v' ∧ mo' = m_fu c w' u) ∧ m_ns c w' k26 v' nx' mo' = m_nx c w') ∧ (¬ P → ∃ k26, k26 < k2 + 1 ∧ ∃ v', ∃ nx', ∃ mo', nI v + 1 = nI v' ∧ m_en (some f) = m_en nx' ∧ k26 + v' = c_nv c ∧ (∀ u, nx' = some u → u < v' ∧ mo' = m_fu c w' u) ∧ m_ns c w' k26 v' nx' mo' = m_nx c w') := fun P hP => ⟨fun z => ye ⟨y1, y2, Or.inr (hP.mp z)⟩, fun z => no (fun y => y.2.2.elim (fun q => by cases q) (fun q => z (hP.mpr q)))⟩
            obtain ⟨Wv, Sv, ew, es, hws, hs99⟩ := hb' v hv
            obtain ⟨Wf, Sf, ewf, esf, hwsf, hs99f⟩ := hb' f hfn
            refine ⟨fun g4 => ⟨f, rfl, by omega, ?_⟩, fun g4 => ⟨f, rfl, by omega, ?_⟩⟩
            · rw [hw' f hfn]
              refine dec _ ?_
              unfold m_fu
              rw [if_pos g4, if_pos g4]
            · obtain ⟨e72f, -, -⟩ := hrow f hfn
              rw [e72f, hw' f hfn]
              refine dec _ ?_
              unfold m_fu
              rw [if_neg g4, if_neg g4, ew, es, ewf, esf, Int32.lt_iff_toInt_lt, Int32.lt_iff_toInt_lt, pk_sub_toInt (by omega) (by omega), pk_sub_toInt (by omega) (by omega), pk_sub_toInt (by omega) (by omega), pk_sub_toInt (by omega) (by omega)]
              omega
    · have hk0 : k2 = 0 := by
        rcases Nat.lt_or_ge v (c_nv c) with z | z
        · exact absurd ((n_lt (by omega) (by omega)).mpr z) h2
        · omega
      subst hk0
      have hnxe : nx = m_nx c w' := hR2
      rw [m_em] at hR
      refine ⟨fun g => ?_, fun g => ?_⟩
      · have e := hm1.mp g
        rw [hnxe] at e
        rw [e] at hR
        exact ⟨k, by omega, n + 1, w', nI_1 n, by omega, hw', hb', (m_em_none e k).trans hR, hf⟩
      · cases hc : m_nx c w' with
        | none => rw [hnxe, hc] at g; exact absurd rfl g
        | some f =>
          rw [hc] at hR hnxe
          have hf5 := (hnx f hnxe).1
          subst hnxe
          refine ⟨f, rfl, by omega, k, by omega, n + 1, m_put w' f 0, nI_1 n, by omega, fun u hu => ?_, fun u hu => ?_, hR, fun a ha => by rw [g_up_ne ha]; exact hf a ha⟩
          · by_cases e : u = f
            · subst e; rw [u_eq, m_put, if_pos rfl]
            · rw [u_ne e, m_put, if_neg e]; exact hw' u hu
          · obtain ⟨W, S, a1, a2, a3, a4⟩ := hb' u hu
            by_cases e : u = f
            · exact ⟨0, S, by rw [m_put, if_pos e]; rfl, a2, by omega, a4⟩
            · exact ⟨W, S, by rw [m_put, if_neg e]; exact a1, a2, a3, a4⟩
  · have : k = 0 := by
      rcases Nat.lt_or_ge n (c_hd c) with z | z
      · exact absurd ((n_lt (by omega) (by omega)).mpr z) h1
      · omega
    subst this
    exact ⟨rfl, fun v hv => by rw [← hR]; exact hw' v hv, hf⟩
