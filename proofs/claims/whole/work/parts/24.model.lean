/-! TOOLS -/
theorem u_eq (σ : gS) (k j : Nat) (v : Int32) : g_up σ k j v k j = v := by simp [g_up]
theorem u_ne {σ : gS} {k j j' : Nat} {v : Int32} (h : j' ≠ j) : g_up σ k j v k j' = σ k j' := by simp [g_up, h]
theorem n_lt {a b : Nat} (ha : a ≤ 1000000) (hb : b ≤ 1000000) : nI a < nI b ↔ a < b := nI_ltI (by omega) (by omega)
theorem n_eq {a b : Nat} (ha : a ≤ 1000000) (hb : b ≤ 1000000) : nI a = nI b ↔ a = b := nI_eq (by omega) (by omega)
theorem n_in {a lo hi : Nat} (ha : a ≤ 1000000) (hb : hi ≤ 1000000) (hl : lo ≤ 1000000) : g_in (nI a) (nI lo) (nI hi) ↔ lo ≤ a ∧ a ≤ hi := by
  unfold g_in
  rw [n_lt ha hl, n_lt hb ha]
  omega
theorem n_mul8 (a b : Nat) : nI a * 8 + nI b = nI (8 * a + b) := by
  have e : nI a * 8 = nI (a * 8) := pk_mul a 8
  rw [e, nI_add, Nat.mul_comm]
theorem n_8mul (a b : Nat) : 8 * nI a + nI b = nI (8 * a + b) := by
  have e : 8 * nI a = nI (8 * a) := pk_mul 8 a
  rw [e, nI_add]
/-- a number of a range, as a natural one -/
theorem n_of {x : Int32} {M : Nat} (h : g_in x 0 (nI M)) (hM : M ≤ 1000000) : ∃ a, a ≤ M ∧ x = nI a := g_natc h (nI_toInt (by omega))
/-! WHAT A TEXT TELLS -/
def m_cd (c : Nat → Int32) : Nat → Nat → List Int32
  | _, 0 => []
  | i, k + 1 => c i :: m_cd c (i + 1) k
def m_stk (f : Nat → Int32) : List Int32 → Prop
  | [] => True
  | x :: r => f r.length = x ∧ m_stk f r
theorem m_stk.ext {f g : Nat → Int32} : ∀ {st : List Int32}, m_stk f st → (∀ j, j < st.length → g j = f j) → m_stk g st
  | [], _, _ => trivial
  | x :: r, h, e => ⟨by rw [e r.length (by simp)]; exact h.1, m_stk.ext h.2 (fun j hj => e j (by simp; omega))⟩
def m_cl (mo v : Int32) : Int32 := if 0 < (if v < mo then v else mo) then (if v < mo then v else mo) else 0
def m_nm (ra hr pl rt sz go : Int32) : Nat → Int32
  | 0 => ra
  | 1 => hr
  | 2 => pl
  | 3 => rt
  | 4 => sz
  | _ => go
/-- the code of part pa of text t as the memory holds it -/
def m_fr (σ : gS) (t pa : Nat) : Nat := if pa = 0 then 0 else ix (σ (47 + 3 * t) (pa - 1))
def m_to (σ : gS) (t pa : Nat) : Nat := ix (σ (47 + 3 * t) pa)
def m_code (σ : gS) (t pa : Nat) : List Int32 := m_cd (σ (46 + 3 * t)) (m_fr σ t pa) (m_to σ t pa - m_fr σ t pa)
def m_tell (σ : gS) (t pa : Nat) (mo : Int32) (nm : Nat → Int32) : Int32 := m_cl mo ((e_run nm (m_code σ t pa) []).headD 0)
/-- text t is a good one -/
def m_tok (σ : gS) (t : Nat) : Prop := t < 6 ∧ ∀ pa, pa < 3 → σ (47 + 3 * t) pa = nI (m_to σ t pa) ∧ m_fr σ t pa ≤ m_to σ t pa ∧ m_to σ t pa ≤ 160 ∧ ∀ nm, ∃ v, e_run nm (m_code σ t pa) [] = [v]
theorem m_tok.same {σ s : gS} {t : Nat} (h : m_tok σ t) (h1 : s (46 + 3 * t) = σ (46 + 3 * t)) (h2 : s (47 + 3 * t) = σ (47 + 3 * t)) : m_tok s t ∧ ∀ pa mo nm, m_tell s t pa mo nm = m_tell σ t pa mo nm := by
  have e1 : ∀ pa, m_fr s t pa = m_fr σ t pa := fun pa => by simp only [m_fr, h2]
  have e2 : ∀ pa, m_to s t pa = m_to σ t pa := fun pa => by simp only [m_to, h2]
  have e3 : ∀ pa, m_code s t pa = m_code σ t pa := fun pa => by simp only [m_code, e1, e2, h1]
  refine ⟨⟨h.1, fun pa hpa => ?_⟩, fun pa mo nm => by simp only [m_tell, e3]⟩
  rw [e1, e2, e3, h2]
  exact h.2 pa hpa
/-! X3: joined, name, tells -/
theorem k_X3_joined {h : Nat} (hh : 6 ≤ h) (σ : gS) (sg a b : Int32) : g_Met yX3_joined cX3_joined 3 (some .int) h kX [.int sg, .int a, .int b] σ (fun rv s => rv = some (.int (e_bin sg a b)) ∧ s = σ) := by
  refine w_X3_joined hh ?_
  unfold P_X3_joined
  refine ⟨fun h1 => ?_, fun h1 => ⟨fun h2 => ?_, fun h2 => ⟨fun h3 => ?_, fun h3 => ⟨fun h4 => ?_, fun h4 => ⟨fun h5 => ?_, fun h5 => ⟨fun h6 => ?_, fun h6 => ⟨fun h7 => ?_, fun h7 => ?_⟩⟩⟩⟩⟩⟩⟩
  · subst h1
    refine ⟨fun h7 => ⟨?_, rfl⟩, fun h7 => ⟨?_, rfl⟩⟩
    · simp [e_bin, h7]
    · simp only [e_bin]
      by_cases hb : b = 0 <;> simp [hb, h7]
  · subst h2; exact ⟨by simp [e_bin], rfl⟩
  · subst h3; exact ⟨by simp [e_bin], rfl⟩
  · subst h4; exact ⟨by simp [e_bin], rfl⟩
  · subst h5; exact ⟨by simp [e_bin], rfl⟩
  · subst h6; exact ⟨by simp [e_bin], rfl⟩
  · refine ⟨?_, rfl⟩
    simp only [e_bin, if_neg h1, if_neg h2, if_neg h3, if_neg h4, if_neg h5, if_neg h6]
    by_cases hb : b = 0 <;> simp [hb, h7]
  · refine ⟨?_, rfl⟩
    simp only [e_bin, if_neg h1, if_neg h2, if_neg h3, if_neg h4, if_neg h5, if_neg h6]
    simp [h7]
theorem k_X3_name {h : Nat} (hh : 6 ≤ h) (σ : gS) (ra hr pl rt sz go : Int32) : g_Met yX3_name cX3_name 7 none h kX [.ref 23, .int ra, .int hr, .int pl, .int rt, .int sz, .int go] σ (fun rv s => rv = none ∧ (∀ j, j < 6 → s 24 j = m_nm ra hr pl rt sz go j) ∧ ∀ a, a ≠ 24 → s a = σ a) := by
  refine w_X3_name hh ?_
  unfold P_X3_name
  refine ⟨rfl, fun j hj => ?_, fun a ha => by simp only [g_up, if_neg ha]⟩
  match j, hj with
  | 0, _ => simp [g_up, m_nm]
  | 1, _ => simp [g_up, m_nm]
  | 2, _ => simp [g_up, m_nm]
  | 3, _ => simp [g_up, m_nm]
  | 4, _ => simp [g_up, m_nm]
  | 5, _ => simp [g_up, m_nm]
theorem e_nm6 {c : Int32} (h1 : c < 0) (h2 : ¬ c < -6) : ∃ j, -1 - c = nI j ∧ j < 6 := by
  rw [Int32.lt_iff_toInt_lt] at h1 h2
  have e0 : (0 : Int32).toInt = 0 := rfl
  have e6 : (-6 : Int32).toInt = -6 := rfl
  have hc : c.toInt = -1 ∨ c.toInt = -2 ∨ c.toInt = -3 ∨ c.toInt = -4 ∨ c.toInt = -5 ∨ c.toInt = -6 := by omega
  rcases hc with e | e | e | e | e | e
  · have : c = -1 := Int32.toInt_inj.mp e
    subst this; exact ⟨0, by decide, by decide⟩
  · have : c = -2 := Int32.toInt_inj.mp e
    subst this; exact ⟨1, by decide, by decide⟩
  · have : c = -3 := Int32.toInt_inj.mp e
    subst this; exact ⟨2, by decide, by decide⟩
  · have : c = -4 := Int32.toInt_inj.mp e
    subst this; exact ⟨3, by decide, by decide⟩
  · have : c = -5 := Int32.toInt_inj.mp e
    subst this; exact ⟨4, by decide, by decide⟩
  · have : c = -6 := Int32.toInt_inj.mp e
    subst this; exact ⟨5, by decide, by decide⟩
theorem e_step_nm {nm nm' : Nat → Int32} (he : ∀ j, j < 6 → nm j = nm' j) (c : Int32) (st : List Int32) : e_step nm c st = e_step nm' c st := by
  unfold e_step
  by_cases h1 : c < 0
  · by_cases h2 : c < -6
    · rw [if_neg (not_not_intro h1), if_neg (not_not_intro h1), if_neg (not_not_intro h2), if_neg (not_not_intro h2)]
    · rw [if_neg (not_not_intro h1), if_neg (not_not_intro h1), if_pos h2, if_pos h2]
      obtain ⟨j, e, hj⟩ := e_nm6 h1 h2
      rw [e, ix_nI (by omega), he j hj]
  · rw [if_pos h1, if_pos h1]
theorem e_run_nm {nm nm' : Nat → Int32} (he : ∀ j, j < 6 → nm j = nm' j) : ∀ (cs st : List Int32), e_run nm cs st = e_run nm' cs st
  | [], _ => rfl
  | c :: cs, st => by rw [e_run, e_run, e_step_nm he, e_run_nm he cs]
theorem e_s14 (nm : Nat → Int32) (x : Int32) (r : List Int32) : e_step nm (-14) (x :: r) = (if x = 0 then 1 else 0) :: r := by
  unfold e_step
  rw [if_neg (by decide), if_neg (by decide), if_pos rfl]
theorem e_s15 (nm : Nat → Int32) (x : Int32) (r : List Int32) : e_step nm (-15) (x :: r) = (-x) :: r := by
  unfold e_step
  rw [if_neg (by decide), if_neg (by decide), if_neg (by decide), if_pos rfl]
theorem e_sbin {nm : Nat → Int32} {c : Int32} (h4 : c < 0) (h5 : c < -6) (n14 : ¬ c = -14) (n15 : ¬ c = -15) (b a : Int32) (r : List Int32) : e_step nm c (b :: a :: r) = e_bin c a b :: r := by
  unfold e_step
  rw [if_neg (not_not_intro h4), if_neg (not_not_intro h5), if_neg n14, if_neg n15]
theorem e_s1 {nm : Nat → Int32} {c : Int32} (h4 : c < 0) (h5 : c < -6) (n14 : ¬ c = -14) (n15 : ¬ c = -15) (b : Int32) : e_step nm c [b] = [b] := by
  unfold e_step
  rw [if_neg (not_not_intro h4), if_neg (not_not_intro h5), if_neg n14, if_neg n15]
theorem e_s0 {nm : Nat → Int32} {c : Int32} (h4 : c < 0) (h5 : c < -6) : e_step nm c [] = [] := by
  unfold e_step
  rw [if_neg (not_not_intro h4), if_neg (not_not_intro h5)]
  split
  · rfl
  · split <;> rfl
theorem k_X3_tells {h : Nat} (hh : 8 ≤ h) (σ : gS) {t pa : Nat} (mo : Int32) (ht : σ 23 0 = nI t) (hok : m_tok σ t) (hpa : pa < 3) : g_Met yX3_tells cX3_tells 9 (some .int) h kX [.ref 23, .int (nI pa), .int mo] σ (fun rv s => rv = some (.int (m_tell σ t pa mo (σ 24))) ∧ ∀ a, a ≠ 25 → s a = σ a) := by
  obtain ⟨ht6, hok⟩ := hok
  obtain ⟨hto, hft, h160, hnm⟩ := hok pa hpa
  obtain ⟨v, hv⟩ := hnm (σ 24)
  have hmt : m_tell σ t pa mo (σ 24) = m_cl mo v := by rw [m_tell, hv]; rfl
  rw [hmt]
  refine w_X3_tells (by omega) ?_
  unfold P_X3_tells
  generalize hf : m_fr σ t pa = fr at hft hv
  generalize hT : m_to σ t pa = to at hto hft h160 hv
  have hcode : m_code σ t pa = m_cd (σ (46 + 3 * t)) fr (to - fr) := by rw [m_code, hf, hT]
  rw [hcode] at hv
  refine ⟨fun x => x = nI fr, ⟨fun h0 => ?_, fun h0 => ?_⟩, fun v1 hv1 => ?_⟩
  · have : pa = 0 := (n_eq (b := 0) (by omega) (by omega)).mp h0
    rw [m_fr, if_pos this] at hf
    rw [← hf]; rfl
  · cases pa with
    | zero => exact absurd rfl h0
    | succ q =>
      refine ⟨t, ht, ht6, q, nI_pred q, by omega, ?_⟩
      obtain ⟨g1, -⟩ := hok q (by omega)
      rw [m_fr, if_neg (by omega)] at hf
      rw [g1, ← hf]
      show nI (m_to σ t q) = nI (ix (σ (47 + 3 * t) (q + 1 - 1)))
      rfl
  · subst hv1
    refine ⟨t, ht, ht6, pa, rfl, hpa, t, ht, ht6, fun k d i' s => ∃ (i : Nat) (st : List Int32), i' = nI i ∧ k + i = to ∧ fr ≤ i ∧ i ≤ to ∧ d = nI st.length ∧ st.length ≤ i ∧ m_stk (s 25) st ∧ (∀ a, a ≠ 25 → s a = σ a) ∧ e_run (σ 24) (m_cd (σ (46 + 3 * t)) i (to - i)) st = [v], ⟨to - fr, fr, [], rfl, by omega, by omega, hft, rfl, by simp, trivial, fun _ _ => rfl, hv⟩, fun k d i' s hI => ?_⟩
    obtain ⟨i, st, rfl, hk, hfi, hit, rfl, hl, hst, hsf, hrun⟩ := hI
    rw [hto]
    have fin : ¬ i < to → s 25 0 = v := fun z => by
      have : to - i = 0 := by omega
      rw [this] at hrun
      have hs2 : st = [v] := hrun
      rw [hs2] at hst
      exact hst.1
    refine ⟨fun h1 => ?_, fun h1 => ?_⟩
    · have h1' : i < to := (n_lt (by omega) (by omega)).mp h1
      refine ⟨fun h2 => ⟨fun h3 => ?_, fun h3 => absurd ((n_lt (b := 160) (by omega) (by omega)).mpr (by omega)) h3⟩, fun h2 => absurd ((n_lt (b := 160) (by omega) (by omega)).mpr (by omega)) h2⟩
      have hcell : s (46 + 3 * t) = σ (46 + 3 * t) := hsf _ (by omega)
      have hstep : e_run (σ 24) (m_cd (σ (46 + 3 * t)) (i + 1) (to - (i + 1))) (e_step (σ 24) (σ (46 + 3 * t) i) st) = [v] := by
        have : to - i = (to - (i + 1)) + 1 := by omega
        rw [this] at hrun
        exact hrun
      refine ⟨i, rfl, by omega, ?_⟩
      rw [hcell]
      generalize hc : σ (46 + 3 * t) i = c at hstep
      refine ⟨fun h4 => ⟨fun h5 => ?_, fun h5 => ?_⟩, fun h4 => ?_⟩
      · have go : ∀ (s' : gS) (st' : List Int32), e_step (σ 24) c st = st' → st'.length ≤ i + 1 → m_stk (s' 25) st' → (∀ a, a ≠ 25 → s' a = σ a) → ∃ k', k' < k ∧ ∃ (i2 : Nat) (st2 : List Int32), nI i + 1 = nI i2 ∧ k' + i2 = to ∧ fr ≤ i2 ∧ i2 ≤ to ∧ nI st'.length = nI st2.length ∧ st2.length ≤ i2 ∧ m_stk (s' 25) st2 ∧ (∀ a, a ≠ 25 → s' a = σ a) ∧ e_run (σ 24) (m_cd (σ (46 + 3 * t)) i2 (to - i2)) st2 = [v] := by
          intro s' st' e1 e2 e3 e4
          exact ⟨to - (i + 1), by omega, i + 1, st', nI_1 i, by omega, by omega, by omega, rfl, e2, e3, e4, by rw [← e1]; exact hstep⟩
        refine ⟨c ≠ -14 ∨ st = [], ⟨fun h6 => ⟨fun h7 => ?_, fun h7 => ?_⟩, fun h6 => Or.inl h6⟩, fun hJ => ⟨c ≠ -15 ∨ st = [], ⟨fun h6 => ⟨fun h7 => ?_, fun h7 => ?_⟩, fun h6 => Or.inl h6⟩, fun hJ2 => ⟨fun h6 => ?_, fun h6 => ?_⟩⟩⟩
        · cases st with
          | nil => exact absurd h7 (by decide)
          | cons x r =>
            refine ⟨r.length, by simp only [List.length_cons]; exact nI_pred _, by simp only [List.length_cons] at hl; omega, ?_⟩
            have hx : s 25 r.length = x := hst.1
            have := go (g_up s 25 r.length (if s 25 r.length = 0 then 1 else 0)) ((if x = 0 then 1 else 0) :: r) (by rw [h6]; exact e_s14 _ _ _) (by simp only [List.length_cons, List.length_nil] at hl ⊢; omega) ⟨by rw [u_eq, hx], hst.2.ext (fun j hj => u_ne (by omega))⟩ (fun a ha => by rw [g_up_ne ha]; exact hsf a ha)
            simpa using this
        · cases st with
          | nil => exact Or.inr rfl
          | cons x r => exact absurd ((n_lt (a := 0) (by omega) (by simp only [List.length_cons] at hl ⊢; omega)).mpr (by simp)) h7
        · cases st with
          | nil => exact absurd h7 (by decide)
          | cons x r =>
            refine ⟨r.length, by simp only [List.length_cons]; exact nI_pred _, by simp only [List.length_cons] at hl; omega, ?_⟩
            have hx : s 25 r.length = x := hst.1
            have := go (g_up s 25 r.length (-(s 25 r.length))) ((-x) :: r) (by rw [h6]; exact e_s15 _ _ _) (by simp only [List.length_cons, List.length_nil] at hl ⊢; omega) ⟨by rw [u_eq, hx], hst.2.ext (fun j hj => u_ne (by omega))⟩ (fun a ha => by rw [g_up_ne ha]; exact hsf a ha)
            simpa using this
        · cases st with
          | nil => exact Or.inr rfl
          | cons x r => exact absurd ((n_lt (a := 0) (by omega) (by simp only [List.length_cons] at hl ⊢; omega)).mpr (by simp)) h7
        · cases st with
          | nil => exact absurd h6 (by decide)
          | cons b r =>
            cases r with
            | nil => exact absurd (show nI 1 < nI 1 from h6) (by decide)
            | cons a r =>
              have m1 : nI (b :: a :: r).length + (-1) = nI (a :: r).length := pk_m1 _
              have m2 : nI (b :: a :: r).length + (-1) - 1 = nI r.length := by rw [m1]; exact nI_pred _
              have n14 : ¬ c = -14 := hJ.elim id (fun z => by cases z)
              have n15 : ¬ c = -15 := hJ2.elim id (fun z => by cases z)
              have hb : s 25 (a :: r).length = b := hst.1
              have ha : s 25 r.length = a := hst.2.1
              have hll : r.length + 2 ≤ i := by simpa using hl
              refine ⟨r.length, m2, by omega, (a :: r).length, m1, by simp; omega, ?_⟩
              rw [hb, ha]
              refine g_call.i (k_X3_joined (h := 6) (by omega) s c a b) (by omega) (fun rv s' hq => ?_)
              obtain ⟨rfl, rfl⟩ := hq
              refine ⟨_, rfl, ?_⟩
              have := go (g_up s' 25 r.length (e_bin c a b)) (e_bin c a b :: r) (e_sbin h4 h5 n14 n15 b a r) (by simp; omega) ⟨u_eq _ _ _ _, hst.2.2.ext (fun j hj => u_ne (by omega))⟩ (fun a ha => by rw [g_up_ne ha]; exact hsf a ha)
              rw [m1]
              simpa using this
        · have hst1 : e_step (σ 24) c st = st := by
            cases st with
            | nil => exact e_s0 h4 h5
            | cons b r =>
              have n14 : ¬ c = -14 := hJ.elim id (fun z => by cases z)
              have n15 : ¬ c = -15 := hJ2.elim id (fun z => by cases z)
              cases r with
              | nil => exact e_s1 h4 h5 n14 n15 b
              | cons a r => exact absurd ((n_lt (a := 1) (by omega) (by simp only [List.length_cons] at hl ⊢; omega)).mpr (by simp)) h6
          exact go s st hst1 (by omega) hst hsf
      · obtain ⟨j, ej, hj⟩ := e_nm6 h4 h5
        refine ⟨j, ej, hj, st.length, rfl, by omega, to - (i + 1), by omega, i + 1, σ 24 j :: st, nI_1 i, by omega, by omega, by omega, by rw [nI_1]; rfl, by simp; omega, ⟨?_, hst.ext (fun q hq => u_ne (by omega))⟩, fun a ha => by rw [g_up_ne ha]; exact hsf a ha, ?_⟩
        · rw [u_eq, hsf 24 (by decide)]
        · rw [← hstep]
          unfold e_step
          rw [if_neg (not_not_intro h4), if_pos h5, ej, ix_nI (by omega)]
      · refine ⟨st.length, rfl, by omega, to - (i + 1), by omega, i + 1, c :: st, nI_1 i, by omega, by omega, by omega, by rw [nI_1]; rfl, by simp; omega, ⟨?_, hst.ext (fun q hq => u_ne (by omega))⟩, fun a ha => by rw [g_up_ne ha]; exact hsf a ha, ?_⟩
        · rw [u_eq]
        · rw [← hstep]
          unfold e_step
          rw [if_pos h4]
    · have hv0 := fin (fun z => h1 ((n_lt (by omega) (by omega)).mpr z))
      rw [hv0]
      exact ⟨rfl, hsf⟩
