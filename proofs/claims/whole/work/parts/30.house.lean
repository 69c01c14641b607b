/-! THE HOUSE as a pure thing; a day armed and laid -/
/-- kinds, numbers, rates, places, rain, sizes, stands, water, how many drips, vessels, ups, hands, sort -/
abbrev mH : Type := gF × gF × gF × gF × gF × gF × gF × gF × Nat × Nat × Int32 × Nat × Int32
abbrev h_kd (H : mH) := H.1
abbrev h_nu (H : mH) := H.2.1
abbrev h_rt (H : mH) := H.2.2.1
abbrev h_pl (H : mH) := H.2.2.2.1
abbrev h_ra (H : mH) := H.2.2.2.2.1
abbrev h_sz (H : mH) := H.2.2.2.2.2.1
abbrev h_st (H : mH) := H.2.2.2.2.2.2.1
abbrev h_w (H : mH) := H.2.2.2.2.2.2.2.1
abbrev h_nd (H : mH) := H.2.2.2.2.2.2.2.2.1
abbrev h_nv (H : mH) := H.2.2.2.2.2.2.2.2.2.1
abbrev h_up (H : mH) := H.2.2.2.2.2.2.2.2.2.2.1
abbrev h_hd (H : mH) := H.2.2.2.2.2.2.2.2.2.2.2.1
abbrev h_so (H : mH) := H.2.2.2.2.2.2.2.2.2.2.2.2
/-- what a call thinks otherwise: rain, times, led, where to, stands, ups, sort, hands -/
abbrev mV : Type := gF × gF × Int32 × Int32 × gF × Int32 × Int32 × Nat
abbrev v_ra (V : mV) := V.1
abbrev v_tm (V : mV) := V.2.1
abbrev v_ld (V : mV) := V.2.2.1
abbrev v_lt (V : mV) := V.2.2.2.1
abbrev v_st (V : mV) := V.2.2.2.2.1
abbrev v_up (V : mV) := V.2.2.2.2.2.1
abbrev v_so (V : mV) := V.2.2.2.2.2.2.1
abbrev v_hd (V : mV) := V.2.2.2.2.2.2.2
abbrev mT : Type := Nat → Int32 → gF → Int32
def m_su (T : mT) (H : mH) (V : mV) (i : Nat) : Int32 := m_sg (fun d => m_ct T (h_kd H) (h_nu H) (h_rt H) (h_pl H) (v_ra V) (v_tm V) (v_ld V) (v_lt V) (i / 8) (i % 8) d) 6
def c_of (T : mT) (H : mH) (V : mV) : mC := (T, v_ra V, h_sz H, v_st V, h_nv H, m_su T H V, v_up V, v_so V, v_hd V, h_w H)
def m_v0 (H : mH) : mV := (h_ra H, (fun d => if d < h_nd H then 1 else 0), -1, -1, h_st H, h_up H, h_so H, h_hd H)
/-- a day in full -/
def m_day (T : mT) (H : mH) (V : mV) (n : Nat) : mD := m_go (c_of T H V) n 0 (m_x0 (c_of T H V))
def h_ok (H : mH) : Prop := (h_nd H ≤ 6 ∧ h_nv H ≤ 5 ∧ h_hd H ≤ 5 ∧ 1 ≤ h_hd H ∧ (h_so H = 0 ∨ h_so H = 1) ∧ g_in (h_up H) 0 16777215) ∧ (∀ d, d < h_nd H → (∃ q, h_kd H d = nI q ∧ q ≤ 5) ∧ (∃ q, h_nu H d = nI q ∧ q ≤ 9) ∧ (∃ q, h_rt H d = nI q ∧ q ≤ 9) ∧ ∃ q, h_pl H d = nI q ∧ q ≤ 7) ∧ (∀ h, h < 24 → ∃ q, h_ra H h = nI q ∧ q ≤ 9) ∧ (∀ v, v < h_nv H → (∃ W S, h_w H v = nI W ∧ h_sz H v = nI S ∧ W ≤ S ∧ 1 ≤ S ∧ S ≤ 99) ∧ (h_st H v = -1 ∨ ∃ q, h_st H v = nI q ∧ q ≤ 7)) ∧ ∀ u v, u < h_nv H → v < h_nv H → u ≠ v → h_st H u = h_st H v → h_st H u = -1
def v_ok (H : mH) (V : mV) : Prop := (∀ d, d < 6 → ∃ q, v_tm V d = nI q ∧ q ≤ 10) ∧ (∀ d, h_nd H ≤ d → d < 6 → v_tm V d = 0) ∧ v_hd V ≤ 5
def t_ok (T : mT) : Prop := ∀ pa M nm, M ≤ 1000000 → ∃ q, q ≤ M ∧ T pa (nI M) nm = nI q
theorem m_v0_ok {H : mH} (h : h_ok H) : v_ok H (m_v0 H) := by
  refine ⟨fun d hd => ?_, fun d h1 h2 => if_neg (by omega), h.1.2.2.1⟩
  show ∃ q, (if d < h_nd H then (1 : Int32) else 0) = nI q ∧ q ≤ 10
  split
  · exact ⟨1, rfl, by omega⟩
  · exact ⟨0, rfl, by omega⟩
theorem n_div {a d : Nat} (ha : a ≤ 1000000) (h0 : 0 < d) (hd : d ≤ 1000000) : nI a / nI d = nI (a / d) := pk_div (by omega) h0 (by omega)
theorem m_wd_bd {nu ra : Int32} {v : Nat} (hv : v ≤ 1000) : ∃ r, r ≤ v ∧ m_wd nu ra (nI v) = nI r := by
  unfold m_wd
  split
  · exact ⟨v / 2, Nat.div_le_self v 2, n_div (a := v) (d := 2) (by omega) (by omega) (by omega)⟩
  · exact ⟨v, Nat.le_refl v, rfl⟩
theorem m_amt_bd (kd nu ra hr : Int32) {v : Nat} (hv : v ≤ 99) : ∃ r, r ≤ 200 ∧ m_amt kd nu (nI v) ra hr = nI r := by
  unfold m_amt
  obtain ⟨w, hw, ew⟩ := m_wd_bd (nu := nu) (ra := ra) (v := v) (by omega)
  split
  · exact ⟨v + 1, by omega, nI_1 v⟩
  · split
    · exact ⟨w, by omega, ew⟩
    · split
      · split
        · exact ⟨0, by omega, rfl⟩
        · refine ⟨2 * (v + 1), by omega, ?_⟩
          rw [nI_1]
          exact pk_mul 2 (v + 1)
      · split
        · rw [ew]
          split
          · exact ⟨w, by omega, rfl⟩
          · exact ⟨9, by omega, rfl⟩
        · split
          · split
            · exact ⟨0, by omega, rfl⟩
            · exact ⟨v + 1, by omega, nI_1 v⟩
          · exact ⟨v, by omega, rfl⟩
theorem m_A_bd {T : mT} (hT : t_ok T) (kd nu rt ra : gF) (d h : Nat) (p : Int32) : ∃ r, r ≤ 200 ∧ m_A T kd nu rt ra d h p = nI r := by
  unfold m_A
  obtain ⟨q, hq, e⟩ := hT 0 99 (m_nm (ra h) (nI h) p (rt d) 0 0) (by omega)
  have e' : T 0 99 (m_nm (ra h) (nI h) p (rt d) 0 0) = nI q := e
  rw [e']
  exact m_amt_bd _ _ _ _ hq
theorem m_ct_bd {T : mT} (hT : t_ok T) (kd nu rt pl ra tm : gF) (led ledTo : Int32) (h p : Nat) {d : Nat} (ht : ∃ q, tm d = nI q ∧ q ≤ 10) : ∃ r, r ≤ 2000 ∧ m_ct T kd nu rt pl ra tm led ledTo h p d = nI r := by
  unfold m_ct
  split
  · obtain ⟨q, e, hq⟩ := ht
    obtain ⟨r, hr, e2⟩ := m_A_bd hT kd nu rt ra d h (nI p)
    rw [e, e2]
    exact ⟨q * r, by have := Nat.mul_le_mul hq hr; omega, pk_mul q r⟩
  · exact ⟨0, by omega, rfl⟩
theorem m_sg_bd {f : gF} {M : Nat} : ∀ {k : Nat}, (∀ d, d < k → ∃ r, r ≤ M ∧ f d = nI r) → ∃ r, r ≤ M * k ∧ m_sg f k = nI r
  | 0, _ => ⟨0, Nat.zero_le _, rfl⟩
  | k + 1, h => by
    obtain ⟨a, ha, e1⟩ := m_sg_bd (k := k) (fun d hd => h d (by omega))
    obtain ⟨b, hb, e2⟩ := h k (by omega)
    exact ⟨a + b, by rw [Nat.mul_succ]; omega, by rw [m_sg, e1, e2, nI_add]⟩
theorem c_of_ok {T : mT} {H : mH} {V : mV} (hT : t_ok T) (hH : h_ok H) (hV : v_ok H V) : c_ok (c_of T H V) := by
  refine ⟨fun v hv => ?_, fun i hi => ?_, hT⟩
  · obtain ⟨⟨W, S, e1, e2, h1, h2, h3⟩, -⟩ := hH.2.2.2.1 v hv
    exact ⟨W, S, e1, e2, h1, h3⟩
  · obtain ⟨r, hr, e⟩ := m_sg_bd (f := fun d => m_ct T (h_kd H) (h_nu H) (h_rt H) (h_pl H) (v_ra V) (v_tm V) (v_ld V) (v_lt V) (i / 8) (i % 8) d) (M := 2000) (k := 6) (fun d hd => m_ct_bd hT _ _ _ _ _ _ _ _ _ _ (hV.1 d hd))
    exact ⟨r, e, by omega⟩
/-- the class's house holds H -/
def xh (s : gS) (H : mH) : Prop := (s 1 8 = nI (h_nd H) ∧ s 1 9 = nI (h_nv H) ∧ s 1 10 = h_up H ∧ s 1 11 = nI (h_hd H) ∧ s 1 12 = h_so H) ∧ (∀ h, h < 24 → s 2 h = h_ra H h) ∧ (∀ d, d < h_nd H → s 3 d = h_kd H d ∧ s 4 d = h_nu H d ∧ s 5 d = h_rt H d ∧ s 6 d = h_pl H d) ∧ ∀ v, v < h_nv H → s 7 v = h_sz H v ∧ s 8 v = h_st H v ∧ s 9 v = h_w H v
theorem xh.same {σ s : gS} {H : mH} (h : xh σ H) (e : ∀ a, a < 10 → s a = σ a) : xh s H := by
  obtain ⟨⟨h1, h2, h3, h4, h5⟩, h6, h7, h8⟩ := h
  rw [← e 1 (by decide)] at h1 h2 h3 h4 h5
  exact ⟨⟨h1, h2, h3, h4, h5⟩, fun a b => by rw [e 2 (by decide)]; exact h6 a b, fun a b => by rw [e 3 (by decide), e 4 (by decide), e 5 (by decide), e 6 (by decide)]; exact h7 a b, fun a b => by rw [e 7 (by decide), e 8 (by decide), e 9 (by decide)]; exact h8 a b⟩
/-- a day armed -/
def xa (s : gS) (T : mT) (t : Nat) (H : mH) (V : mV) : Prop := x_tx s t T ∧ xh s H ∧ (∀ h, h < 24 → s 34 h = v_ra V h) ∧ (∀ d, d < 6 → s 35 d = v_tm V d) ∧ (s 33 4 = v_ld V ∧ s 33 5 = v_lt V) ∧ (∀ v, v < h_nv H → s 27 v = v_st V v) ∧ (s 26 3 = v_up V ∧ s 26 5 = v_so V ∧ s 26 4 = nI (v_hd V))
/-- .. and laid -/
def xL (s : gS) (T : mT) (t : Nat) (H : mH) (V : mV) : Prop := xa s T t H V ∧ (∀ i, i < 192 → s 36 i = m_su T H V i) ∧ xm s (c_of T H V)
theorem xa.same {σ s : gS} {T : mT} {t : Nat} {H : mH} {V : mV} (h : xa σ T t H V) (e : ∀ a, a ≠ 24 → a ≠ 25 → a ≠ 26 → a ≠ 28 → a ≠ 29 → a ≠ 30 → a ≠ 31 → a ≠ 32 → a ≠ 36 → s a = σ a) (e1 : s 26 3 = σ 26 3) (e2 : s 26 4 = σ 26 4) (e3 : s 26 5 = σ 26 5) : xa s T t H V := by
  obtain ⟨h1, h2, h3, h4, h5, h6, h7⟩ := h
  have E : ∀ a, (a < 24 ∨ a = 27 ∨ (33 ≤ a ∧ a < 36) ∨ 36 < a) → s a = σ a := fun a ha => e a (by omega) (by omega) (by omega) (by omega) (by omega) (by omega) (by omega) (by omega) (by omega)
  exact ⟨h1.same (by rw [E 23 (by omega)]) (E _ (by omega)) (E _ (by omega)), h2.same (fun a ha => E a (by omega)), fun a b => by rw [E 34 (by omega)]; exact h3 a b, fun a b => by rw [E 35 (by omega)]; exact h4 a b, by rw [E 33 (by omega)]; exact h5, fun a b => by rw [E 27 (by omega)]; exact h6 a b, by rw [e1, e2, e3]; exact h7⟩
theorem xL.xr {s : gS} {T : mT} {t : Nat} {H : mH} {V : mV} (h : xL s T t H V) (hH : h_ok H) (hV : v_ok H V) : xr s (c_of T H V) t := by
  obtain ⟨⟨h1, ⟨⟨a1, a2, a3, a4, a5⟩, b1, b2, b3⟩, h3, h4, h5, h6, h7⟩, h8, h9⟩ := h
  exact ⟨h1, h3, ⟨hH.1.2.1, a2⟩, fun v hv => (b3 v hv).1, h6, fun v hv => (b3 v hv).2.2, h8, h7.1, h7.2.1, h7.2.2, hV.2.2⟩
theorem xL.same {σ s : gS} {T : mT} {t : Nat} {H : mH} {V : mV} (h : xL σ T t H V) (e : xst σ s) (hm : xm s (c_of T H V)) : xL s T t H V :=
  ⟨h.1.same (fun a b1 b2 b3 b4 b5 b6 b7 b8 _ => e.1 a b1 b2 b3 b4 b5 b6 b7 b8) e.2.1 e.2.2.1 e.2.2.2, fun i hi => by rw [e.1 36 (by decide) (by decide) (by decide) (by decide) (by decide) (by decide) (by decide) (by decide)]; exact h.2.1 i hi, hm⟩
/-- all but the day's own cells stays -/
def xfr (σ s : gS) : Prop := ∀ a, (a < 23 ∨ 36 < a) → s a = σ a
theorem xfr.refl (σ : gS) : xfr σ σ := fun _ _ => rfl
theorem xfr.trans {σ s u : gS} (h1 : xfr σ s) (h2 : xfr s u) : xfr σ u := fun a b => (h2 a b).trans (h1 a b)
theorem xst.xfr {σ s : gS} (h : xst σ s) : xfr σ s := fun a b => h.1 a (by omega) (by omega) (by omega) (by omega) (by omega) (by omega) (by omega) (by omega)
theorem xfr.up {σ s : gS} (h : xfr σ s) {a : Nat} (j : Nat) (v : Int32) (ha : 23 ≤ a ∧ a ≤ 36) : xfr σ (g_up s a j v) := fun b hb => by rw [g_up_ne (by omega)]; exact h b hb
theorem k_D_lay {h : Nat} (hh : 14 ≤ h) (σ : gS) {T : mT} {t : Nat} {H : mH} {V : mV} (hx : xa σ T t H V) (hV : v_ok H V) : g_Met yX0_lay cX0_lay 2 none h kX [.ref 26] σ (fun rv s => rv = none ∧ xL s T t H V ∧ xfr σ s) := by
  refine w_X0_lay (by omega) ?_
  unfold P_X0_lay
  refine g_call.i (k_S_lay (h := 12) (by omega) σ hx.1) (by omega) (fun rv s1 hq => ?_)
  obtain ⟨rfl, hs, hf⟩ := hq
  have hx0 := hx
  obtain ⟨h1, ⟨-, -, b2, -⟩, h3, h4, h5, -, -⟩ := hx
  have hs2 : ∀ i, i < 192 → s1 36 i = m_su T H V i := by
    intro i hi
    have e : i = 8 * (i / 8) + i % 8 := by omega
    rw [e, hs (i / 8) (i % 8) (by omega) (Nat.mod_lt _ (by decide)), ← e, m_su]
    refine m_sg_ext (fun d hd => ?_)
    show m_ct T (σ 3) (σ 4) (σ 5) (σ 6) (σ 34) (σ 35) (σ 33 4) (σ 33 5) (i / 8) (i % 8) d = _
    rw [h5.1, h5.2]
    by_cases hdn : d < h_nd H
    · obtain ⟨e3, e4, e5, e6⟩ := b2 d hdn
      unfold m_ct m_A m_W m_wh
      rw [e3, e4, e5, e6, h4 d hd, h3 (i / 8) (by omega)]
    · have z := hV.2.1 d (by omega) hd
      unfold m_ct
      rw [h4 d hd, z, if_neg (fun y => absurd y.1 (by decide)), if_neg (fun y => absurd y.1 (by decide))]
  refine ⟨rfl, fun k v3 s => ∃ i, v3 = nI i ∧ k + i = 192 ∧ (∀ q, q < i → s 31 q = -1) ∧ ∀ a, a ≠ 31 → s a = s1 a, ⟨192, 0, rfl, rfl, fun q hq => absurd hq (Nat.not_lt_zero q), fun _ _ => rfl⟩, fun k v3 s hI => ?_⟩
  obtain ⟨i, rfl, hk, hz, hf2⟩ := hI
  refine ⟨fun g1 => ?_, fun g1 => ?_⟩
  · have hi := (n_lt (b := 192) (by omega) (by omega)).mp g1
    refine ⟨i, rfl, hi, k - 1, by omega, i + 1, nI_1 i, by omega, fun q hq => ?_, fun a ha => by rw [g_up_ne ha]; exact hf2 a ha⟩
    by_cases e : q = i
    · subst e; rw [u_eq]
    · rw [u_ne e]; exact hz q (by omega)
  · have : i = 192 := by
      rcases Nat.lt_or_ge i 192 with z | z
      · exact absurd ((n_lt (b := 192) (by omega) (by omega)).mpr z) g1
      · omega
    subst this
    have F : ∀ a, a ≠ 24 → a ≠ 25 → a ≠ 31 → a ≠ 36 → s a = σ a := fun a b1 b2 b3 b4 => (hf2 a b3).trans (hf a b1 b2 b4)
    refine ⟨rfl, ⟨hx0.same (fun a b1 b2 b3 b4 b5 b6 b7 b8 b9 => F a b1 b2 b7 b9) (by rw [F 26 (by decide) (by decide) (by decide) (by decide)]) (by rw [F 26 (by decide) (by decide) (by decide) (by decide)]) (by rw [F 26 (by decide) (by decide) (by decide) (by decide)]), fun i hi => by rw [hf2 36 (by decide)]; exact hs2 i hi, fun hr p q a b1 b2 b3 b4 b5 => ?_⟩, fun a ha => F a (by omega) (by omega) (by omega) (by omega)⟩
    rw [hz (8 * hr + p) (by omega)] at b5
    exact absurd b5.symm (fun z => by
      have e := congrArg Int32.toInt z
      rw [nI_toInt (by omega)] at e
      have : (-1 : Int32).toInt = -1 := rfl
      omega)
theorem k_costInAll {h : Nat} (hh : 16 ≤ h) (σ : gS) {T : mT} {t : Nat} {H : mH} {V : mV} (hx : xa σ T t H V) (hT : t_ok T) (hH : h_ok H) (hV : v_ok H V) : g_Met yX0_costInAll cX0_costInAll 1 (some .int) h kX [.ref 26] σ (fun rv s => rv = some (.int (m_cost (m_day T H V 24))) ∧ xL s T t H V ∧ xd s (c_of T H V) (m_day T H V 24) ∧ xfr σ s) := by
  refine w_X0_costInAll (by omega) ?_
  unfold P_X0_costInAll
  refine g_call.i (k_D_lay (h := 14) (by omega) σ hx hV) (by omega) (fun rv s1 hq => ?_)
  obtain ⟨rfl, hL, hf⟩ := hq
  have hc := c_of_ok hT hH hV
  refine ⟨rfl, g_call.i (k_runAll (h := 14) (by omega) s1 (c_of T H V) t (hL.xr hH hV) hc hL.2.2 (n := 24) (by omega)) (by omega) (fun rv s2 hq => ?_)⟩
  obtain ⟨rfl, hst, hm, -, k, hk, hd, ho⟩ := hq
  have hk2 := m_k_all hc (by omega) hk ho
  subst hk2
  refine ⟨rfl, g_call.i (k_D_cost (h := 6) (by omega) s2) (by omega) (fun rv s3 hq => ?_)⟩
  obtain ⟨rfl, rfl⟩ := hq
  exact ⟨_, rfl, by rw [hd.2.1.1, hd.2.1.2.1]; rfl, hL.same hst hm, hd, hf.trans hst.xfr⟩
def m_cs (b : Int64) : Int32 := Int64.toInt32 (b >>> (Int32.toInt64 32 &&& 63))
def m_pk (a b : Int32) : Int64 := ((Int32.toInt64 a) <<< (Int32.toInt64 32 &&& 63)) ||| ((Int32.toInt64 b) &&& 4294967295)
def m_bt (c ch : Int32) (best : Int64) : Int64 := if c < m_cs best then m_pk c ch else best
theorem k_better {h : Nat} (hh : 16 ≤ h) (σ : gS) {T : mT} {t : Nat} {H : mH} {V : mV} (hL : xL σ T t H V) (hT : t_ok T) (hH : h_ok H) (hV : v_ok H V) (best : Int64) (ch : Int32) : g_Met yX0_better cX0_better 4 (some .long) h kX [.ref 26, .long best, .int ch] σ (fun rv s => rv = some (.long (m_bt (m_cost (m_day T H V 24)) ch best)) ∧ xL s T t H V ∧ xfr σ s) := by
  refine w_X0_better (by omega) ?_
  unfold P_X0_better
  have hc := c_of_ok hT hH hV
  refine g_call.i (k_run (h := 14) (by omega) σ (c_of T H V) t (hL.xr hH hV) hc hL.2.2 (n := 24) (by omega) (m_cs best)) (by omega) (fun rv s1 hq => ?_)
  obtain ⟨rfl, hst, hm, -, k, hk, hd, ho⟩ := hq
  obtain ⟨i1, i2⟩ := m_k_better hc hk ho
  refine ⟨rfl, g_call.i (k_D_cost (h := 6) (by omega) s1) (by omega) (fun rv s2 hq => ?_)⟩
  obtain ⟨rfl, rfl⟩ := hq
  rw [hd.2.1.1, hd.2.1.2.1]
  refine ⟨_, rfl, fun h1 => g_call.i (k_D_cost (h := 6) (by omega) s2) (by omega) (fun rv s3 hq => ?_), fun h1 => ?_⟩
  · obtain ⟨rfl, rfl⟩ := hq
    rw [hd.2.1.1, hd.2.1.2.1]
    refine ⟨_, rfl, ?_, hL.same hst hm, hst.xfr⟩
    have h1' : m_cost (m_go (c_of T H V) k 0 (m_x0 (c_of T H V))) < m_cs best := h1
    unfold m_bt m_day
    rw [if_pos (i1.mp h1'), ← i2 h1']
    rfl
  · refine ⟨?_, hL.same hst hm, hst.xfr⟩
    unfold m_bt m_day
    rw [if_neg (fun z => h1 (i1.mpr z))]
/-- dawn: the day as it is -/
def x_rl (σ : gS) (t : Nat) (T : mT) : Prop := σ 1 13 = nI t ∧ m_tok σ t ∧ ∀ pa, pa < 3 → ∀ mo nm, m_tell σ t pa mo nm = T pa mo nm
theorem k_S_begin {h : Nat} (hh : 6 ≤ h) (σ : gS) {nd : Nat} (hd : σ 1 8 = nI nd) (hd6 : nd ≤ 6) : g_Met yX5_begin cX5_begin 2 none h kX [.ref 33] σ (fun rv s => rv = none ∧ (∀ h, h < 24 → s 34 h = σ 2 h) ∧ (∀ d, d < 6 → s 35 d = if d < nd then 1 else 0) ∧ s 33 4 = -1 ∧ s 33 5 = -1 ∧ ∀ a, a ≠ 33 → a ≠ 34 → a ≠ 35 → s a = σ a) := by
  refine w_X5_begin hh ?_
  unfold P_X5_begin
  refine ⟨fun k v1 s => ∃ d, v1 = nI d ∧ k + d = 6 ∧ (∀ h, h < 24 → s 34 h = σ 2 h) ∧ (∀ q, q < d → s 35 q = if q < nd then 1 else 0) ∧ ∀ a, a ≠ 34 → a ≠ 35 → s a = σ a, ⟨6, 0, rfl, rfl, fun hr h24 => ?_, fun q hq => absurd hq (Nat.not_lt_zero q), fun a h1 h2 => g_cp_ne h1⟩, fun k v1 s hI => ?_⟩
  · rw [g_cp_same, pk_cpy_in (Nat.zero_le _) (by omega), Nat.zero_add, Nat.sub_zero]
  · obtain ⟨d, rfl, hk, hra, htm, hf⟩ := hI
    refine ⟨fun h1 => ?_, fun h1 => ?_⟩
    · have hd1 := (n_lt (b := 6) (by omega) (by omega)).mp h1
      refine ⟨d, rfl, hd1, k - 1, by omega, d + 1, nI_1 d, by omega, fun hr h24 => by rw [g_up_ne (by decide)]; exact hra hr h24, fun q hq => ?_, fun a b1 b2 => by rw [g_up_ne b2]; exact hf a b1 b2⟩
      by_cases e : q = d
      · subst e
        rw [u_eq, hf 1 (by decide) (by decide), hd]
        by_cases hq2 : q < nd
        · rw [if_pos hq2, if_pos ((n_lt (by omega) (by omega)).mpr hq2)]
        · rw [if_neg hq2, if_neg (fun z => hq2 ((n_lt (by omega) (by omega)).mp z))]
      · rw [u_ne e]; exact htm q (by omega)
    · have : d = 6 := by
        rcases Nat.lt_or_ge d 6 with z | z
        · exact absurd ((n_lt (b := 6) (by omega) (by omega)).mpr z) h1
        · omega
      subst this
      refine ⟨rfl, fun hr h24 => by rw [g_up_ne (by decide), g_up_ne (by decide)]; exact hra hr h24, fun q hq => by rw [g_up_ne (by decide), g_up_ne (by decide)]; exact htm q hq, by rw [u_ne (by decide), u_eq], by rw [u_eq], fun a b1 b2 b3 => by rw [g_up_ne b1, g_up_ne b1]; exact hf a b2 b3⟩
theorem k_dawn {h : Nat} (hh : 10 ≤ h) (σ : gS) {T : mT} {t : Nat} {H : mH} (hr : x_rl σ t T) (hx : xh σ H) (hH : h_ok H) : g_Met yX7_dawn cX7_dawn 1 (some (.object "UnderTheRoof$Day")) h kX [.ref 0] σ (fun rv s => rv = some (.ref 26) ∧ xa s T t H (m_v0 H) ∧ xfr σ s) := by
  refine w_X7_dawn (by omega) ?_
  unfold P_X7_dawn
  obtain ⟨r1, r2, r3⟩ := hr
  have ht6 := r2.1
  refine ⟨fun s => s = g_up σ 23 0 (nI t), ⟨fun _ => ⟨t, r1, ht6, rfl⟩, fun h1 => absurd (by rw [r1]; exact (n_in (lo := 0) (hi := 5) (by omega) (by omega) (by omega)).mpr (by omega)) h1⟩, fun s hJ => ?_⟩
  subst hJ
  have hx1 : xh (g_up σ 23 0 (nI t)) H := hx.same (fun a ha => g_up_ne (by omega))
  refine g_call.i (h' := 8) (w_X0_begin (h := 8) (by omega) (Qp := fun rv s => rv = none ∧ xa s T t H (m_v0 H) ∧ xfr σ s) ?_) (by omega) (fun rv s hq => ?_)
  · unfold P_X0_begin
    refine g_call.i (k_S_begin (h := 6) (by omega) _ hx1.1.1 hH.1.1) (by omega) (fun rv s1 hq => ?_)
    obtain ⟨rfl, g1, g2, g3, g4, g5⟩ := hq
    have hx2 : xh s1 H := hx1.same (fun a ha => g5 a (by omega) (by omega) (by omega))
    obtain ⟨⟨a1, a2, a3, a4, a5⟩, b1, b2, b3⟩ := hx2
    have F : ∀ a, a ≠ 26 → a ≠ 27 → (g_cp (g_up (g_up (g_up s1 26 3 (s1 1 10)) 26 4 (s1 1 11)) 26 5 (s1 1 12)) 8 27 0 0 5) a = s1 a := fun a c1 c2 => by rw [g_cp_ne c2, g_up_ne c1, g_up_ne c1, g_up_ne c1]
    have F2 : ∀ a, a ≠ 23 → a ≠ 26 → a ≠ 27 → a ≠ 33 → a ≠ 34 → a ≠ 35 → (g_cp (g_up (g_up (g_up s1 26 3 (s1 1 10)) 26 4 (s1 1 11)) 26 5 (s1 1 12)) 8 27 0 0 5) a = σ a := fun a c0 c1 c2 c3 c4 c5 => by rw [F a c1 c2, g5 a c3 c4 c5, g_up_ne c0]
    refine ⟨rfl, rfl, ⟨?_, ?_, fun hr h24 => ?_, fun d hd => ?_, ?_, fun v hv => ?_, ?_, ?_, ?_⟩, fun a ha => F2 a (by omega) (by omega) (by omega) (by omega) (by omega) (by omega)⟩
    · obtain ⟨e1, e2⟩ := r2.same (F2 (46 + 3 * t) (by omega) (by omega) (by omega) (by omega) (by omega) (by omega)) (F2 (47 + 3 * t) (by omega) (by omega) (by omega) (by omega) (by omega) (by omega))
      refine ⟨by rw [F 23 (by decide) (by decide), g5 23 (by decide) (by decide) (by decide), u_eq], e1, fun pa hp mo nm => (e2 pa mo nm).trans (r3 pa hp mo nm)⟩
    · exact hx.same (fun a ha => F2 a (by omega) (by omega) (by omega) (by omega) (by omega) (by omega))
    · rw [F 34 (by decide) (by decide), g1 hr h24, g_up_ne (by decide)]
      exact hx.2.1 hr h24
    · rw [F 35 (by decide) (by decide), g2 d hd]
      rfl
    · rw [F 33 (by decide) (by decide)]
      exact ⟨g3, g4⟩
    · rw [g_cp_same, pk_cpy_in (Nat.zero_le _) (by have := hH.1.2.1; omega), g_up_ne (by decide), g_up_ne (by decide), g_up_ne (by decide), Nat.zero_add, Nat.sub_zero]
      exact (b3 v hv).2.1
    · rw [g_cp_ne (by decide), u_ne (by decide), u_ne (by decide), u_eq]; exact a3
    · rw [g_cp_ne (by decide), u_eq]; exact a5
    · rw [g_cp_ne (by decide), u_ne (by decide), u_eq]; exact a4
  · obtain ⟨rfl, q1, q2⟩ := hq
    exact ⟨rfl, rfl, q1, q2⟩
