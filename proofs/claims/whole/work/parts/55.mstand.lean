/-! THE REFERENCE'S puts and stand -/
theorem k_puts (t : Nat) (T : mT) (H : mH) (hT : t_ok T) (hH : h_ok H) : ∀ (k v P U : Nat) {h : Nat} (_ : 74 + 2 * k ≤ h) (_ : v + k = h_nv H) (_ : U < 256) (_ : ∀ p, p < 8 → (Nat.testBit U p = true ↔ ∃ u, u < v ∧ m_pl v P u = p)) (_ : m_ok v P = true) (s : gS) (o : Option (Int32 × Nat)) (_ : mz s t T H) (_ : mn s (c_of T H (m_v0 H))) (_ : ∀ u, u < v → s 73 u = nI (m_pl v P u)) (_ : mo2 H s o), g_Met yX8_puts cX8_puts 5 none h kM [.ref 63, .int (nI v), .int (nI U)] s (fun rv s' => rv = none ∧ mqf s s' ∧ mn s' (c_of T H (m_v0 H)) ∧ (∀ u, u < v ∨ h_nv H ≤ u → s' 73 u = s 73 u) ∧ mo2 H s' (m_fl (f_st T H) (m_wy k v P) o))
  | 0, v, P, U, h, hh, hv, hU, hbit, hok, s, o, hz, hn, hpre, ho => by
    have hn5 := hH.1.2.1
    refine w_X8_puts (by omega) ?_
    unfold P_X8_puts
    have ev : v = h_nv H := by omega
    subst ev
    refine ⟨fun _ => ?_, fun h1 => absurd hz.2.2.1.symm h1⟩
    refine g_call.i (k_putcost (h := 72) (by omega) s hT hH hz hn hpre hok) (by omega) (fun rv s1 hq => ?_)
    obtain ⟨rfl, hg, hn1⟩ := hq
    have hR : ∀ j, j = 46 ∨ j = 47 → s1 63 j = s 63 j := fun j hj => hg.2 j (by omega)
    have h80 : s1 80 = s 80 := hg.1 80 (by decide) (by decide) (by decide) (by decide) (by decide)
    have h73 : s1 73 = s 73 := hg.1 73 (by decide) (by decide) (by decide) (by decide) (by decide)
    have ho1 : mo2 H s1 o := ho.zsame (hR 46 (by omega)) (hR 47 (by omega)) h80
    refine ⟨_, rfl, m_stp (f_st T H) P o = some (f_st T H P, P), ?_, fun hJ => ?_⟩
    · cases o with
      | none =>
        have h47 : s1 63 47 = 0 := ho1
        exact ⟨fun _ => rfl, fun z => absurd h47 z⟩
      | some q =>
        obtain ⟨c, b0⟩ := q
        have h47 : s1 63 47 = 1 := ho1.1
        have h46 : s1 63 46 = c := ho1.2.1
        refine ⟨fun z => absurd (h47.symm.trans z) (by decide), fun _ => ⟨fun g => ?_, fun g => ?_⟩⟩
        · rw [h46] at g
          rw [m_stp, if_pos g]
        · rw [h46] at g
          refine ⟨rfl, hg.zq, hn1, fun u hu => by rw [h73], ?_⟩
          show mo2 H s1 (m_stp (f_st T H) P (some (c, b0)))
          rw [m_stp, if_neg g]
          exact ho1
    · have hz1 := hz.zq hg.zq
      refine ⟨fun k i s' => ∃ u, i = nI u ∧ k + u = h_nv H ∧ mqf s s' ∧ s' 63 47 = 1 ∧ s' 63 46 = f_st T H P ∧ s' 73 = s 73 ∧ mn s' (c_of T H (m_v0 H)) ∧ ∀ w, w < u → s' 80 w = nI (m_pl (h_nv H) P w), ⟨h_nv H, 0, rfl, rfl, (hg.zq.zup63 _ (by omega)).zup63 _ (by omega), by rw [u_ne (by decide), u_eq], u_eq _ _ _ _, by rw [g_up_ne (by decide), g_up_ne (by decide)]; exact h73, hn1.zsame (by rw [u_ne (by decide), u_ne (by decide)]) (by rw [g_up_ne (by decide), g_up_ne (by decide)]), fun w hw => absurd hw (Nat.not_lt_zero w)⟩, fun k i s' hI => ?_⟩
      obtain ⟨u, rfl, hk, hf, i47, i46, i73, in_, i80⟩ := hI
      have hzs := hz.zq hf
      rw [hzs.2.2.1]
      refine ⟨fun h2 => ?_, fun h2 => ?_⟩
      · have hu := (n_lt (by omega) (by omega)).mp h2
        refine ⟨u, rfl, by omega, k - 1, by omega, u + 1, nI_1 u, by omega, hf.zup _ _ (Or.inr rfl), by rw [g_up_ne (by decide)]; exact i47, by rw [g_up_ne (by decide)]; exact i46, by rw [g_up_ne (by decide)]; exact i73, in_.zsame (by rw [g_up_ne (by decide)]) (by rw [g_up_ne (by decide)]), fun w hw => ?_⟩
        by_cases e : w = u
        · subst e; rw [u_eq, i73]; exact hpre w hu
        · rw [u_ne e]; exact i80 w (by omega)
      · have hun : u = h_nv H := by
          rcases Nat.lt_or_ge u (h_nv H) with z | z
          · exact absurd ((n_lt (by omega) (by omega)).mpr z) h2
          · omega
        subst hun
        refine ⟨rfl, hf, in_, fun u hu => by rw [i73], ?_⟩
        show mo2 H s' (m_stp (f_st T H) P o)
        rw [hJ]
        exact ⟨i47, i46, i80⟩
  | k + 1, v, P, U, h, hh, hv, hU, hbit, hok, s, o, hz, hn, hpre, ho => by
    have hn5 := hH.1.2.1
    refine w_X8_puts (by omega) ?_
    unfold P_X8_puts
    have hvn : v < h_nv H := by omega
    refine ⟨fun h1 => absurd ((n_eq (by omega) (by omega)).mp (h1.trans hz.2.2.1)) (by omega), fun _ => ?_⟩
    let G : Nat → List Nat := fun q => if m_fre v P q = true then m_wy k (v + 1) (8 * P + q) else []
    refine ⟨fun k6 i s' => ∃ q, i = nI q ∧ k6 + q = 8 ∧ mqf s s' ∧ mn s' (c_of T H (m_v0 H)) ∧ (∀ u, u < v ∨ h_nv H ≤ u → s' 73 u = s 73 u) ∧ mo2 H s' (m_fl (f_st T H) ((List.range q).flatMap G) o), ⟨8, 0, rfl, rfl, mqf.zrefl s, hn, fun _ _ => rfl, ho⟩, fun k6 i s' hI => ?_⟩
    obtain ⟨q, rfl, hk, hf, in_, i73, io⟩ := hI
    have hG : m_fl (f_st T H) ((List.range (q + 1)).flatMap G) o = m_fl (f_st T H) (G q) (m_fl (f_st T H) ((List.range q).flatMap G) o) := by
      rw [List.range_succ, List.flatMap_append, m_fl_app]
      simp
    refine ⟨fun h2 => ?_, fun h2 => ?_⟩
    · have hq8 := (n_lt (b := 8) (by omega) (by omega)).mp h2
      refine ⟨fun h3 => ?_, fun h3 => ?_⟩
      · have hnot := (b_test hU hq8).mp h3
        have hfre : m_fre v P q = true := decide_eq_true (fun u hu e => by
          have := (hbit q hq8).mpr ⟨u, hu, e⟩
          rw [hnot] at this
          cases this)
        obtain ⟨eo, hoU⟩ := b_or hU hq8
        have eG : G q = m_wy k (v + 1) (8 * P + q) := if_pos hfre
        have hf1 : mqf s (g_up s' 73 v (nI q)) := hf.zup _ _ (Or.inl rfl)
        rw [eo, nI_1]
        refine ⟨v, rfl, by omega, ?_⟩
        refine g_call.i (k_puts t T H hT hH k (v + 1) (8 * P + q) (U ||| 2 ^ q) (h := 74 + 2 * k) (by omega) (by omega) hoU (fun p hp => ?_) ((ok_suc hq8).mpr ⟨hok, hfre⟩) (g_up s' 73 v (nI q)) _ (hz.zq hf1) (in_.zsame (by rw [g_up_ne (by decide)]) (by rw [g_up_ne (by decide)])) (fun u hu => ?_) (io.zsame (by rw [g_up_ne (by decide)]) (by rw [g_up_ne (by decide)]) (by rw [g_up_ne (by decide)]))) (by omega) (fun rv s2 hq => ?_)
        · rw [Nat.testBit_or, Nat.testBit_two_pow, Bool.or_eq_true, hbit p hp, decide_eq_true_eq]
          constructor
          · rintro (⟨u, hu, e⟩ | e)
            · exact ⟨u, by omega, (pl_lo hu hq8).trans e⟩
            · exact ⟨v, by omega, (pl_hi hq8).trans e⟩
          · rintro ⟨u, hu, e⟩
            by_cases eu : u = v
            · subst eu
              exact Or.inr ((pl_hi hq8).symm.trans e)
            · exact Or.inl ⟨u, by omega, (pl_lo (by omega) hq8).symm.trans e⟩
        · by_cases eu : u = v
          · subst eu; rw [u_eq, pl_hi hq8]
          · rw [u_ne eu, i73 u (by omega), pl_lo (by omega) hq8]; exact hpre u (by omega)
        · obtain ⟨rfl, hf2, hn2, h732, ho2⟩ := hq
          refine ⟨rfl, k6 - 1, by omega, q + 1, nI_1 q, by omega, hf1.ztrans hf2, hn2, fun u hu => ?_, ?_⟩
          · rw [h732 u (by omega), u_ne (by omega)]; exact i73 u hu
          · rw [hG, eG]; exact ho2
      · have hfre : ¬ m_fre v P q = true := fun z => by
          have D := of_decide_eq_true z
          cases hb : Nat.testBit U q with
          | true =>
            obtain ⟨u, hu, e⟩ := (hbit q hq8).mp hb
            exact D u hu e
          | false => exact h3 ((b_test hU hq8).mpr hb)
        have eG : G q = [] := if_neg hfre
        exact ⟨k6 - 1, by omega, q + 1, nI_1 q, by omega, hf, in_, i73, by rw [hG, eG]; exact io⟩
    · have : q = 8 := by
        rcases Nat.lt_or_ge q 8 with z | z
        · exact absurd ((n_lt (b := 8) (by omega) (by omega)).mpr z) h2
        · omega
      subst this
      exact ⟨rfl, hf, in_, i73, io⟩
def msf (σ s : gS) : Prop := (∀ a, a ≠ 63 → a ≠ 73 → (a < 75 ∨ 82 < a) → s a = σ a) ∧ (∀ j, (j < 20 ∨ (34 < j ∧ j < 39) ∨ 49 < j) → s 63 j = σ 63 j) ∧ ∀ i, i < 5 → s 81 i = σ 73 i
theorem msf.zz {σ s : gS} {t : Nat} {T : mT} {H : mH} (hm : mv σ t T H (m_v0 H)) (e : msf σ s) (hp : mp s T H (m_v0 H)) : mz s t T H := by
  obtain ⟨h1, h2, h3, h4, h5, h6⟩ := hm
  obtain ⟨e1, e2, e3⟩ := e
  have E : ∀ a, 63 < a → a ≠ 73 → a < 75 → s a = σ a := fun a x y z => e1 a (by omega) y (by omega)
  exact ⟨h1.zfr (e2 4 (by omega)) (E 64 (by omega) (by omega) (by omega)) (E 65 (by omega) (by omega) (by omega)), h2.zfr (fun a x y => E a (by omega) (by omega) (by omega)) (e2 15 (by omega)), by rw [e2 19 (by omega)]; exact h3, fun a b => by rw [E 72 (by omega) (by omega) (by omega), E 74 (by omega) (by omega) (by omega)]; exact ⟨(h4 a b).1, (h4 a b).2.2⟩, by rw [e2 8 (by omega), e2 9 (by omega), e2 10 (by omega)]; exact h5, hp⟩
theorem msf.zpf {σ s u : gS} (h : msf σ s) (e : mpf s u) : msf σ u := ⟨fun a b c d => (e.1 a b (by omega)).trans (h.1 a b c d), fun j b => (e.2 j (by omega)).trans (h.2.1 j b), fun i hi => by rw [e.1 81 (by decide) (by decide)]; exact h.2.2 i hi⟩
theorem msf.zqf {σ s u : gS} (h : msf σ s) (e : mqf s u) : msf σ u := ⟨fun a b c d => (e.1 a b c (by omega)).trans (h.1 a b c d), fun j b => (e.2 j (by omega)).trans (h.2.1 j b), fun i hi => by rw [e.1 81 (by decide) (by decide) (by omega)]; exact h.2.2 i hi⟩
theorem k_M_stand {h : Nat} (hh : 86 ≤ h) (σ : gS) {t : Nat} {T : mT} {H : mH} (hx : mok σ t T H) (wh : Int32) : g_Met yX8_stand cX8_stand 3 (some .int) h kM [.ref 63, .int wh] σ (fun rv s => rv = some (.int (a_stand T H wh)) ∧ mxf σ s) := by
  obtain ⟨hm, hH, hT⟩ := hx
  have hn5 := hH.1.2.1
  refine w_X8_stand (by omega) ?_
  unfold P_X8_stand
  rw [hm.2.2.1]
  refine ⟨wh = -1 ∨ g_in wh 0 (nI (h_nv H) - 1), ⟨fun h1 => Or.inl h1, fun h1 => ⟨fun h2 => Or.inr h2, fun h2 => ⟨by rw [a_stand, if_neg (fun z => z.elim h1 h2)], mxf.zrefl σ⟩⟩⟩, fun hJ => ?_⟩
  rw [a_stand, if_pos hJ]
  refine ⟨fun k i s => ∃ j, i = nI j ∧ k + j = 5 ∧ (∀ a, a ≠ 81 → s a = σ a) ∧ ∀ w, w < j → s 81 w = σ 73 w, ⟨5, 0, rfl, rfl, fun _ _ => rfl, fun w hw => absurd hw (Nat.not_lt_zero w)⟩, fun k i s hI => ?_⟩
  obtain ⟨j, rfl, hk, hf, h81⟩ := hI
  refine ⟨fun h1 => ?_, fun h1 => ?_⟩
  · have hj := (n_lt (b := 5) (by omega) (by omega)).mp h1
    refine ⟨j, rfl, hj, k - 1, by omega, j + 1, nI_1 j, by omega, fun a ha => by rw [g_up_ne ha]; exact hf a ha, fun w hw => ?_⟩
    by_cases e : w = j
    · subst e; rw [u_eq, hf 73 (by decide)]
    · rw [u_ne e]; exact h81 w (by omega)
  have ej : j = 5 := by
    rcases Nat.lt_or_ge j 5 with z | z
    · exact absurd ((n_lt (b := 5) (by omega) (by omega)).mpr z) h1
    · omega
  subst ej
  refine ⟨fun k i u => ∃ j, i = nI j ∧ k + j = 249792 ∧ (∀ a, a ≠ 79 → u a = s a) ∧ ∀ w, w < j → u 79 w = -1, ⟨249792, 0, rfl, rfl, fun _ _ => rfl, fun w hw => absurd hw (Nat.not_lt_zero w)⟩, fun k2 i u hI => ?_⟩
  obtain ⟨j, rfl, hk2, hfu, h79⟩ := hI
  refine ⟨fun h2 => ?_, fun h2 => ?_⟩
  · have hj := (n_lt (b := 249792) (by omega) (by omega)).mp h2
    refine ⟨j, rfl, hj, k2 - 1, by omega, j + 1, nI_1 j, by omega, fun a ha => by rw [g_up_ne ha]; exact hfu a ha, fun w hw => ?_⟩
    by_cases e : w = j
    · subst e; rw [u_eq]
    · rw [u_ne e]; exact h79 w (by omega)
  have ej : j = 249792 := by
    rcases Nat.lt_or_ge j 249792 with z | z
    · exact absurd ((n_lt (b := 249792) (by omega) (by omega)).mpr z) h2
    · omega
  subst ej
  generalize hs0 : g_up (g_up u 63 44 1) 63 47 0 = s0
  have m0 : msf σ s0 := by
    rw [← hs0]
    refine ⟨fun a b c d => ?_, fun j b => ?_, fun i hi => ?_⟩
    · rw [g_up_ne b, g_up_ne b, hfu a (by omega), hf a (by omega)]
    · rw [u_ne (by omega), u_ne (by omega), hfu 63 (by decide), hf 63 (by decide)]
    · rw [g_up_ne (by decide), g_up_ne (by decide), hfu 81 (by decide)]; exact h81 i hi
  have a44 : s0 63 44 = 1 := by rw [← hs0, u_ne (by decide), u_eq]
  have a47 : s0 63 47 = 0 := by rw [← hs0, u_eq]
  have a79 : ∀ w, w < 249792 → s0 79 w = -1 := fun w hw => by rw [← hs0, g_up_ne (by decide), g_up_ne (by decide)]; exact h79 w hw
  have a73 : s0 73 = σ 73 := by rw [← hs0, g_up_ne (by decide), g_up_ne (by decide), hfu 73 (by decide), hf 73 (by decide)]
  have tx0 : my_tx s0 t T := hm.1.zfr (m0.2.1 4 (by omega)) (m0.1 64 (by decide) (by decide) (by decide)) (m0.1 65 (by decide) (by decide) (by decide))
  have md0 : md s0 H (h_ra H) := hm.2.1.zfr (fun a x y => m0.1 a (by omega) (by omega) (by omega)) (m0.2.1 15 (by omega))
  refine g_call.i (k_allDrips (h := 6) (by omega) s0 md0) (by omega) (fun rv s1 hq => ?_)
  obtain ⟨rfl, rfl⟩ := hq
  refine ⟨_, rfl, g_call.i (k_poursOf (h := 72) (by omega) s1 tx0 md0 hH _) (by omega) (fun rv s2 hq => ?_)⟩
  obtain ⟨rfl, q1, q2⟩ := hq
  have hp2 : mp s2 T H (m_v0 H) := fun i hi => by
    have e : i = 8 * (i / 8) + i % 8 := by omega
    have := q1 (i / 8) (i % 8) (by omega) (Nat.mod_lt _ (by decide))
    rw [← e, kp_all hH] at this
    exact this
  have m2 := m0.zpf q2
  have n2 : mn s2 (c_of T H (m_v0 H)) := by
    refine Or.inr ⟨(q2.2 44 (by omega)).trans a44, fun i hi => ?_, fun hr p q x y z => Or.inl ?_⟩
    · obtain ⟨r, hr, e⟩ := m_sg_bd (f := fun d => m_ct T (h_kd H) (h_nu H) (h_rt H) (h_pl H) (h_ra H) (v_tm (m_v0 H)) (-1) (-1) (i / 8) (i % 8) d) (M := 200) (k := 6) (fun d hd => by
        unfold m_ct
        split
        · obtain ⟨r, hr, e2⟩ := m_A_bd hT (h_kd H) (h_nu H) (h_rt H) (h_ra H) d (i / 8) (nI (i % 8))
          have e1 : v_tm (m_v0 H) d = 0 ∨ v_tm (m_v0 H) d = 1 := by
            show (if d < h_nd H then (1 : Int32) else 0) = 0 ∨ (if d < h_nd H then (1 : Int32) else 0) = 1
            split
            · exact Or.inr rfl
            · exact Or.inl rfl
          rw [e2]
          rcases e1 with e1 | e1
          · rw [e1]; exact ⟨0, by omega, by rw [Int32.zero_mul]; rfl⟩
          · rw [e1]; exact ⟨r, hr, by rw [Int32.one_mul]⟩
        · exact ⟨0, by omega, rfl⟩)
      exact ⟨r, e, by omega⟩
    · rw [q2.1 79 (by decide) (by decide)]
      exact a79 _ (by omega)
  have b47 : s2 63 47 = 0 := (q2.2 47 (by omega)).trans a47
  have b73 : s2 73 = σ 73 := (q2.1 73 (by decide) (by decide)).trans a73
  refine ⟨rfl, fun k i v => ∃ j, i = nI j ∧ k + j = h_nv H ∧ (∀ a, a ≠ 73 → v a = s2 a) ∧ ∀ w, h_nv H ≤ w → v 73 w = σ 73 w, ⟨h_nv H, 0, rfl, rfl, fun _ _ => rfl, fun w _ => by rw [b73]⟩, fun k3 i v hI => ?_⟩
  obtain ⟨j, rfl, hk3, hfv, hv73⟩ := hI
  have e19 : v 63 19 = nI (h_nv H) := by rw [hfv 63 (by decide), m2.2.1 19 (by omega)]; exact hm.2.2.1
  rw [e19]
  refine ⟨fun h3 => ?_, fun h3 => ?_⟩
  · have hj := (n_lt (by omega) (by omega)).mp h3
    exact ⟨j, rfl, by omega, k3 - 1, by omega, j + 1, nI_1 j, by omega, fun a ha => by rw [g_up_ne ha]; exact hfv a ha, fun w hw => by rw [u_ne (by omega)]; exact hv73 w hw⟩
  have q3 : mqf s2 v := ⟨fun a b c d => hfv a c, fun j b => by rw [hfv 63 (by decide)]⟩
  have m3 := m2.zqf q3
  have z2 : mz s2 t T H := m2.zz hm hp2
  refine g_call.i (k_puts t T H hT hH (h_nv H) 0 0 0 (h := 84) (by omega) (by omega) (by decide) (fun p _ => ⟨(fun z => by rw [Nat.zero_testBit] at z; cases z), (fun z => by obtain ⟨u, hu, -⟩ := z; exact absurd hu (Nat.not_lt_zero u))⟩) (by decide) v none (z2.zq q3) (n2.zsame (by rw [hfv 63 (by decide)]) (hfv 79 (by decide))) (fun u hu => absurd hu (Nat.not_lt_zero u)) (show v 63 47 = 0 by rw [hfv 63 (by decide)]; exact b47)) (by omega) (fun rv s4 hq => ?_)
  obtain ⟨rfl, q4, -, p73, ho⟩ := hq
  rw [← ws_wy] at ho
  have m4 := m3.zqf q4
  obtain ⟨W1, hW1, hW2⟩ := m_ws_ne ⟨h_nv H, by omega⟩
  have hne : m_ws (h_nv H) (8 ^ h_nv H) ≠ [] := fun z => by
    have : W1 ∈ m_ws (h_nv H) (8 ^ h_nv H) := List.mem_filter.mpr ⟨List.mem_range.mpr hW1, hW2⟩
    rw [z] at this
    cases this
  obtain ⟨⟨c, b⟩, eq⟩ := m_fl_ne (f_st T H) hne none
  rw [eq] at ho
  rw [eq]
  obtain ⟨-, o46, o80⟩ := ho
  refine ⟨rfl, fun k i v => ∃ j, i = nI j ∧ k + j = 5 ∧ (∀ a, a ≠ 73 → a ≠ 63 → v a = s4 a) ∧ (∀ w, w < j → v 73 w = σ 73 w) ∧ (∀ w, 5 ≤ w → v 73 w = σ 73 w) ∧ v 63 44 = 0 ∧ ∀ w, w ≠ 44 → v 63 w = s4 63 w, ⟨5, 0, rfl, rfl, fun a _ b => g_up_ne b, fun w hw => absurd hw (Nat.not_lt_zero w), fun w hw => by rw [g_up_ne (by decide), p73 w (by omega)]; exact hv73 w (by omega), u_eq _ _ _ _, fun w hw => u_ne hw⟩, fun k5 i y hI => ?_⟩
  obtain ⟨j, rfl, hk5, hfy, y73, y73', y44, y63⟩ := hI
  refine ⟨fun h5 => ?_, fun h5 => ?_⟩
  · have hj := (n_lt (b := 5) (by omega) (by omega)).mp h5
    refine ⟨j, rfl, hj, k5 - 1, by omega, j + 1, nI_1 j, by omega, fun a ha hb => by rw [g_up_ne ha]; exact hfy a ha hb, fun w hw => ?_, fun w hw => ?_, by rw [g_up_ne (by decide)]; exact y44, fun w hw => by rw [g_up_ne (by decide)]; exact y63 w hw⟩
    · by_cases e : w = j
      · subst e; rw [u_eq, hfy 81 (by decide) (by decide)]; exact m4.2.2 w hj
      · rw [u_ne e]; exact y73 w (by omega)
    · rw [u_ne (by omega)]; exact y73' w hw
  have ej : j = 5 := by
    rcases Nat.lt_or_ge j 5 with z | z
    · exact absurd ((n_lt (b := 5) (by omega) (by omega)).mpr z) h5
    · omega
  subst ej
  have fin : mxf σ y := by
    refine ⟨fun a b c => ?_, fun i hi => ?_⟩
    · by_cases e : a = 73
      · subst e
        funext w
        rcases Nat.lt_or_ge w 5 with z | z
        · exact y73 w z
        · exact y73' w z
      · rw [hfy a e b]; exact m4.1 a b e c
    · by_cases e : i = 44
      · subst e; rw [y44]; exact hm.2.2.2.2.2.symm
      · rw [y63 i e]; exact m4.2.1 i (by omega)
  have y46 : y 63 46 = c := (y63 46 (by decide)).trans o46
  refine ⟨fun h6 => ⟨?_, fin⟩, fun h6 => ?_⟩
  · rw [y46]
    show _ = some (Value.int (if wh = -1 then c else _))
    rw [if_pos h6]
  · have h4 := hJ.resolve_left h6
    obtain ⟨v, hv, rfl⟩ := g_nat h4 rfl (by omega)
    refine ⟨v, rfl, by omega, ?_, fin⟩
    show _ = some (Value.int (if nI v = -1 then c else nI (m_pl (h_nv H) b (ix (nI v)))))
    rw [if_neg h6, ix_nI (by omega), hfy 80 (by decide) (by decide), o80 v hv]
