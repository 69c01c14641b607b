/-! goes(), cost() of the reference -/
def mdd (s : gS) (c : mC) (x : mD) : Prop := (∀ v, v < c_nv c → s 76 v = d_w x v) ∧ s 63 39 = d_hm x ∧ s 63 40 = d_wk x ∧ s 63 41 = d_ov x ∧ s 63 42 = d_fi x
/-- the rows of the hours that are past -/
def mrw (s : gS) (c : mC) (n : Nat) : Prop := ∀ h, h < n → (∀ v, v < c_nv c → s 77 (5 * h + v) = d_w (m_go c (h + 1) 0 (m_x0 c)) v) ∧ ∀ p, p < 8 → s 78 (8 * h + p) = d_sp (m_go c (h + 1) 0 (m_x0 c)) p
theorem m_p1_sp (c : mC) (h p : Nat) (x : mD) : d_sp (m_s1 c h p (m_c1 c h p x)) = m_put (d_sp x) p (m_c1 c h p x).2 := by
  unfold m_s1
  split <;> rfl
theorem m_pf_w (c : mC) (h : Nat) (x : mD) : d_w (m_al1 x) = d_w x := rfl
theorem k_goes {h : Nat} (hh : 70 ≤ h) (σ : gS) {c : mC} {t : Nat} (hx : mc σ c t) (hc : c_ok c) (hdj : c_dj c) (hn : mn σ c) {n : Nat} (hn24 : n ≤ 24) {nn : Int32} (enn : nn = nI n) : g_Met yX8_goes cX8_goes 9 none h kM [.ref 63, .int nn] σ (fun rv s => rv = none ∧ mgf σ s ∧ mn s c ∧ mdd s c (m_go c n 0 (m_x0 c)) ∧ mrw s c n) := by
  subst enn
  have hnv5 := hx.2.2.1.1
  refine w_X8_goes (by omega) ?_
  unfold P_X8_goes
  refine ⟨fun k i s => ∃ v, i = nI v ∧ k + v = c_nv c ∧ (∀ u, u < v → s 76 u = c_w0 c u) ∧ (∀ a, a ≠ 76 → s a = σ a), ⟨c_nv c, 0, rfl, by omega, fun u hu => absurd hu (Nat.not_lt_zero u), fun _ _ => rfl⟩, fun k i s hI => ?_⟩
  obtain ⟨v, rfl, hk, h76, hf⟩ := hI
  have hg0 : mgf σ s := ⟨fun a _ b _ _ _ => hf a b, fun j _ => by rw [hf 63 (by decide)]⟩
  have hxs := hx.zgf hg0
  rw [hxs.2.2.1.2]
  refine ⟨fun h1 => ?_, fun h1 => ?_⟩
  · have hv := (n_lt (by omega) (by omega)).mp h1
    refine ⟨v, rfl, by omega, k - 1, by omega, v + 1, nI_1 v, by omega, fun u hu => ?_, fun a ha => by rw [g_up_ne ha]; exact hf a ha⟩
    by_cases e : u = v
    · subst e; rw [u_eq]; exact (hxs.2.2.2.1 u hv).2.2
    · rw [u_ne e]; exact h76 u (by omega)
  · have hvn : v = c_nv c := by
      rcases Nat.lt_or_ge v (c_nv c) with z | z
      · exact absurd ((n_lt (by omega) (by omega)).mpr z) h1
      · omega
    subst hvn
    have hg1 : mgf σ (g_up (g_up (g_up (g_up s 63 39 0) 63 40 0) 63 41 0) 63 42 (-1)) := (((hg0.zup63 _ (by omega)).zup63 _ (by omega)).zup63 _ (by omega)).zup63 _ (by omega)
    refine ⟨fun k gone hi s => ∃ hr, hi = nI hr ∧ gone = d_al (m_go c hr 0 (m_x0 c)) ∧ k + hr = n ∧ mgf σ s ∧ mn s c ∧ mdd s c (m_go c hr 0 (m_x0 c)) ∧ mrw s c hr, ⟨n, 0, rfl, rfl, rfl, hg1, hn.zsame (by rw [u_ne (by decide), u_ne (by decide), u_ne (by decide), u_ne (by decide), hf 63 (by decide)]) (by rw [g_up_ne (by decide), g_up_ne (by decide), g_up_ne (by decide), g_up_ne (by decide), hf 79 (by decide)]), ⟨fun u hu => by rw [g_up_ne (by decide), g_up_ne (by decide), g_up_ne (by decide), g_up_ne (by decide)]; exact h76 u hu, by rw [u_ne (by decide), u_ne (by decide), u_ne (by decide), u_eq]; rfl, by rw [u_ne (by decide), u_ne (by decide), u_eq]; rfl, by rw [u_ne (by decide), u_eq]; rfl, by rw [u_eq]; rfl⟩, fun h' hh' => absurd hh' (Nat.not_lt_zero h')⟩, fun k gone hi s => ?_⟩
    intro hI
    obtain ⟨hr, rfl, rfl, hk2, hgs, hns, hd, hrw⟩ := hI
    have hxs2 := hx.zgf hgs
    refine ⟨fun h2 => ?_, fun h2 => ?_⟩
    · have hrn := (n_lt (by omega) (by omega)).mp h2
      have h24 : hr < 24 := by omega
      have hgd := m_go_gd hc hr (by omega)
      have hal := m_wake_al c hr
      have hwg := m_wake_gd hgd
      rw [hxs2.2.2.2.2.2.1]
      refine ⟨fun g u => g = d_al (m_wake c hr (m_go c hr 0 (m_x0 c))) ∧ mgf σ u ∧ mn u c ∧ mdd u c (m_wake c hr (m_go c hr 0 (m_x0 c))) ∧ mrw u c hr, ⟨fun g => ?_, fun g => ?_⟩, fun gone u hJ => ?_⟩
      · have g0 : ¬ ((c_up c >>> (nI hr &&& 31)) &&& 1) = 0 := fun z => by
          have g' : ((c_up c >>> (nI hr &&& 31)) &&& 1) = 1 := g
          rw [z] at g'; exact absurd g' (by decide)
        refine g_call.i (k_says (h := 66) (by omega) s hxs2.1 (w := 2) (by decide) h24 rfl 0 0 0 _) (by omega) (fun rv s1 hq => ?_)
        obtain ⟨rfl, hf1⟩ := hq
        have eT : c_T c 2 (if (2 : Nat) = 0 then 99 else 999) (m_nm (s 67 hr) (nI hr) 0 0 0 (d_al (m_go c hr 0 (m_x0 c)))) = c_T c 2 999 (m_nm (c_ra c hr) (nI hr) 0 0 0 (d_al (m_go c hr 0 (m_x0 c)))) := by
          rw [hxs2.2.1 hr h24]
          rfl
        rw [eT]
        refine ⟨_, rfl, ?_⟩
        have hg2 := (hgs.ztrans hf1.zg).zup63 (j := 40) (s 63 40 + c_T c 2 999 (m_nm (c_ra c hr) (nI hr) 0 0 0 (d_al (m_go c hr 0 (m_x0 c))))) (by omega)
        refine g_call.i (k_empties (h := 6) (by omega) _ (hx.zgf hg2) (d_w (m_go c hr 0 (m_x0 c))) (fun v hv => by rw [g_up_ne (by decide), hf1.1 76 (by decide)]; exact hd.1 v hv) hgd.1) (by omega) (fun rv s2 hq => ?_)
        obtain ⟨rfl, hw2, hf2⟩ := hq
        have hg3 : mgf σ s2 := hg2.ztrans ⟨fun a _ b _ _ _ => hf2 a b, fun j _ => by rw [hf2 63 (by decide)]⟩
        have ew : m_wake c hr (m_go c hr 0 (m_x0 c)) = (m_em c (c_hd c) (d_w (m_go c hr 0 (m_x0 c))), d_hm (m_go c hr 0 (m_x0 c)), d_wk (m_go c hr 0 (m_x0 c)) + c_T c 2 999 (m_nm (c_ra c hr) (nI hr) 0 0 0 (d_al (m_go c hr 0 (m_x0 c)))), d_ov (m_go c hr 0 (m_x0 c)), d_fi (m_go c hr 0 (m_x0 c)), 0, d_sp (m_go c hr 0 (m_x0 c)), d_fa (m_go c hr 0 (m_x0 c))) := by
          unfold m_wake
          rw [if_neg g0]
        rw [ew]
        have R : ∀ j, j ≠ 40 → (j < 20 ∨ 34 < j) → s2 63 j = s 63 j := fun j j1 j2 => by rw [hf2 63 (by decide), u_ne j1, hf1.2 j j2]
        refine ⟨rfl, rfl, hg3, hns.zsame (R 44 (by decide) (by omega)) (by rw [hf2 79 (by decide), g_up_ne (by decide), hf1.1 79 (by decide)]), ⟨hw2, (R 39 (by decide) (by omega)).trans hd.2.1, ?_, (R 41 (by decide) (by omega)).trans hd.2.2.2.1, (R 42 (by decide) (by omega)).trans hd.2.2.2.2⟩, fun h' hh' => ⟨fun v hv => ?_, fun p hp => ?_⟩⟩
        · rw [hf2 63 (by decide), u_eq, hd.2.2.1]
        · rw [hf2 77 (by decide), g_up_ne (by decide), hf1.1 77 (by decide)]; exact (hrw h' hh').1 v hv
        · rw [hf2 78 (by decide), g_up_ne (by decide), hf1.1 78 (by decide)]; exact (hrw h' hh').2 p hp
      · have g0 : ((c_up c >>> (nI hr &&& 31)) &&& 1) = 0 := (m_bit01 (c_up c >>> (nI hr &&& 31))).resolve_right g
        have ew : m_wake c hr (m_go c hr 0 (m_x0 c)) = m_go c hr 0 (m_x0 c) := by
          unfold m_wake
          rw [if_pos g0]
        rw [ew]
        exact ⟨rfl, hgs, hns, hd, hrw⟩
      obtain ⟨rfl, hgu, hnu, hdu, hrwu⟩ := hJ
      generalize hX : m_wake c hr (m_go c hr 0 (m_x0 c)) = x at hal hwg hdu ⊢
      refine ⟨fun k2 i u => ∃ p y, i = nI p ∧ k2 + p = 8 ∧ mgf σ u ∧ mn u c ∧ mdd u c y ∧ m_gd c hr y ∧ d_al y = nI (m_al (c_up c) hr) ∧ m_pf c hr k2 p y = m_pf c hr 8 0 x ∧ (∀ p', p' < p → u 78 (8 * hr + p') = d_sp y p') ∧ mrw u c hr, ⟨8, 0, x, rfl, rfl, hgu, hnu, hdu, hwg, hal, rfl, fun p' hp' => absurd hp' (Nat.not_lt_zero p'), hrwu⟩, fun k2 i u hI2 => ?_⟩
      obtain ⟨p, y, rfl, hk3, hgu2, hnu2, ⟨y1, y2, y3, y4, y5⟩, hgy, haly, hR, hsp, hrw2⟩ := hI2
      have hxu := hx.zgf hgu2
      refine ⟨fun h3 => ?_, fun h3 => ?_⟩
      · have hp := (n_lt (b := 8) (by omega) (by omega)).mp h3
        obtain ⟨k2, rfl⟩ : ∃ k', k2 = k' + 1 := ⟨k2 - 1, by omega⟩
        refine ⟨8 * hr + p, n_8mul hr p, by omega, g_call.i (c_X8_vesselOn u (nI p) (nv := c_nv c) hxu.2.2.1.2 hnv5) (by omega) (fun rv u1 hq => ?_)⟩
        obtain ⟨rfl, rfl⟩ := hq
        have evo : g_fd (fun j => decide (u1 73 j = nI p)) (c_nv c) 0 = m_en (m_on (c_st c) (c_nv c) p) := m_fd_on hdj (fun v hv => (hxu.2.2.2.1 v hv).2.1) hp
        rw [evo, hxu.2.2.2.2.1 (8 * hr + p) (by omega)]
        obtain ⟨Q, eQ, hQ⟩ := hc.2.1 (8 * hr + p) (by omega)
        have hca := m_ca_ok hgy hQ p
        have hgd1 := m_p1_gd hc hgy (p := p) (by omega)
        have hal1 : d_al (m_s1 c hr p (m_c1 c hr p y)) = nI (m_al (c_up c) hr) := (m_p1_al c hr p y).trans haly
        refine ⟨_, rfl, fun r u2 => r = (m_c1 c hr p y).2 ∧ (∀ v, v < c_nv c → u2 76 v = d_w (m_c1 c hr p y).1 v) ∧ ∀ a, a ≠ 76 → u2 a = u1 a, ⟨fun g => ?_, fun g => ?_⟩, fun r u2 hJ2 => ?_⟩
        · cases ho : m_on (c_st c) (c_nv c) p with
          | some v => rw [ho] at g; exact absurd g (nI_m1 (by have := m_on_lt ho; omega))
          | none =>
            refine ⟨?_, fun v hv => ?_, fun _ _ => rfl⟩
            · simp only [m_c1, m_ca, ho]
            · simp only [m_c1, m_ca, ho]; exact y1 v hv
        · cases ho : m_on (c_st c) (c_nv c) p with
          | none => rw [ho] at g; exact absurd rfl g
          | some v =>
            have hv := m_on_lt ho
            obtain ⟨W, S, eW, eS, hWS, hS99⟩ := hgy.1 v hv
            refine ⟨v, rfl, by omega, ?_⟩
            rw [(hxu.2.2.2.1 v hv).1, y1 v hv, eW, eS, eQ, pk_sub hWS]
            have emm : (if nI Q < nI (S - W) then nI Q else nI (S - W)) = nI (min Q (S - W)) := by
              by_cases z : Q < S - W
              · rw [if_pos ((n_lt (by omega) (by omega)).mpr z), Nat.min_eq_left (by omega)]
              · rw [if_neg (fun w => z ((n_lt (by omega) (by omega)).mp w)), Nat.min_eq_right (by omega)]
            rw [emm]
            have hsu : c_su c (8 * hr + p) = nI Q := eQ
            by_cases q0 : (0 : Int32) < nI Q
            · refine ⟨?_, fun w hw => ?_, fun a ha => g_up_ne ha⟩
              · simp only [m_c1, m_ca, ho, hsu, if_pos q0, eW, eS]
                rw [pk_sub hWS, m_mn_n (by omega) (by omega)]
              · simp only [m_c1, m_ca, ho, hsu, if_pos q0, eW, eS]
                rw [pk_sub hWS, m_mn_n (by omega) (by omega)]
                by_cases e : w = v
                · subst e; rw [u_eq]; exact (if_pos rfl).symm
                · rw [u_ne e]; exact (y1 w hw).trans (if_neg e).symm
            · have hQ0 : Q = 0 := by
                rcases Nat.eq_zero_or_pos Q with z | z
                · exact z
                · exact absurd ((n_lt (a := 0) (by omega) (by omega)).mpr z) q0
              have em0 : min Q (S - W) = 0 := by omega
              rw [em0]
              refine ⟨?_, fun w hw => ?_, fun a ha => g_up_ne ha⟩
              · simp only [m_c1, m_ca, ho, hsu, if_neg q0]
                exact Int32.sub_zero _
              · simp only [m_c1, m_ca, ho, hsu, if_neg q0]
                by_cases e : w = v
                · subst e
                  rw [u_eq]
                  exact (Int32.add_zero _).trans eW.symm
                · rw [u_ne e]; exact y1 w hw
        · obtain ⟨rfl, hw2, hfu2⟩ := hJ2
          obtain ⟨rr, err, hrr⟩ := hca.2
          have err' : (m_c1 c hr p y).2 = nI rr := by
            show (m_ca (c_su c (8 * hr + p)) (c_sz c) (d_w y) (m_on (c_st c) (c_nv c) p)).2 = nI rr
            rw [eQ]; exact err
          have hgu3 : mgf σ u2 := hgu2.ztrans ⟨fun a _ b _ _ _ => hfu2 a b, fun j _ => by rw [hfu2 63 (by decide)]⟩
          have hgu4 := hgu3.zup (a := 78) (8 * hr + p) (nI rr) (by omega)
          have hmn4 : mn (g_up u2 78 (8 * hr + p) (nI rr)) c := hnu2.zsame (by rw [g_up_ne (by decide), hfu2 63 (by decide)]) (by rw [g_up_ne (by decide), hfu2 79 (by decide)])
          have rw4 : ∀ (s' : gS), s' 77 = u1 77 → s' 78 = (g_up u2 78 (8 * hr + p) (nI rr)) 78 → mrw s' c hr ∧ ∀ p', p' < p + 1 → s' 78 (8 * hr + p') = m_put (d_sp y) p (nI rr) p' := by
            intro s' e77 e78
            refine ⟨fun h' hh' => ⟨fun v hv => by rw [e77]; exact (hrw2 h' hh').1 v hv, fun p' hp' => ?_⟩, fun p' hp' => ?_⟩
            · rw [e78, u_ne (by omega), hfu2 78 (by decide)]; exact (hrw2 h' hh').2 p' hp'
            · rw [e78]
              by_cases e : p' = p
              · subst e; rw [u_eq, m_put, if_pos rfl]
              · rw [u_ne (by omega), m_put, if_neg e, hfu2 78 (by decide)]; exact hsp p' (by omega)
          have esp : d_sp (m_s1 c hr p (m_c1 c hr p y)) = m_put (d_sp y) p (nI rr) := by rw [m_p1_sp, err']
          rw [err']
          refine ⟨fun h4 => ?_, fun h4 => ?_⟩
          · have em : m_s1 c hr p (m_c1 c hr p y) = (d_w (m_c1 c hr p y).1, d_hm y + m_H c hr p (nI rr) (nI (m_al (c_up c) hr)), d_wk y, d_ov y + nI rr, (if d_fi y = -1 then nI hr else d_fi y), d_al (m_c1 c hr p y).1, m_put (d_sp y) p (nI rr), d_fa (m_c1 c hr p y).1) := by
              unfold m_s1
              rw [err', if_pos h4]
              show (_, _ + m_H c hr p (nI rr) (d_al y), _) = _
              rw [haly]
              rfl
            have ealx : d_al x = nI (m_al (c_up c) hr) := hal
            rw [ealx]
            refine g_call.i (k_harmOf (h := 68) (by omega) _ (hx.zgf hgu4) hmn4 h24 hp eQ hQ hrr) (by omega) (fun rv u5 hq => ?_)
            obtain ⟨rfl, hn5, hf5, hf5j⟩ := hq
            have hgu5 : mgf σ u5 := hgu4.ztrans ⟨fun a b1 b2 b3 b4 b5 => hf5 a b1 b5, fun j hj => hf5j j (by omega)⟩
            have F63 : ∀ j, (j < 20 ∨ 34 < j) → u5 63 j = u1 63 j := fun j hj => by rw [hf5j j hj, g_up_ne (by decide), hfu2 63 (by decide)]
            refine ⟨_, rfl, k2, by omega, p + 1, m_s1 c hr p (m_c1 c hr p y), nI_1 p, by omega, ((hgu5.zup63 _ (by omega)).zup63 _ (by omega)).zup63 _ (by omega), hn5.zsame (by rw [u_ne (by decide), u_ne (by decide), u_ne (by decide)]) (by rw [g_up_ne (by decide), g_up_ne (by decide), g_up_ne (by decide)]), ?_, hgd1, hal1, hR, ?_⟩
            · rw [em]
              refine ⟨fun v hv => ?_, ?_, ?_, ?_, ?_⟩
              · rw [g_up_ne (by decide), g_up_ne (by decide), g_up_ne (by decide), hf5 76 (by decide) (by decide), g_up_ne (by decide)]; exact hw2 v hv
              · rw [u_ne (by decide), u_ne (by decide), u_eq, hfu2 63 (by decide), y2]
              · rw [u_ne (by decide), u_ne (by decide), u_ne (by decide), F63 40 (by omega)]; exact y3
              · rw [u_ne (by decide), u_eq, F63 41 (by omega), y4]
              · rw [u_eq, F63 42 (by omega), y5]
            · have E77 : ∀ a b d, (g_up (g_up (g_up u5 63 39 a) 63 41 b) 63 42 d) 77 = u1 77 := fun a b d => by rw [g_up_ne (by decide), g_up_ne (by decide), g_up_ne (by decide), hf5 77 (by decide) (by decide), g_up_ne (by decide), hfu2 77 (by decide)]
              have E78 : ∀ a b d, (g_up (g_up (g_up u5 63 39 a) 63 41 b) 63 42 d) 78 = (g_up u2 78 (8 * hr + p) (nI rr)) 78 := fun a b d => by rw [g_up_ne (by decide), g_up_ne (by decide), g_up_ne (by decide), hf5 78 (by decide) (by decide)]
              exact ⟨by rw [esp]; exact (rw4 _ (E77 _ _ _) (E78 _ _ _)).2, (rw4 _ (E77 _ _ _) (E78 _ _ _)).1⟩
          · have em : m_s1 c hr p (m_c1 c hr p y) = (d_w (m_c1 c hr p y).1, d_hm y, d_wk y, d_ov y, d_fi y, d_al y, m_put (d_sp y) p (nI rr), d_fa (m_c1 c hr p y).1) := by
              unfold m_s1
              rw [err', if_neg h4]
              rfl
            have this := rw4 (g_up u2 78 (8 * hr + p) (nI rr)) (by rw [g_up_ne (by decide), hfu2 77 (by decide)]) rfl
            refine ⟨k2, by omega, p + 1, m_s1 c hr p (m_c1 c hr p y), nI_1 p, by omega, hgu4, hmn4, ?_, hgd1, hal1, hR, by rw [esp]; exact this.2, this.1⟩
            rw [em]
            exact ⟨fun v hv => by rw [g_up_ne (by decide)]; exact hw2 v hv, by rw [g_up_ne (by decide), hfu2 63 (by decide)]; exact y2, by rw [g_up_ne (by decide), hfu2 63 (by decide)]; exact y3, by rw [g_up_ne (by decide), hfu2 63 (by decide)]; exact y4, by rw [g_up_ne (by decide), hfu2 63 (by decide)]; exact y5⟩
      · have hp8 : p = 8 := by
          rcases Nat.lt_or_ge p 8 with z | z
          · exact absurd ((n_lt (b := 8) (by omega) (by omega)).mpr z) h3
          · omega
        subst hp8
        have hk20 : k2 = 0 := by omega
        subst hk20
        have ey : y = m_pf c hr 8 0 x := hR
        have enext : m_go c (hr + 1) 0 (m_x0 c) = m_al1 y := by
          rw [m_go_snoc, Nat.zero_add, ey, ← hX]
          rfl
        refine ⟨fun k3 i s' => ∃ v, i = nI v ∧ k3 + v = c_nv c ∧ (∀ w, w < v → s' 77 (5 * hr + w) = d_w y w) ∧ (∀ h' w, h' < hr → w < c_nv c → s' 77 (5 * h' + w) = u 77 (5 * h' + w)) ∧ ∀ a, a ≠ 77 → s' a = u a, ⟨c_nv c, 0, rfl, by omega, fun w hw => absurd hw (Nat.not_lt_zero w), fun _ _ _ _ => rfl, fun _ _ => rfl⟩, fun k3 i s' hI3 => ?_⟩
        obtain ⟨v, rfl, hk4, hw77, hold, hfs⟩ := hI3
        have hgs' : mgf σ s' := hgu2.ztrans ⟨fun a _ _ b _ _ => hfs a b, fun j _ => by rw [hfs 63 (by decide)]⟩
        rw [(hx.zgf hgs').2.2.1.2]
        refine ⟨fun h4 => ?_, fun h4 => ?_⟩
        · have hv := (n_lt (by omega) (by omega)).mp h4
          have e5 : 5 * nI hr + nI v = nI (5 * hr + v) := by
            have e : 5 * nI hr = nI (5 * hr) := pk_mul 5 hr
            rw [e, nI_add]
          refine ⟨v, rfl, by omega, 5 * hr + v, e5, by omega, k3 - 1, by omega, v + 1, nI_1 v, by omega, fun w hw => ?_, fun h' w a b => ?_, fun a ha => by rw [g_up_ne ha]; exact hfs a ha⟩
          · by_cases e : w = v
            · subst e; rw [u_eq, hfs 76 (by decide)]; exact y1 w hv
            · rw [u_ne (by omega)]; exact hw77 w (by omega)
          · rw [u_ne (by omega)]; exact hold h' w a b
        · have hvn : v = c_nv c := by
            rcases Nat.lt_or_ge v (c_nv c) with z | z
            · exact absurd ((n_lt (by omega) (by omega)).mpr z) h4
            · omega
          subst hvn
          refine ⟨k - 1, by omega, hr + 1, nI_1 hr, ?_, by omega, hgs', hnu2.zsame (by rw [hfs 63 (by decide)]) (by rw [hfs 79 (by decide)]), ?_, fun h' hh' => ?_⟩
          · rw [enext]
            show _ = d_al y + 1
            rw [haly, show d_al x = nI (m_al (c_up c) hr) from hal]
          · rw [enext]
            exact ⟨fun w hw => by rw [hfs 76 (by decide)]; exact y1 w hw, by rw [hfs 63 (by decide)]; exact y2, by rw [hfs 63 (by decide)]; exact y3, by rw [hfs 63 (by decide)]; exact y4, by rw [hfs 63 (by decide)]; exact y5⟩
          · by_cases e : h' = hr
            · subst e
              rw [enext]
              exact ⟨fun w hw => hw77 w hw, fun p' hp' => by rw [hfs 78 (by decide)]; exact hsp p' hp'⟩
            · exact ⟨fun w hw => by rw [hold h' w (by omega) hw]; exact (hrw2 h' (by omega)).1 w hw, fun p' hp' => by rw [hfs 78 (by decide)]; exact (hrw2 h' (by omega)).2 p' hp'⟩
    · have : hr = n := by
        rcases Nat.lt_or_ge hr n with z | z
        · exact absurd ((n_lt (by omega) (by omega)).mpr z) h2
        · omega
      subst this
      exact ⟨rfl, hgs, hns, hd, hrw⟩
