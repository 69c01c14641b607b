/-! THE REFERENCE'S rise -/
theorem i_or0 (x : Int32) : (0 : Int32) ||| x = x := by
  apply Int32.toBitVec_inj.mp
  simp
/-- the best so far, as the reference holds it -/
def mo (s : gS) : Option (Int32 × Int32) → Prop
  | none => s 63 47 = 0
  | some (c, b) => s 63 47 = 1 ∧ s 63 46 = c ∧ s 63 49 = b
def mwf (σ s : gS) : Prop := (∀ a, a ≠ 63 → (a < 75 ∨ 82 < a) → s a = σ a) ∧ ∀ j, j ≠ 8 → (j < 20 ∨ (34 < j ∧ j < 39) ∨ j = 44 ∨ 49 < j) → s 63 j = σ 63 j
/-- what a search keeps -/
def mst (σ : gS) (t : Nat) (T : mT) (H : mH) (s : gS) : Prop := (∃ u, mv s t T H (m_vu H u)) ∧ mp s T H (m_v0 H) ∧ mwf σ s
theorem mo.zsame {s s' : gS} {o : Option (Int32 × Int32)} (h : mo s o) (e46 : s' 63 46 = s 63 46) (e47 : s' 63 47 = s 63 47) (e49 : s' 63 49 = s 63 49) : mo s' o := by
  cases o with
  | none => exact e47.trans h
  | some q => exact ⟨e47.trans h.1, e46.trans h.2.1, e49.trans h.2.2⟩
theorem mv.zup4 {s : gS} {t : Nat} {T : mT} {H : mH} {V : mV} (h : mv s t T H V) {j : Nat} (x : Int32) (hj : j = 46 ∨ j = 47 ∨ j = 49) : mv (g_up s 63 j x) t T H V := h.zx ⟨fun a b c => g_up_ne b, fun i hi => u_ne (by omega)⟩
theorem k_tries {h : Nat} (hh : 74 ≤ h) (σ s : gS) {t : Nat} {T : mT} {H : mH} (hT : t_ok T) (hH : h_ok H) (hs : mst σ t T H s) {o : Option (Int32 × Int32)} (ho : mo s o) (b : Int32) : g_Met yX8_tries cX8_tries 3 none h kM [.ref 63, .int b] s (fun rv s' => rv = none ∧ mst σ t T H s' ∧ mo s' (m_stp (f_up T H) b o)) := by
  obtain ⟨⟨u, hm⟩, hp, hw⟩ := hs
  refine w_X8_tries (by omega) ?_
  unfold P_X8_tries
  have hm1 : mv (g_up s 63 8 b) t T H (m_vu H b) := hm.zup8 b
  have hp1 : mp (g_up s 63 8 b) T H (m_vu H b) := fun i hi => by rw [g_up_ne (by decide)]; exact hp i hi
  refine g_call.i (k_M_cost (h := 72) (by omega) _ hm1 hp1 hT hH (m_vu_ok hH b) (fun a b c d e f => v0_dj hH a b c d e f)) (by omega) (fun rv s1 hq => ?_)
  obtain ⟨rfl, g1, -, -⟩ := hq
  have hm2 := hm1.zx g1.zx
  have hp2 : mp s1 T H (m_v0 H) := fun i hi => by rw [g1.1 75 (by decide) (by decide) (by decide) (by decide) (by decide), g_up_ne (by decide)]; exact hp i hi
  have hw2 : mwf σ s1 := ⟨fun a b c => by rw [g1.zx.1 a b c, g_up_ne b]; exact hw.1 a b c, fun j b c => by rw [g1.zx.2 j c, u_ne b]; exact hw.2 j b c⟩
  have hR : ∀ j, 44 ≤ j → s1 63 j = s 63 j := fun j hj => by rw [g1.2 j (by omega), u_ne (by omega)]
  have new : mst σ t T H (g_up (g_up (g_up s1 63 47 1) 63 46 (m_cost (m_day T H (m_vu H b) 24))) 63 49 b) := ⟨⟨b, ((hm2.zup4 _ (by omega)).zup4 _ (by omega)).zup4 _ (by omega)⟩, fun i hi => by rw [g_up_ne (by decide), g_up_ne (by decide), g_up_ne (by decide)]; exact hp2 i hi, fun a b c => by rw [g_up_ne b, g_up_ne b, g_up_ne b]; exact hw2.1 a b c, fun j b c => by rw [u_ne (by omega), u_ne (by omega), u_ne (by omega)]; exact hw2.2 j b c⟩
  have mnew : mo (g_up (g_up (g_up s1 63 47 1) 63 46 (m_cost (m_day T H (m_vu H b) 24))) 63 49 b) (some (f_up T H b, b)) := ⟨by rw [u_ne (by decide), u_ne (by decide), u_eq], by rw [u_ne (by decide), u_eq]; rfl, u_eq _ _ _ _⟩
  refine ⟨_, rfl, ?_⟩
  cases o with
  | none =>
    have h47 : s1 63 47 = 0 := (hR 47 (by omega)).trans ho
    exact ⟨fun _ => ⟨rfl, new, mnew⟩, fun z => absurd h47 z⟩
  | some q =>
    obtain ⟨c, b0⟩ := q
    have h47 : s1 63 47 = 1 := (hR 47 (by omega)).trans ho.1
    have h46 : s1 63 46 = c := (hR 46 (by omega)).trans ho.2.1
    refine ⟨fun z => absurd (h47.symm.trans z) (by decide), fun _ => ⟨fun g => ⟨rfl, new, ?_⟩, fun g => ⟨rfl, ⟨⟨b, hm2⟩, hp2, hw2⟩, ?_⟩⟩⟩
    · rw [h46] at g
      rw [m_stp, if_pos (show f_up T H b < c from g)]
      exact mnew
    · rw [h46] at g
      rw [m_stp, if_neg (show ¬ f_up T H b < c from g)]
      exact mo.zsame (o := some (c, b0)) ho (hR 46 (by omega)) (hR 47 (by omega)) (hR 49 (by omega))
def m_b1 (i : Nat) : Int32 := (1 : Int32) <<< (nI i &&& 31)
theorem k_M_rise {h : Nat} (hh : 78 ≤ h) (σ : gS) {t : Nat} {T : mT} {H : mH} (hx : mok σ t T H) (k wh : Int32) : g_Met yX8_rise cX8_rise 7 (some .int) h kM [.ref 63, .int k, .int wh] σ (fun rv s => rv = some (.int (a_rise T H k wh)) ∧ mxf σ s) := by
  obtain ⟨hm, hH, hT⟩ := hx
  refine w_X8_rise (by omega) ?_
  unfold P_X8_rise
  refine ⟨fun h1 => ⟨fun h2 => ?_, fun h2 => ⟨by rw [a_rise, if_neg (fun z => h2 z.2)], mxf.zrefl σ⟩⟩, fun h1 => ⟨by rw [a_rise, if_neg (fun z => h1 z.1)], mxf.zrefl σ⟩⟩
  rw [a_rise, if_pos ⟨h1, h2⟩]
  obtain ⟨k, hk3, rfl⟩ := n_of (M := 3) h1 (by decide)
  rw [ix_nI (by omega)]
  have hm1 : mv (g_up σ 63 47 0) t T H (m_v0 H) := hm.zup4 0 (by omega)
  refine g_call.i (k_allDrips (h := 6) (by omega) _ hm1.2.1) (by omega) (fun rv s hq => ?_)
  obtain ⟨rfl, rfl⟩ := hq
  refine ⟨_, rfl, g_call.i (k_pours (h := 72) (by omega) _ hm1 hH _ (V2 := m_v0 H) rfl (kp_all hH).symm rfl rfl) (by omega) (fun rv s1 hq => ?_)⟩
  obtain ⟨rfl, q1, q2⟩ := hq
  have st1 : mst σ t T H s1 := ⟨⟨h_up H, hm1.zx q2.zx⟩, q1, fun a b c => by rw [q2.zx.1 a b c, g_up_ne b], fun j b c => by rw [q2.zx.2 j c, u_ne (by omega)]⟩
  have mo1 : mo s1 none := by
    show s1 63 47 = 0
    rw [q2.2 47 (by omega), u_eq]
  have K : ∀ j : Nat, j ≤ 3 → (nI k = nI j ↔ k = j) := fun j hj => n_eq (by omega) (by omega)
  have KL : ∀ j : Nat, j ≤ 3 → (nI j < nI k ↔ j < k) := fun j hj => n_lt (by omega) (by omega)
  let A : Nat → List Int32 := fun a => m_hs (k - 1) a (m_b1 a)
  let oa : Nat → Option (Int32 × Int32) := fun a => if k = 0 then m_fl (f_up T H) [0] none else m_fl (f_up T H) ((List.range a).flatMap A) none
  let B : Nat → Nat → List Int32 := fun a b => m_hs (k - 2) b (m_b1 a ||| m_b1 b)
  let ob : Nat → Nat → Option (Int32 × Int32) := fun a b => m_fl (f_up T H) ((List.range b).flatMap (B a)) (oa a)
  have oaS : ∀ a, k ≠ 0 → oa (a + 1) = m_fl (f_up T H) (A a) (oa a) := fun a hk0 => by
    show (if k = 0 then _ else _) = m_fl _ _ (if k = 0 then _ else _)
    rw [if_neg hk0, if_neg hk0, List.range_succ, List.flatMap_append, m_fl_app]
    simp
  have obS : ∀ a b, ob a (b + 1) = m_fl (f_up T H) (B a b) (ob a b) := fun a b => by
    show m_fl _ _ _ = m_fl _ _ (m_fl _ _ _)
    rw [List.range_succ, List.flatMap_append, m_fl_app]
    simp
  have obA : ∀ a, 2 ≤ k → ob a a = m_fl (f_up T H) (A a) (oa a) := fun a hk2 => by
    show m_fl _ ((List.range a).flatMap (B a)) _ = m_fl _ (m_hs (k - 1) a (m_b1 a)) _
    rw [show k - 1 = (k - 2) + 1 by omega]
    rfl
  have efin : oa 24 = m_fl (f_up T H) (m_hs k 24 0) none ∨ k = 0 := by
    by_cases hk0 : k = 0
    · exact Or.inr hk0
    · left
      show (if k = 0 then _ else _) = _
      rw [if_neg hk0]
      have : m_hs k 24 0 = (List.range 24).flatMap A := by
        have e : k = (k - 1) + 1 := by omega
        rw [e, m_hs]
        congr 1
        funext i
        rw [i_or0]
        show _ = m_hs (k - 1 + 1 - 1) i (m_b1 i)
        rw [show k - 1 + 1 - 1 = k - 1 by omega]
        rfl
      rw [this]
  have fin : ∀ s, mst σ t T H s → mo s (m_fl (f_up T H) (m_hs k 24 0) none) → some (Value.int (if wh = 0 then s 63 46 else s 63 49)) = some (Value.int (match m_fl (f_up T H) (m_hs k 24 0) none with | none => 0 | some (c, b) => if wh = 0 then c else b)) ∧ mxf σ (g_up s 63 8 (σ 63 8)) := by
    intro s hs ho
    obtain ⟨⟨c, b⟩, eq⟩ := m_fl_ne (f_up T H) (m_hs_ne ⟨k, by omega⟩) none
    have eq' : m_fl (f_up T H) (m_hs k 24 0) none = some (c, b) := eq
    rw [eq'] at ho ⊢
    refine ⟨by rw [ho.2.1, ho.2.2], fun a x y => by rw [g_up_ne x]; exact hs.2.2.1 a x y, fun j hj => ?_⟩
    by_cases z : j = 8
    · subst z; rw [u_eq]
    · rw [u_ne z]; exact hs.2.2.2 j z hj
  refine ⟨rfl, fun s => mst σ t T H s ∧ mo s (oa 0), ⟨fun g => ?_, fun g => ⟨st1, ?_⟩⟩, fun s11 hJ => ?_⟩
  · have hk0 := (K 0 (by omega)).mp g
    refine g_call.i (k_tries (h := 74) (by omega) σ s1 hT hH st1 mo1 0) (by omega) (fun rv s2 hq => ?_)
    obtain ⟨rfl, a1, a2⟩ := hq
    refine ⟨rfl, a1, ?_⟩
    show mo s2 (if k = 0 then _ else _)
    rw [if_pos hk0]
    exact a2
  · have hk0 : ¬ k = 0 := fun z => g ((K 0 (by omega)).mpr z)
    show mo s1 (if k = 0 then _ else _)
    rw [if_neg hk0]
    exact mo1
  refine ⟨fun kk v s => ∃ a, v = nI a ∧ kk + a = 24 ∧ mst σ t T H s ∧ mo s (oa a), ⟨24, 0, rfl, rfl, hJ.1, hJ.2⟩, fun kk v s hI => ?_⟩
  obtain ⟨a, rfl, hkk, hs, ho⟩ := hI
  refine ⟨fun g => ⟨fun g1 => ?_, fun g1 => ?_⟩, fun g => ?_⟩
  · have ha := (n_lt (b := 24) (by omega) (by omega)).mp g
    have hk1 : 0 < k := (KL 0 (by omega)).mp g1
    have nexta : ∀ s', mst σ t T H s' → mo s' (m_fl (f_up T H) (A a) (oa a)) → ∃ k', k' < kk ∧ ∃ a', nI a + 1 = nI a' ∧ k' + a' = 24 ∧ mst σ t T H s' ∧ mo s' (oa a') := fun s' x y => ⟨kk - 1, by omega, a + 1, nI_1 a, by omega, x, by rw [oaS a (by omega)]; exact y⟩
    refine ⟨fun s' => mst σ t T H s' ∧ mo s' (if k = 1 then m_fl (f_up T H) (A a) (oa a) else oa a), ⟨fun g2 => ?_, fun g2 => ⟨hs, ?_⟩⟩, fun s37 hJ2 => ?_⟩
    · have hk1' := (K 1 (by omega)).mp g2
      refine g_call.i (k_tries (h := 74) (by omega) σ s hT hH hs ho _) (by omega) (fun rv s2 hq => ?_)
      obtain ⟨rfl, a1, a2⟩ := hq
      refine ⟨rfl, a1, ?_⟩
      rw [if_pos hk1']
      have eA : A a = [m_b1 a] := by
        show m_hs (k - 1) a (m_b1 a) = _
        rw [hk1']
        rfl
      rw [eA]
      exact a2
    · rw [if_neg (fun z => g2 ((K 1 (by omega)).mpr z))]
      exact ho
    · refine ⟨fun kb v s' => ∃ b, v = nI b ∧ kb + b = a ∧ mst σ t T H s' ∧ mo s' (if k = 1 then m_fl (f_up T H) (A a) (oa a) else ob a b), ⟨a, 0, rfl, rfl, hJ2.1, ?_⟩, fun kb v s' hIb => ?_⟩
      · have := hJ2.2
        by_cases z : k = 1
        · rw [if_pos z] at this ⊢; exact this
        · rw [if_neg z] at this ⊢; exact this
      · obtain ⟨b, rfl, hkb, hsb, hob⟩ := hIb
        refine ⟨fun gb => ⟨fun g3 => ?_, fun g3 => ?_⟩, fun gb => ?_⟩
        · have hb := (n_lt (by omega) (by omega)).mp gb
          have hk2 : 1 < k := (KL 1 (by omega)).mp g3
          have hne1 : ¬ k = 1 := by omega
          rw [if_neg hne1] at hob
          have nextb : ∀ s'', mst σ t T H s'' → mo s'' (m_fl (f_up T H) (B a b) (ob a b)) → ∃ k', k' < kb ∧ ∃ b', nI b + 1 = nI b' ∧ k' + b' = a ∧ mst σ t T H s'' ∧ mo s'' (if k = 1 then m_fl (f_up T H) (A a) (oa a) else ob a b') := fun s'' x y => ⟨kb - 1, by omega, b + 1, nI_1 b, by omega, x, by rw [if_neg hne1, obS]; exact y⟩
          refine ⟨fun s'' => mst σ t T H s'' ∧ mo s'' (if k = 2 then m_fl (f_up T H) (B a b) (ob a b) else ob a b), ⟨fun g4 => ?_, fun g4 => ⟨hsb, ?_⟩⟩, fun s63 hJ4 => ?_⟩
          · have hk2' := (K 2 (by omega)).mp g4
            refine g_call.i (k_tries (h := 74) (by omega) σ s' hT hH hsb hob _) (by omega) (fun rv s2 hq => ?_)
            obtain ⟨rfl, a1, a2⟩ := hq
            refine ⟨rfl, a1, ?_⟩
            rw [if_pos hk2']
            have eB : B a b = [m_b1 a ||| m_b1 b] := by
              show m_hs (k - 2) b (m_b1 a ||| m_b1 b) = _
              rw [hk2']
              rfl
            rw [eB]
            exact a2
          · rw [if_neg (fun z => g4 ((K 2 (by omega)).mpr z))]
            exact hob
          · refine ⟨fun kc v s'' => ∃ c, v = nI c ∧ kc + c = b ∧ mst σ t T H s'' ∧ mo s'' (if k = 2 then m_fl (f_up T H) (B a b) (ob a b) else m_fl (f_up T H) ((List.range c).flatMap (fun c => [(m_b1 a ||| m_b1 b) ||| m_b1 c])) (ob a b)), ⟨b, 0, rfl, rfl, hJ4.1, ?_⟩, fun kc v s'' hIc => ?_⟩
            · have := hJ4.2
              by_cases z : k = 2
              · rw [if_pos z] at this ⊢; exact this
              · rw [if_neg z] at this ⊢; exact this
            · obtain ⟨c, rfl, hkc, hsc, hoc⟩ := hIc
              refine ⟨fun gc => ⟨fun g5 => ?_, fun g5 => ?_⟩, fun gc => ?_⟩
              · have hc := (n_lt (by omega) (by omega)).mp gc
                have hk3' : 2 < k := (KL 2 (by omega)).mp g5
                have hne2 : ¬ k = 2 := by omega
                rw [if_neg hne2] at hoc
                refine g_call.i (k_tries (h := 74) (by omega) σ s'' hT hH hsc hoc _) (by omega) (fun rv s2 hq => ?_)
                obtain ⟨rfl, a1, a2⟩ := hq
                refine ⟨rfl, kc - 1, by omega, c + 1, nI_1 c, by omega, a1, ?_⟩
                rw [if_neg hne2, List.range_succ, List.flatMap_append, m_fl_app]
                exact a2
              · have hk2' : k = 2 := by
                  have : ¬ 2 < k := fun z => g5 ((KL 2 (by omega)).mpr z)
                  omega
                rw [if_pos hk2'] at hoc
                exact nextb s'' hsc hoc
              · have hcb : c = b := by
                  rcases Nat.lt_or_ge c b with z | z
                  · exact absurd ((n_lt (by omega) (by omega)).mpr z) gc
                  · omega
                subst hcb
                refine nextb s'' hsc ?_
                by_cases z : k = 2
                · rw [if_pos z] at hoc; exact hoc
                · rw [if_neg z] at hoc
                  have hk3e : k = 3 := by omega
                  have eB : B a c = (List.range c).flatMap (fun c' => [(m_b1 a ||| m_b1 c) ||| m_b1 c']) := by
                    show m_hs (k - 2) c (m_b1 a ||| m_b1 c) = _
                    rw [hk3e]
                    rfl
                  rw [eB]
                  exact hoc
        · have hk1' : k = 1 := by
            have : ¬ 1 < k := fun z => g3 ((KL 1 (by omega)).mpr z)
            omega
          rw [if_pos hk1'] at hob
          exact nexta s' hsb hob
        · have hba : b = a := by
            rcases Nat.lt_or_ge b a with z | z
            · exact absurd ((n_lt (by omega) (by omega)).mpr z) gb
            · omega
          subst hba
          refine nexta s' hsb ?_
          by_cases z : k = 1
          · rw [if_pos z] at hob; exact hob
          · rw [if_neg z, obA b (by omega)] at hob; exact hob
  · have hk0 : k = 0 := by
      have : ¬ 0 < k := fun z => g1 ((KL 0 (by omega)).mpr z)
      omega
    refine fin s hs ?_
    have : oa a = m_fl (f_up T H) (m_hs k 24 0) none := by
      show (if k = 0 then _ else _) = _
      rw [if_pos hk0, hk0]
      rfl
    rw [← this]
    exact ho
  · have ha24 : a = 24 := by
      rcases Nat.lt_or_ge a 24 with z | z
      · exact absurd ((n_lt (b := 24) (by omega) (by omega)).mpr z) g
      · omega
    subst ha24
    refine fin s hs ?_
    rcases efin with z | z
    · rw [← z]; exact ho
    · have : oa 24 = m_fl (f_up T H) (m_hs k 24 0) none := by
        show (if k = 0 then _ else _) = _
        rw [if_pos z, z]
        rfl
      rw [← this]
      exact ho
