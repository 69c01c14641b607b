/-! stand -/
def m_pl (n W v : Nat) : Nat := W / 8 ^ (n - 1 - v) % 8
def m_ok (n W : Nat) : Bool := decide (∀ v, v < n → ∀ u, u < v → m_pl n W u ≠ m_pl n W v)
theorem m_pl_lt (n W v : Nat) : m_pl n W v < 8 := Nat.mod_lt _ (by decide)
def m_vq (H : mH) (st : gF) : mV := (h_ra H, v_tm (m_v0 H), -1, -1, st, h_up H, h_so H, h_hd H)
def m_vw (H : mH) (W : Nat) : mV := m_vq H (fun v => nI (m_pl (h_nv H) W v))
def f_st (T : mT) (H : mH) (W : Nat) : Int32 := m_cost (m_day T H (m_vw H W) 24)
theorem m_vq_ok {H : mH} (hH : h_ok H) (st : gF) : v_ok H (m_vq H st) := ⟨(m_v0_ok hH).1, (m_v0_ok hH).2.1, (m_v0_ok hH).2.2⟩
theorem m_sh7 {W m : Nat} (hW : W < 2 ^ 30) (hm : m ≤ 4) : (nI W >>> (nI (3 * m) &&& 31)) &&& 7 = nI (W / 8 ^ m % 8) := by
  have e : ((nI (3 * m) &&& 31).toBitVec.smod 32).toNat = 3 * m := by
    have H : ∀ m : Fin 5, ((nI (3 * m.val) &&& 31).toBitVec.smod 32).toNat = 3 * m.val := by decide +kernel
    exact H ⟨m, by omega⟩
  rw [pk_shrN (by omega) _ (3 * m) e, pk_andN (by have := Nat.div_le_self W (2 ^ (3 * m)); omega) 3 rfl, Nat.pow_mul]
theorem k_placeBy {h : Nat} (hh : 6 ≤ h) (σ : gS) {n W v : Nat} (hn : σ 1 9 = nI n) (hn5 : n ≤ 5) (hv : v < n) (hW : W < 2 ^ 30) : g_Met yX0_placeBy cX0_placeBy 3 (some .int) h kX [.ref 26, .int (nI W), .int (nI v)] σ (fun rv s => rv = some (.int (nI (m_pl n W v))) ∧ s = σ) := by
  refine w_X0_placeBy hh ?_
  unfold P_X0_placeBy
  have e1 : nI n - 1 - nI v = nI (n - 1 - v) := by
    have e0 : nI n - 1 = nI (n - 1) := pk_sub (a := n) (b := 1) (by omega)
    rw [e0, pk_sub (by omega)]
  have e2 : 3 * nI (n - 1 - v) = nI (3 * (n - 1 - v)) := pk_mul 3 _
  rw [hn, e1, e2, m_sh7 hW (by omega)]
  exact ⟨rfl, rfl⟩
theorem b_test {U p : Nat} (hU : U < 256) (hp : p < 8) : ((nI U >>> (nI p &&& 31)) &&& 1) = 0 ↔ Nat.testBit U p = false := by
  have H : ∀ U : Fin 256, ∀ p : Fin 8, (((nI U.val >>> (nI p.val &&& 31)) &&& 1) = 0 ↔ Nat.testBit U.val p.val = false) := by decide +kernel
  exact H ⟨U, hU⟩ ⟨p, hp⟩
theorem b_or {U q : Nat} (hU : U < 256) (hq : q < 8) : nI U ||| ((1 : Int32) <<< (nI q &&& 31)) = nI (U ||| 2 ^ q) ∧ (U ||| 2 ^ q) < 256 := by
  have H : ∀ U : Fin 256, ∀ q : Fin 8, nI U.val ||| ((1 : Int32) <<< (nI q.val &&& 31)) = nI (U.val ||| 2 ^ q.val) ∧ (U.val ||| 2 ^ q.val) < 256 := by decide +kernel
  exact H ⟨U, hU⟩ ⟨q, hq⟩
theorem xL.zst {σ s : gS} {T : mT} {t : Nat} {H : mH} {st st' : gF} (h : xL σ T t H (m_vq H st)) (e : ∀ a, a ≠ 27 → s a = σ a) (e27 : ∀ v, v < h_nv H → s 27 v = st' v) : xL s T t H (m_vq H st') := by
  obtain ⟨⟨h1, h2, h3, h4, h5, h6, h7⟩, h8, h9⟩ := h
  exact ⟨⟨h1.same (by rw [e 23 (by decide)]) (e _ (by omega)) (e _ (by omega)), h2.same (fun a ha => e a (by omega)), fun a b => by rw [e 34 (by decide)]; exact h3 a b, fun a b => by rw [e 35 (by decide)]; exact h4 a b, by rw [e 33 (by decide)]; exact h5, e27, by rw [e 26 (by decide)]; exact h7⟩, fun i hi => by rw [e 36 (by decide)]; exact h8 i hi, fun hr p q a b1 b2 b3 b4 => by rw [e 31 (by decide), e 32 (by decide)]; exact h9 hr p q a b1 b2 b3 b4⟩
theorem k_isStoodBy {h : Nat} (hh : 8 ≤ h) (σ : gS) {T : mT} {t : Nat} {H : mH} {st : gF} (hH : h_ok H) (hL : xL σ T t H (m_vq H st)) {W : Nat} (hW : W < 2 ^ 30) : g_Met yX0_isStoodBy cX0_isStoodBy 5 (some .boolean) h kX [.ref 26, .int (nI W)] σ (fun rv s => rv = some (.int (if m_ok (h_nv H) W = true then 1 else 0)) ∧ (∃ st', xL s T t H (m_vq H st')) ∧ (m_ok (h_nv H) W = true → xL s T t H (m_vw H W)) ∧ xfr σ s) := by
  have hn := hL.1.2.1.1.2.1
  have hn5 := hH.1.2.1
  refine w_X0_isStoodBy (by omega) ?_
  unfold P_X0_isStoodBy
  refine ⟨fun k used v2 s => ∃ v U, v2 = nI v ∧ k + v = h_nv H ∧ used = nI U ∧ U < 256 ∧ (∀ p, p < 8 → (Nat.testBit U p = true ↔ ∃ u, u < v ∧ m_pl (h_nv H) W u = p)) ∧ (∀ v', v' < v → ∀ u, u < v' → m_pl (h_nv H) W u ≠ m_pl (h_nv H) W v') ∧ (∀ u, u < v → s 27 u = nI (m_pl (h_nv H) W u)) ∧ ∀ a, a ≠ 27 → s a = σ a, ⟨h_nv H, 0, 0, rfl, rfl, rfl, by decide, fun p hp => ⟨(fun z => by rw [Nat.zero_testBit] at z; cases z), (fun z => by obtain ⟨u, hu, -⟩ := z; exact absurd hu (Nat.not_lt_zero u))⟩, fun v' hv => absurd hv (Nat.not_lt_zero v'), fun u hu => absurd hu (Nat.not_lt_zero u), fun _ _ => rfl⟩, fun k used v2 s hI => ?_⟩
  obtain ⟨v, U, rfl, hk, rfl, hU, hbit, hdj, h27, hf⟩ := hI
  have fin : h_nv H ≤ v → m_ok (h_nv H) W = true ∧ xL s T t H (m_vw H W) := fun z => ⟨decide_eq_true (fun v' hv' => hdj v' (by omega)), hL.zst hf (fun u hu => h27 u (by omega))⟩
  have exL : ∃ st', xL s T t H (m_vq H st') := ⟨s 27, hL.zst hf (fun _ _ => rfl)⟩
  have hfr : xfr σ s := fun a ha => hf a (by omega)
  rw [hf 1 (by decide), hn]
  refine ⟨fun h1 => ⟨fun h2 => ?_, fun h2 => absurd ((n_lt (b := 5) (by omega) (by omega)).mpr (by have := (n_lt (by omega) (by omega)).mp h1; omega)) h2⟩, fun h1 => ?_⟩
  · have hv := (n_lt (by omega) (by omega)).mp h1
    refine g_call.i (k_placeBy (h := 6) (by omega) s (n := h_nv H) (by rw [hf 1 (by decide)]; exact hn) hn5 hv hW) (by omega) (fun rv s' hq => ?_)
    obtain ⟨rfl, rfl⟩ := hq
    have hp8 := m_pl_lt (h_nv H) W v
    refine ⟨_, rfl, fun h3 => ?_, fun h3 => ?_⟩
    · have hnot := (b_test hU hp8).mp h3
      obtain ⟨eo, ho⟩ := b_or hU hp8
      rw [eo]
      refine ⟨v, rfl, by omega, k - 1, by omega, v + 1, U ||| 2 ^ m_pl (h_nv H) W v, nI_1 v, by omega, rfl, ho, fun p hp => ?_, fun v' hv' u hu => ?_, fun u hu => ?_, fun a ha => by rw [g_up_ne ha]; exact hf a ha⟩
      · rw [Nat.testBit_or, Nat.testBit_two_pow, Bool.or_eq_true, hbit p hp, decide_eq_true_eq]
        constructor
        · rintro (⟨u, hu, e⟩ | e)
          · exact ⟨u, by omega, e⟩
          · exact ⟨v, by omega, e⟩
        · rintro ⟨u, hu, e⟩
          by_cases eu : u = v
          · subst eu; exact Or.inr e
          · exact Or.inl ⟨u, by omega, e⟩
      · by_cases ev : v' = v
        · subst ev
          intro e
          have : Nat.testBit U (m_pl (h_nv H) W v') = true := (hbit _ hp8).mpr ⟨u, hu, e⟩
          rw [hnot] at this
          cases this
        · exact hdj v' (by omega) u hu
      · by_cases eu : u = v
        · subst eu; rw [u_eq]
        · rw [u_ne eu]; exact h27 u (by omega)
    · have hyes : Nat.testBit U (m_pl (h_nv H) W v) = true := by
        cases hb : Nat.testBit U (m_pl (h_nv H) W v) with
        | true => rfl
        | false => exact absurd ((b_test hU hp8).mpr hb) h3
      obtain ⟨u, hu, e⟩ := (hbit _ hp8).mp hyes
      have hno : ¬ m_ok (h_nv H) W = true := fun z => (of_decide_eq_true z) v hv u hu e
      exact ⟨by rw [if_neg hno], exL, fun z => absurd z hno, hfr⟩
  · have hv : h_nv H ≤ v := by
      rcases Nat.lt_or_ge v (h_nv H) with z | z
      · exact absurd ((n_lt (by omega) (by omega)).mpr z) h1
      · exact z
    obtain ⟨f1, f2⟩ := fin hv
    exact ⟨by rw [if_pos f1], exL, fun _ => f2, hfr⟩
theorem n_pow8 {n : Nat} (h : n ≤ 5) : (1 : Int32) <<< ((3 * nI n) &&& 31) = nI (8 ^ n) := by
  have H : ∀ n : Fin 6, (1 : Int32) <<< ((3 * nI n.val) &&& 31) = nI (8 ^ n.val) := by decide +kernel
  exact H ⟨n, by omega⟩
theorem n_pow8_le {n : Nat} (h : n ≤ 5) : 8 ^ n ≤ 32768 := by
  have H : ∀ n : Fin 6, 8 ^ n.val ≤ 32768 := by decide +kernel
  exact H ⟨n, by omega⟩
/-- the ways to stand below W -/
def m_ws (n W : Nat) : List Nat := (List.range W).filter (m_ok n)
def a_stand (T : mT) (H : mH) (wh : Int32) : Int32 := if wh = -1 ∨ g_in wh 0 (nI (h_nv H) - 1) then (match m_fl (f_st T H) (m_ws (h_nv H) (8 ^ h_nv H)) none with
  | none => 0
  | some (c, W) => if wh = -1 then c else nI (m_pl (h_nv H) W (ix wh))) else -2
theorem m_ws_ne : ∀ n : Fin 6, ∃ W, W < 8 ^ n.val ∧ m_ok n.val W = true := by
  intro n
  match n with
  | ⟨0, _⟩ => exact ⟨0, show 0 < 8 ^ 0 by decide, show m_ok 0 0 = true by decide⟩
  | ⟨1, _⟩ => exact ⟨0, show 0 < 8 ^ 1 by decide, show m_ok 1 0 = true by decide⟩
  | ⟨2, _⟩ => exact ⟨1, show 1 < 8 ^ 2 by decide, show m_ok 2 1 = true by decide⟩
  | ⟨3, _⟩ => exact ⟨10, show 10 < 8 ^ 3 by decide, show m_ok 3 10 = true by decide⟩
  | ⟨4, _⟩ => exact ⟨83, show 83 < 8 ^ 4 by decide, show m_ok 4 83 = true by decide⟩
  | ⟨5, _⟩ => exact ⟨668, show 668 < 8 ^ 5 by decide, show m_ok 5 668 = true by decide⟩
theorem m_fl_mem {α : Type} (f : α → Int32) : ∀ (l : List α) (o : Option (Int32 × α)) (c : Int32) (a : α), m_fl f l o = some (c, a) → a ∈ l ∨ ∃ c', o = some (c', a)
  | [], o, c, a, h => Or.inr ⟨c, h⟩
  | b :: l, o, c, a, h => by
    rcases m_fl_mem f l _ c a h with z | ⟨c', z⟩
    · exact Or.inl (List.mem_cons_of_mem _ z)
    · cases o with
      | none =>
        have z' : some (f b, b) = some (c', a) := z
        cases z'
        exact Or.inl List.mem_cons_self
      | some q =>
        obtain ⟨c2, b2⟩ := q
        rw [m_stp] at z
        split at z
        · cases z; exact Or.inl List.mem_cons_self
        · cases z; exact Or.inr ⟨_, rfl⟩
theorem k_stand {h : Nat} (hh : 20 ≤ h) (σ : gS) {t : Nat} {T : mT} {H : mH} (hx : xok σ t T H) (wh : Int32) : g_Met yX7_stand cX7_stand 5 (some .int) h kX [.ref 0, .int wh] σ (fun rv s => rv = some (.int (a_stand T H wh)) ∧ xfr σ s) := by
  obtain ⟨hrl, hxh, hH, hT⟩ := hx
  have hn5 := hH.1.2.1
  have hpw := n_pow8_le hn5
  refine w_X7_stand (by omega) ?_
  unfold P_X7_stand
  rw [hxh.1.2.1]
  refine ⟨wh = -1 ∨ g_in wh 0 (nI (h_nv H) - 1), ⟨fun h1 => Or.inl h1, fun h1 => ⟨fun h2 => Or.inr h2, fun h2 => ⟨by rw [a_stand, if_neg (fun z => z.elim h1 h2)], xfr.refl σ⟩⟩⟩, fun hJ => ?_⟩
  rw [a_stand, if_pos hJ]
  refine g_call.i (k_dawn (h := 10) (by omega) σ hrl hxh hH) (by omega) (fun rv s1 hq => ?_)
  obtain ⟨rfl, hxa, hf⟩ := hq
  refine ⟨rfl, g_call.i (k_D_lay (h := 14) (by omega) s1 (V := m_vq H (h_st H)) hxa (m_v0_ok hH)) (by omega) (fun rv s2 hq => ?_)⟩
  obtain ⟨rfl, hL, hf2⟩ := hq
  refine ⟨rfl, fun k best v s => ∃ W o st, v = nI W ∧ k + W = 8 ^ h_nv H ∧ best = m_eb nI o ∧ o = m_fl (f_st T H) (m_ws (h_nv H) W) none ∧ xL s T t H (m_vq H st) ∧ xfr σ s, ⟨8 ^ h_nv H, 0, none, h_st H, rfl, rfl, rfl, rfl, hL, hf.trans hf2⟩, fun k best v s hI => ?_⟩
  obtain ⟨W, o, st, rfl, hk, rfl, ho, hLs, hfs⟩ := hI
  have es : m_ws (h_nv H) (W + 1) = m_ws (h_nv H) W ++ if m_ok (h_nv H) W = true then [W] else [] := by
    rw [m_ws, List.range_succ, List.filter_append, m_ws]
    congr 1
    by_cases z : m_ok (h_nv H) W = true
    · rw [if_pos z, List.filter_cons_of_pos z]
      rfl
    · rw [if_neg z, List.filter_cons_of_neg z]
      rfl
  rw [hLs.1.2.1.1.2.1, n_pow8 hn5]
  refine ⟨fun h1 => ?_, fun h1 => ?_⟩
  · have hW := (n_lt (by omega) (by omega)).mp h1
    refine g_call.i (k_isStoodBy (h := 8) (by omega) s hH hLs (W := W) (by omega)) (by omega) (fun rv u hq => ?_)
    obtain ⟨rfl, ⟨st', hLu⟩, hyes, hfu⟩ := hq
    by_cases hm : m_ok (h_nv H) W = true
    · rw [if_pos hm] at es ⊢
      refine ⟨_, rfl, fun z => absurd z (by decide), fun _ => g_call.i (k_better (h := 16) (by omega) u (hyes hm) hT hH (m_vq_ok hH _) (m_eb nI o) (nI W)) (by omega) (fun rv w hq => ?_)⟩
      obtain ⟨rfl, hLw, hfw⟩ := hq
      refine ⟨_, rfl, k - 1, by omega, W + 1, m_stp (f_st T H) W o, _, nI_1 W, by omega, m_eb_stp (f := f_st T H) (a := W) nI (m_cost_lt hT hH (m_vq_ok hH _)) o, ?_, hLw, (hfs.trans hfu).trans hfw⟩
      rw [es, m_fl_app, ← ho]
      rfl
    · rw [if_neg hm] at es ⊢
      refine ⟨_, rfl, fun _ => ⟨k - 1, by omega, W + 1, o, st', nI_1 W, by omega, rfl, ?_, hLu, hfs.trans hfu⟩, fun z => absurd rfl z⟩
      rw [es, List.append_nil]
      exact ho
  · have hWn : W = 8 ^ h_nv H := by
      rcases Nat.lt_or_ge W (8 ^ h_nv H) with z | z
      · exact absurd ((n_lt (by omega) (by omega)).mpr z) h1
      · omega
    rw [hWn] at ho
    obtain ⟨W1, hW1, hW2⟩ := m_ws_ne ⟨h_nv H, by omega⟩
    have hne : m_ws (h_nv H) (8 ^ h_nv H) ≠ [] := fun z => by
      have : W1 ∈ m_ws (h_nv H) (8 ^ h_nv H) := List.mem_filter.mpr ⟨List.mem_range.mpr hW1, hW2⟩
      rw [z] at this
      cases this
    obtain ⟨⟨c, b⟩, eq⟩ := m_fl_ne (f_st T H) hne none
    have hb : b < 8 ^ h_nv H := by
      rcases m_fl_mem _ _ _ _ _ eq with z | ⟨c', z⟩
      · exact List.mem_range.mp (List.mem_filter.mp z).1
      · cases z
    rw [eq] at ho
    rw [eq]
    subst ho
    have e1 : Int64.toInt32 (m_pk c (nI b) >>> (Int32.toInt64 32 &&& 63)) = c := m_cs_pk c (nI b)
    refine ⟨fun h3 => ⟨?_, hfs⟩, fun h3 => ?_⟩
    · show some (Value.int (Int64.toInt32 (m_pk c (nI b) >>> (Int32.toInt64 32 &&& 63)))) = some (Value.int (if wh = -1 then c else _))
      rw [e1, if_pos h3]
    · have h4 := hJ.resolve_left h3
      obtain ⟨v, hv, rfl⟩ := g_nat h4 rfl (by omega)
      have e2 : Int64.toInt32 (m_eb nI (some (c, b))) = nI b := m_ch_pk c (nI b)
      rw [e2]
      refine g_call.i (k_placeBy (h := 6) (by omega) s (n := h_nv H) hLs.1.2.1.1.2.1 hn5 hv (W := b) (by omega)) (by omega) (fun rv s' hq => ?_)
      obtain ⟨rfl, rfl⟩ := hq
      refine ⟨_, rfl, ?_, hfs⟩
      show _ = some (Value.int (if nI v = -1 then c else nI (m_pl (h_nv H) b (ix (nI v)))))
      rw [if_neg h3, ix_nI (by omega)]
