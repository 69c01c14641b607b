/-! THE BEST OF MANY: rise, lead, stand -/
def m_stp {α : Type} (f : α → Int32) (a : α) : Option (Int32 × α) → Option (Int32 × α)
  | none => some (f a, a)
  | some (c, b) => if f a < c then some (f a, a) else some (c, b)
def m_fl {α : Type} (f : α → Int32) : List α → Option (Int32 × α) → Option (Int32 × α)
  | [], o => o
  | a :: l, o => m_fl f l (m_stp f a o)
theorem m_fl_app {α : Type} (f : α → Int32) : ∀ (l l' : List α) (o : Option (Int32 × α)), m_fl f (l ++ l') o = m_fl f l' (m_fl f l o)
  | [], _, _ => rfl
  | a :: l, l', o => m_fl_app f l l' (m_stp f a o)
def m_eb {α : Type} (ch : α → Int32) : Option (Int32 × α) → Int64
  | none => 9223372032559808512
  | some (c, a) => m_pk c (ch a)
theorem m_eb_stp {α : Type} (ch : α → Int32) {f : α → Int32} {a : α} (h : f a < 2147483647) (o : Option (Int32 × α)) : m_bt (f a) (ch a) (m_eb ch o) = m_eb ch (m_stp f a o) := by
  cases o with
  | none =>
    unfold m_bt
    rw [show m_cs (m_eb ch (none : Option (Int32 × α))) = 2147483647 from m_cs_max, if_pos h]
    rfl
  | some q =>
    obtain ⟨c, b⟩ := q
    unfold m_bt
    rw [show m_eb ch (some (c, b)) = m_pk c (ch b) from rfl, m_cs_pk]
    by_cases hc : f a < c
    · rw [if_pos hc, m_stp, if_pos hc]
      rfl
    · rw [if_neg hc, m_stp, if_neg hc]
      rfl
theorem m_cost_lt {T : mT} {H : mH} {V : mV} (hT : t_ok T) (hH : h_ok H) (hV : v_ok H V) : m_cost (m_day T H V 24) < 2147483647 := by
  obtain ⟨a, b, e1, e2, h1, h2⟩ := m_go_cost (c_of_ok hT hH hV) (Nat.le_refl 24) (Nat.le_refl 24)
  unfold m_day
  rw [e2, Int32.lt_iff_toInt_lt, nI_toInt (by omega)]
  have : (2147483647 : Int32).toInt = 2147483647 := rfl
  omega
/-! rise -/
def m_vu (H : mH) (u : Int32) : mV := (h_ra H, v_tm (m_v0 H), -1, -1, h_st H, u, h_so H, h_hd H)
def m_hs : Nat → Nat → Int32 → List Int32
  | 0, _, b => [b]
  | l + 1, n, b => (List.range n).flatMap (fun i => m_hs l i (b ||| ((1 : Int32) <<< (nI i &&& 31))))
def f_up (T : mT) (H : mH) (u : Int32) : Int32 := m_cost (m_day T H (m_vu H u) 24)
theorem m_vu_ok {H : mH} (hH : h_ok H) (u : Int32) : v_ok H (m_vu H u) := ⟨(m_v0_ok hH).1, (m_v0_ok hH).2.1, (m_v0_ok hH).2.2⟩
theorem xL.zup {s : gS} {T : mT} {t : Nat} {H : mH} {u : Int32} (h : xL s T t H (m_vu H u)) (x : Int32) : xL (g_up s 26 3 x) T t H (m_vu H x) := by
  obtain ⟨h1, h2, h3⟩ := h
  exact ⟨h1.zup x, fun i hi => by rw [g_up_ne (by decide)]; exact h2 i hi, fun hr p q a b1 b2 b3 b4 => by rw [g_up_ne (by decide), g_up_ne (by decide)]; exact h3 hr p q a b1 b2 b3 b4⟩
theorem k_bestHours {T : mT} {t : Nat} {H : mH} (hT : t_ok T) (hH : h_ok H) : ∀ (l : Nat), l ≤ 3 → ∀ (n : Nat) (b : Int32) (o : Option (Int32 × Int32)) (σ : gS) (u : Int32), n ≤ 24 → xL σ T t H (m_vu H u) → g_Met yX7_bestHours cX7_bestHours 7 (some .long) (18 + 2 * l) kX [.ref 26, .int (nI l), .int (nI n), .int b, .long (m_eb id o)] σ (fun rv s => rv = some (.long (m_eb id (m_fl (f_up T H) (m_hs l n b) o))) ∧ (∃ u', xL s T t H (m_vu H u')) ∧ xfr σ s)
  | 0, _, n, b, o, σ, u, hn, hL => by
    refine w_X7_bestHours (by omega) ?_
    unfold P_X7_bestHours
    refine ⟨True, ⟨fun h1 => absurd h1 (by decide), fun _ => trivial⟩, fun _ => ?_⟩
    refine g_call.i (k_better (h := 16) (by omega) _ (hL.zup b) hT hH (m_vu_ok hH b) (m_eb id o) b) (by omega) (fun rv s hq => ?_)
    obtain ⟨rfl, hL2, hf⟩ := hq
    refine ⟨_, rfl, ?_, ⟨b, hL2⟩, ((xfr.refl σ).up 3 b (by decide)).trans hf⟩
    have := m_eb_stp (f := f_up T H) (a := b) id (m_cost_lt hT hH (m_vu_ok hH b)) o
    exact congrArg (fun z => some (Value.long z)) this
  | l + 1, hl, n, b, o, σ, u, hn, hL => by
    refine w_X7_bestHours (by omega) ?_
    unfold P_X7_bestHours
    refine ⟨False, ⟨fun h1 => ⟨fun h2 => absurd ((n_lt (a := 3) (by omega) (by omega)).mp h2) (by omega), fun _ => ?_⟩, fun h1 => absurd ((n_lt (a := 0) (by omega) (by omega)).mpr (by omega)) h1⟩, fun z => z.elim⟩
    refine ⟨fun k best v16 s => ∃ i o' u', v16 = nI i ∧ k + i = n ∧ best = m_eb id o' ∧ o' = m_fl (f_up T H) ((List.range i).flatMap (fun i => m_hs l i (b ||| ((1 : Int32) <<< (nI i &&& 31))))) o ∧ xL s T t H (m_vu H u') ∧ xfr σ s, ⟨n, 0, o, u, rfl, rfl, rfl, rfl, hL, xfr.refl σ⟩, fun k best v16 s hI => ?_⟩
    obtain ⟨i, o', u', rfl, hk, rfl, ho, hLs, hfs⟩ := hI
    refine ⟨fun h1 => ?_, fun h1 => ?_⟩
    · have hi := (n_lt (by omega) (by omega)).mp h1
      rw [nI_pred]
      refine g_call.i (k_bestHours hT hH l (by omega) i (b ||| ((1 : Int32) <<< (nI i &&& 31))) o' s u' (by omega) hLs) (by omega) (fun rv s2 hq => ?_)
      obtain ⟨rfl, ⟨u2, hL2⟩, hf2⟩ := hq
      refine ⟨_, rfl, k - 1, by omega, i + 1, _, u2, nI_1 i, by omega, rfl, ?_, hL2, hfs.trans hf2⟩
      rw [List.range_succ, List.flatMap_append, m_fl_app, ← ho]
      simp
    · have : i = n := by
        rcases Nat.lt_or_ge i n with z | z
        · exact absurd ((n_lt (by omega) (by omega)).mpr z) h1
        · omega
      subst this
      exact ⟨by rw [ho]; rfl, ⟨u', hLs⟩, hfs⟩
def a_rise (T : mT) (H : mH) (k wh : Int32) : Int32 := if g_in k 0 3 ∧ g_in wh 0 1 then (match m_fl (f_up T H) (m_hs (ix k) 24 0) none with
  | none => 0
  | some (c, b) => if wh = 0 then c else b) else -2
theorem m_stp_some {α : Type} (f : α → Int32) (a : α) (o : Option (Int32 × α)) : ∃ q, m_stp f a o = some q := by
  cases o with
  | none => exact ⟨_, rfl⟩
  | some q =>
    obtain ⟨c, b⟩ := q
    rw [m_stp]
    split
    · exact ⟨_, rfl⟩
    · exact ⟨_, rfl⟩
theorem m_fl_some {α : Type} (f : α → Int32) : ∀ (l : List α) (q : Int32 × α), ∃ q', m_fl f l (some q) = some q'
  | [], q => ⟨q, rfl⟩
  | a :: l, q => by
    obtain ⟨q1, e⟩ := m_stp_some f a (some q)
    rw [m_fl, e]
    exact m_fl_some f l q1
theorem m_fl_ne {α : Type} (f : α → Int32) {l : List α} (h : l ≠ []) (o : Option (Int32 × α)) : ∃ q, m_fl f l o = some q := by
  cases l with
  | nil => exact absurd rfl h
  | cons a l =>
    obtain ⟨q1, e⟩ := m_stp_some f a o
    rw [m_fl, e]
    exact m_fl_some f l q1
theorem m_hs_ne : ∀ l : Fin 4, m_hs l.val 24 0 ≠ [] := by
  intro l
  match l with
  | ⟨0, _⟩ => exact List.cons_ne_nil _ _
  | ⟨1, _⟩ => exact List.cons_ne_nil _ _
  | ⟨2, _⟩ => exact List.cons_ne_nil _ _
  | ⟨3, _⟩ => exact List.cons_ne_nil _ _
theorem k_rise {h : Nat} (hh : 26 ≤ h) (σ : gS) {t : Nat} {T : mT} {H : mH} (hx : xok σ t T H) (k wh : Int32) : g_Met yX7_rise cX7_rise 5 (some .int) h kX [.ref 0, .int k, .int wh] σ (fun rv s => rv = some (.int (a_rise T H k wh)) ∧ xfr σ s) := by
  obtain ⟨hrl, hxh, hH, hT⟩ := hx
  refine w_X7_rise (by omega) ?_
  unfold P_X7_rise
  refine ⟨fun h1 => ⟨fun h2 => ?_, fun h2 => ⟨by rw [a_rise, if_neg (fun z => h2 z.2)], xfr.refl σ⟩⟩, fun h1 => ⟨by rw [a_rise, if_neg (fun z => h1 z.1)], xfr.refl σ⟩⟩
  rw [a_rise, if_pos ⟨h1, h2⟩]
  obtain ⟨k, hk, rfl⟩ := n_of (M := 3) h1 (by decide)
  rw [ix_nI (by omega)]
  refine g_call.i (k_dawn (h := 10) (by omega) σ hrl hxh hH) (by omega) (fun rv s1 hq => ?_)
  obtain ⟨rfl, hxa, hf⟩ := hq
  refine ⟨rfl, g_call.i (k_D_lay (h := 14) (by omega) s1 hxa (m_v0_ok hH)) (by omega) (fun rv s2 hq => ?_)⟩
  obtain ⟨rfl, hL, hf2⟩ := hq
  refine ⟨rfl, g_call.i (k_bestHours hT hH k hk 24 0 none s2 (h_up H) (Nat.le_refl 24) hL) (by omega) (fun rv s3 hq => ?_)⟩
  obtain ⟨rfl, -, hf3⟩ := hq
  have hff := (hf.trans hf2).trans hf3
  obtain ⟨⟨c, b⟩, eq⟩ := m_fl_ne (f_up T H) (m_hs_ne ⟨k, by omega⟩) none
  rw [show m_fl (f_up T H) (m_hs k 24 0) none = some (c, b) from eq]
  have e1 : m_cs (m_eb id (some (c, b))) = c := m_cs_pk c b
  have e2 : Int64.toInt32 (m_eb id (some (c, b))) = b := m_ch_pk c b
  refine ⟨_, rfl, fun h3 => ⟨?_, hff⟩, fun h3 => ⟨?_, hff⟩⟩
  · show some (Value.int (m_cs (m_eb id (some (c, b))))) = some (Value.int (if wh = 0 then c else b))
    rw [e1, if_pos h3]
  · show some (Value.int (Int64.toInt32 (m_eb id (some (c, b))))) = some (Value.int (if wh = 0 then c else b))
    rw [e2, if_neg h3]
/-! lead -/
def m_vl (H : mH) (q : Option (Nat × Nat)) : mV := (h_ra H, v_tm (m_v0 H), (match q with | none => -1 | some (d, _) => nI d), (match q with | none => -1 | some (_, p) => nI p), h_st H, h_up H, h_so H, h_hd H)
def f_ld (T : mT) (H : mH) (q : Option (Nat × Nat)) : Int32 := m_cost (m_day T H (m_vl H q) 24)
def m_lc : Option (Nat × Nat) → Int32
  | none => -1
  | some (d, p) => nI (10 * d + p)
def m_lp (d : Nat) : List (Option (Nat × Nat)) := (List.range 8).map (fun p => some (d, p))
def m_ll (n : Nat) : List (Option (Nat × Nat)) := (List.range n).flatMap m_lp
theorem m_vl_ok {H : mH} (hH : h_ok H) (q : Option (Nat × Nat)) : v_ok H (m_vl H q) := ⟨(m_v0_ok hH).1, (m_v0_ok hH).2.1, (m_v0_ok hH).2.2⟩
theorem k_steer {h : Nat} (hh : 6 ≤ h) (σ : gS) {T : mT} {t : Nat} {H : mH} {q : Option (Nat × Nat)} (hx : xa σ T t H (m_vl H q)) (d p : Nat) : g_Met yX5_steer cX5_steer 3 none h kX [.ref 33, .int (nI d), .int (nI p)] σ (fun rv s => rv = none ∧ xa s T t H (m_vl H (some (d, p))) ∧ xfr σ s) := by
  refine w_X5_steer (by omega) ?_
  unfold P_X5_steer
  obtain ⟨h1, h2, h3, h4, h5, h6, h7⟩ := hx
  refine ⟨rfl, ⟨h1.same (by rw [g_up_ne (by decide), g_up_ne (by decide)]) (by rw [g_up_ne (by omega), g_up_ne (by omega)]) (by rw [g_up_ne (by omega), g_up_ne (by omega)]), h2.same (fun a ha => by rw [g_up_ne (by omega), g_up_ne (by omega)]), fun a b => by rw [g_up_ne (by decide), g_up_ne (by decide)]; exact h3 a b, fun a b => by rw [g_up_ne (by decide), g_up_ne (by decide)]; exact h4 a b, ⟨by rw [u_ne (by decide), u_eq]; rfl, by rw [u_eq]; rfl⟩, fun a b => by rw [g_up_ne (by decide), g_up_ne (by decide)]; exact h6 a b, by rw [g_up_ne (by decide), g_up_ne (by decide)]; exact h7⟩, ((xfr.refl σ).up _ _ (by decide)).up _ _ (by decide)⟩
def a_lead (T : mT) (H : mH) (wh : Int32) : Int32 := if g_in wh 0 1 then (match m_fl (f_ld T H) (none :: m_ll (h_nd H)) none with
  | none => 0
  | some (c, b) => if wh = 0 then m_lc b else c) else -2
theorem k_lead {h : Nat} (hh : 20 ≤ h) (σ : gS) {t : Nat} {T : mT} {H : mH} (hx : xok σ t T H) (wh : Int32) : g_Met yX7_lead cX7_lead 6 (some .int) h kX [.ref 0, .int wh] σ (fun rv s => rv = some (.int (a_lead T H wh)) ∧ xfr σ s) := by
  obtain ⟨hrl, hxh, hH, hT⟩ := hx
  refine w_X7_lead (by omega) ?_
  unfold P_X7_lead
  refine ⟨fun h1 => ?_, fun h1 => ⟨by rw [a_lead, if_neg h1], xfr.refl σ⟩⟩
  rw [a_lead, if_pos h1]
  have bstep : ∀ (q : Option (Nat × Nat)) (o : Option (Int32 × Option (Nat × Nat))), m_bt (m_cost (m_day T H (m_vl H q) 24)) (m_lc q) (m_eb m_lc o) = m_eb m_lc (m_stp (f_ld T H) q o) := fun q o => m_eb_stp (f := f_ld T H) (a := q) m_lc (m_cost_lt hT hH (m_vl_ok hH q)) o
  refine g_call.i (k_dawn (h := 10) (by omega) σ hrl hxh hH) (by omega) (fun rv s1 hq => ?_)
  obtain ⟨rfl, hxa, hf⟩ := hq
  refine ⟨rfl, g_call.i (k_D_lay (h := 14) (by omega) s1 (V := m_vl H none) hxa (m_v0_ok hH)) (by omega) (fun rv s2 hq => ?_)⟩
  obtain ⟨rfl, hL, hf2⟩ := hq
  refine ⟨rfl, g_call.i (k_better (h := 16) (by omega) s2 hL hT hH (m_vl_ok hH none) (m_eb m_lc none) (m_lc none)) (by omega) (fun rv s3 hq => ?_)⟩
  obtain ⟨rfl, hL3, hf3⟩ := hq
  rw [bstep]
  have hnd := hH.1.1
  refine ⟨_, rfl, fun k best v s => ∃ d o q, v = nI d ∧ k + d = h_nd H ∧ best = m_eb m_lc o ∧ o = m_fl (f_ld T H) (m_ll d) (m_stp (f_ld T H) none none) ∧ xa s T t H (m_vl H q) ∧ xfr σ s, ⟨h_nd H, 0, _, none, rfl, rfl, rfl, rfl, hL3.1, (hf.trans hf2).trans hf3⟩, fun k best v s hI => ?_⟩
  obtain ⟨d, o, q, rfl, hk, rfl, ho, hxs, hfs⟩ := hI
  rw [hxs.2.1.1.1]
  refine ⟨fun h2 => ?_, fun h2 => ?_⟩
  · have hd := (n_lt (by omega) (by omega)).mp h2
    refine ⟨fun k2 best v u => ∃ p o2 q2, v = nI p ∧ k2 + p = 8 ∧ best = m_eb m_lc o2 ∧ o2 = m_fl (f_ld T H) ((List.range p).map (fun p => some (d, p))) o ∧ xa u T t H (m_vl H q2) ∧ xfr σ u, ⟨8, 0, o, q, rfl, rfl, rfl, rfl, hxs, hfs⟩, fun k2 best v u hI2 => ?_⟩
    obtain ⟨p, o2, q2, rfl, hk2, rfl, ho2, hxu, hfu⟩ := hI2
    refine ⟨fun h3 => ?_, fun h3 => ?_⟩
    · have hp := (n_lt (b := 8) (by omega) (by omega)).mp h3
      refine g_call.i (k_steer (h := 6) (by omega) u hxu d p) (by omega) (fun rv u2 hq => ?_)
      obtain ⟨rfl, hx2, hg2⟩ := hq
      refine ⟨rfl, g_call.i (k_D_lay (h := 14) (by omega) u2 hx2 (m_vl_ok hH _)) (by omega) (fun rv u3 hq => ?_)⟩
      obtain ⟨rfl, hL5, hg3⟩ := hq
      have ech : 10 * nI d + nI p = m_lc (some (d, p)) := by
        have e : 10 * nI d = nI (10 * d) := pk_mul 10 d
        rw [e, nI_add]
        rfl
      rw [ech]
      refine ⟨rfl, g_call.i (k_better (h := 16) (by omega) u3 hL5 hT hH (m_vl_ok hH _) (m_eb m_lc o2) (m_lc (some (d, p)))) (by omega) (fun rv u4 hq => ?_)⟩
      obtain ⟨rfl, hL6, hg4⟩ := hq
      rw [bstep]
      refine ⟨_, rfl, k2 - 1, by omega, p + 1, _, _, nI_1 p, by omega, rfl, ?_, hL6.1, ((hfu.trans hg2).trans hg3).trans hg4⟩
      rw [List.range_succ, List.map_append, m_fl_app, ← ho2]
      rfl
    · have : p = 8 := by
        rcases Nat.lt_or_ge p 8 with z | z
        · exact absurd ((n_lt (b := 8) (by omega) (by omega)).mpr z) h3
        · omega
      subst this
      refine ⟨k - 1, by omega, d + 1, o2, q2, nI_1 d, by omega, rfl, ?_, hxu, hfu⟩
      have e : m_ll (d + 1) = m_ll d ++ m_lp d := by
        rw [m_ll, List.range_succ, List.flatMap_append]
        simp [m_ll]
      rw [e, m_fl_app, ← ho]
      exact ho2
  · have : d = h_nd H := by
      rcases Nat.lt_or_ge d (h_nd H) with z | z
      · exact absurd ((n_lt (by omega) (by omega)).mpr z) h2
      · omega
    subst this
    obtain ⟨⟨c, b⟩, eq⟩ := m_fl_ne (f_ld T H) (l := none :: m_ll (h_nd H)) (List.cons_ne_nil _ _) none
    have eo : o = some (c, b) := by rw [ho, ← eq]; rfl
    rw [eq]
    subst eo
    refine ⟨fun h3 => ⟨?_, hfs⟩, fun h3 => ⟨?_, hfs⟩⟩
    · show some (Value.int (Int64.toInt32 (m_pk c (m_lc b)))) = some (Value.int (if wh = 0 then m_lc b else c))
      rw [m_ch_pk, if_pos h3]
    · show some (Value.int (m_cs (m_pk c (m_lc b)))) = some (Value.int (if wh = 0 then m_lc b else c))
      rw [m_cs_pk, if_neg h3]
