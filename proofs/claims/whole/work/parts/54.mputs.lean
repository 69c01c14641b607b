/-! THE REFERENCE'S puts -/
theorem pl_lo {v u P q : Nat} (hu : u < v) (hq : q < 8) : m_pl (v + 1) (8 * P + q) u = m_pl v P u := by
  unfold m_pl
  obtain ⟨m, rfl⟩ : ∃ m, v = u + 1 + m := ⟨v - u - 1, by omega⟩
  have e1 : u + 1 + m + 1 - 1 - u = m + 1 := by omega
  have e2 : u + 1 + m - 1 - u = m := by omega
  rw [e1, e2, Nat.pow_succ, Nat.mul_comm (8 ^ m) 8, ← Nat.div_div_eq_div_mul, show (8 * P + q) / 8 = P by omega]
theorem pl_hi {v P q : Nat} (hq : q < 8) : m_pl (v + 1) (8 * P + q) v = q := by
  unfold m_pl
  rw [show v + 1 - 1 - v = 0 by omega, Nat.pow_zero, Nat.div_one]
  omega
def m_fre (v P q : Nat) : Bool := decide (∀ u, u < v → m_pl v P u ≠ q)
theorem ok_suc {v P q : Nat} (hq : q < 8) : m_ok (v + 1) (8 * P + q) = true ↔ m_ok v P = true ∧ m_fre v P q = true := by
  unfold m_ok m_fre
  rw [decide_eq_true_eq, decide_eq_true_eq, decide_eq_true_eq]
  constructor
  · intro h
    refine ⟨fun a ha b hb => ?_, fun u hu => ?_⟩
    · have := h a (by omega) b hb
      rw [pl_lo (by omega) hq, pl_lo (by omega) hq] at this
      exact this
    · have := h v (by omega) u hu
      rw [pl_lo hu hq, pl_hi hq] at this
      exact this
  · rintro ⟨h1, h2⟩ a ha b hb
    by_cases e : a = v
    · subst e
      rw [pl_lo hb hq, pl_hi hq]
      exact h2 b hb
    · rw [pl_lo (by omega) hq, pl_lo (by omega) hq]
      exact h1 a (by omega) b hb
/-- the ways to stand that begin with P -/
def m_wy : Nat → Nat → Nat → List Nat
  | 0, _, P => [P]
  | k + 1, v, P => (List.range 8).flatMap (fun q => if m_fre v P q = true then m_wy k (v + 1) (8 * P + q) else [])
theorem l_cut (a m : Nat) : ∀ n, List.range' a (n * m) = (List.range n).flatMap (fun q => List.range' (a + q * m) m)
  | 0 => by simp
  | n + 1 => by
    rw [Nat.succ_mul, List.range_succ, List.flatMap_append, ← l_cut a m n, ← List.range'_append_1]
    simp
theorem l_fm {f g : Nat → List Nat} : ∀ {l : List Nat}, (∀ q, q ∈ l → f q = g q) → l.flatMap f = l.flatMap g
  | [], _ => rfl
  | a :: l, h => by
    rw [List.flatMap_cons, List.flatMap_cons, h a List.mem_cons_self, l_fm (fun q hq => h q (List.mem_cons_of_mem _ hq))]
theorem l_nil : ∀ l : List Nat, l.flatMap (fun _ => ([] : List Nat)) = []
  | [] => rfl
  | _ :: l => by rw [List.flatMap_cons, l_nil l]; rfl
theorem wy_eq : ∀ (k v P : Nat), (List.range' (P * 8 ^ k) (8 ^ k)).filter (m_ok (v + k)) = if m_ok v P = true then m_wy k v P else []
  | 0, v, P => by
    have e : List.range' (P * 8 ^ 0) (8 ^ 0) = [P] := by
      rw [Nat.pow_zero, Nat.mul_one]
      rfl
    rw [e, Nat.add_zero]
    by_cases z : m_ok v P = true
    · rw [if_pos z, List.filter_cons_of_pos z]; rfl
    · rw [if_neg z, List.filter_cons_of_neg z]; rfl
  | k + 1, v, P => by
    have e : List.range' (P * 8 ^ (k + 1)) (8 ^ (k + 1)) = (List.range 8).flatMap (fun q => List.range' ((8 * P + q) * 8 ^ k) (8 ^ k)) := by
      rw [Nat.pow_succ, Nat.mul_comm (8 ^ k) 8, l_cut]
      refine l_fm (fun q _ => ?_)
      rw [Nat.add_mul, Nat.mul_comm 8 P, Nat.mul_assoc]
    rw [e, List.filter_flatMap, show v + (k + 1) = v + 1 + k by omega]
    by_cases z : m_ok v P = true
    · rw [if_pos z, m_wy]
      refine l_fm (fun q hq => ?_)
      have hq8 : q < 8 := List.mem_range.mp hq
      rw [wy_eq k (v + 1) (8 * P + q)]
      by_cases w : m_fre v P q = true
      · rw [if_pos w, if_pos ((ok_suc hq8).mpr ⟨z, w⟩)]
      · rw [if_neg w, if_neg (fun x => w ((ok_suc hq8).mp x).2)]
    · rw [if_neg z]
      refine Eq.trans (l_fm (g := fun _ => []) (fun q hq => ?_)) (l_nil _)
      have hq8 : q < 8 := List.mem_range.mp hq
      rw [wy_eq k (v + 1) (8 * P + q), if_neg (fun x => z ((ok_suc hq8).mp x).1)]
theorem ws_wy (n : Nat) : m_ws n (8 ^ n) = m_wy n 0 0 := by
  have := wy_eq n 0 0
  rw [if_pos (show m_ok 0 0 = true by decide), Nat.zero_mul, Nat.zero_add] at this
  rw [← this, m_ws, List.range_eq_range']
/-! the reference's state while it puts -/
def mz (s : gS) (t : Nat) (T : mT) (H : mH) : Prop := my_tx s t T ∧ md s H (h_ra H) ∧ s 63 19 = nI (h_nv H) ∧ (∀ v, v < h_nv H → s 72 v = h_sz H v ∧ s 74 v = h_w H v) ∧ (s 63 8 = h_up H ∧ s 63 10 = h_so H ∧ s 63 9 = nI (h_hd H)) ∧ mp s T H (m_v0 H)
def mqf (σ s : gS) : Prop := (∀ a, a ≠ 63 → a ≠ 73 → (a < 76 ∨ 80 < a) → s a = σ a) ∧ ∀ j, (j < 20 ∨ (34 < j ∧ j < 39) ∨ (42 < j ∧ j < 46) ∨ 47 < j) → s 63 j = σ 63 j
theorem mqf.zrefl (σ : gS) : mqf σ σ := ⟨fun _ _ _ _ => rfl, fun _ _ => rfl⟩
theorem mqf.ztrans {σ s u : gS} (h1 : mqf σ s) (h2 : mqf s u) : mqf σ u := ⟨fun a b c d => (h2.1 a b c d).trans (h1.1 a b c d), fun j b => (h2.2 j b).trans (h1.2 j b)⟩
theorem mgf.zq {σ s : gS} (h : mgf σ s) : mqf σ s := ⟨fun a b _ c => h.1 a b (by omega) (by omega) (by omega) (by omega), fun j b => h.2 j (by omega)⟩
theorem mqf.zup {σ s : gS} (h : mqf σ s) {a : Nat} (j : Nat) (v : Int32) (ha : a = 73 ∨ a = 80) : mqf σ (g_up s a j v) := ⟨fun b b1 b2 b3 => by rw [g_up_ne (by omega)]; exact h.1 b b1 b2 b3, fun i b => by rw [g_up_ne (by omega)]; exact h.2 i b⟩
theorem mqf.zup63 {σ s : gS} (h : mqf σ s) {j : Nat} (v : Int32) (hj : j = 46 ∨ j = 47) : mqf σ (g_up s 63 j v) := ⟨fun b b1 b2 b3 => by rw [g_up_ne b1]; exact h.1 b b1 b2 b3, fun i b => by rw [u_ne (by omega)]; exact h.2 i b⟩
theorem mz.zq {σ s : gS} {t : Nat} {T : mT} {H : mH} (h : mz σ t T H) (e : mqf σ s) : mz s t T H := by
  obtain ⟨h1, h2, h3, h4, h5, h6⟩ := h
  have E : ∀ a, 63 < a → a ≠ 73 → a < 76 → s a = σ a := fun a x y z => e.1 a (by omega) y (by omega)
  exact ⟨h1.zfr (e.2 4 (by omega)) (E 64 (by omega) (by omega) (by omega)) (E 65 (by omega) (by omega) (by omega)), h2.zfr (fun a x y => E a (by omega) (by omega) (by omega)) (e.2 15 (by omega)), by rw [e.2 19 (by omega)]; exact h3, fun a b => by rw [E 72 (by omega) (by omega) (by omega), E 74 (by omega) (by omega) (by omega)]; exact h4 a b, by rw [e.2 8 (by omega), e.2 9 (by omega), e.2 10 (by omega)]; exact h5, fun i hi => by rw [E 75 (by omega) (by omega) (by omega)]; exact h6 i hi⟩
/-- the best way to stand so far -/
def mo2 (H : mH) (s : gS) : Option (Int32 × Nat) → Prop
  | none => s 63 47 = 0
  | some (c, W) => s 63 47 = 1 ∧ s 63 46 = c ∧ ∀ v, v < h_nv H → s 80 v = nI (m_pl (h_nv H) W v)
theorem mo2.zsame {H : mH} {s s' : gS} {o : Option (Int32 × Nat)} (h : mo2 H s o) (e46 : s' 63 46 = s 63 46) (e47 : s' 63 47 = s 63 47) (e80 : s' 80 = s 80) : mo2 H s' o := by
  cases o with
  | none => exact e47.trans h
  | some q => exact ⟨e47.trans h.1, e46.trans h.2.1, fun v hv => by rw [e80]; exact h.2.2 v hv⟩
theorem su_vw (T : mT) (H : mH) (W : Nat) : m_su T H (m_vw H W) = m_su T H (m_v0 H) := by
  unfold m_vw m_vq m_v0
  rfl
theorem mn_vw {s : gS} {T : mT} {H : mH} (W : Nat) : mn s (c_of T H (m_vw H W)) ↔ mn s (c_of T H (m_v0 H)) := by
  unfold mn
  have e1 : c_su (c_of T H (m_vw H W)) = c_su (c_of T H (m_v0 H)) := su_vw T H W
  have e2 : c_up (c_of T H (m_vw H W)) = c_up (c_of T H (m_v0 H)) := by unfold m_vw m_vq m_v0; rfl
  have e3 : m_H (c_of T H (m_vw H W)) = m_H (c_of T H (m_v0 H)) := by unfold m_H m_vw m_vq m_v0; rfl
  rw [e1, e2, e3]
theorem mz.zmc {s : gS} {t : Nat} {T : mT} {H : mH} (h : mz s t T H) (hH : h_ok H) {W : Nat} (hW : ∀ v, v < h_nv H → s 73 v = nI (m_pl (h_nv H) W v)) : mc s (c_of T H (m_vw H W)) t := by
  obtain ⟨h1, h2, h3, h4, h5, h6⟩ := h
  exact ⟨h1, h2.2.1, ⟨hH.1.2.1, h3⟩, fun v hv => ⟨(h4 v hv).1, hW v hv, (h4 v hv).2⟩, fun i hi => by rw [h6 i hi]; exact (congrFun (su_vw T H W) i).symm, h5.1, h5.2.1, h5.2.2, hH.1.2.2.1⟩
theorem k_putcost {h : Nat} (hh : 72 ≤ h) (s : gS) {t : Nat} {T : mT} {H : mH} (hT : t_ok T) (hH : h_ok H) (hz : mz s t T H) (hn : mn s (c_of T H (m_v0 H))) {W : Nat} (hW : ∀ v, v < h_nv H → s 73 v = nI (m_pl (h_nv H) W v)) (hok : m_ok (h_nv H) W = true) : g_Met yX8_cost cX8_cost 1 (some .int) h kM [.ref 63] s (fun rv s' => rv = some (.int (f_st T H W)) ∧ mgf s s' ∧ mn s' (c_of T H (m_v0 H))) := by
  refine w_X8_cost (by omega) ?_
  unfold P_X8_cost
  have hdj : c_dj (c_of T H (m_vw H W)) := fun u v hu hv hne e => by
    have e' : nI (m_pl (h_nv H) W u) = nI (m_pl (h_nv H) W v) := e
    have p1 := m_pl_lt (h_nv H) W u
    have p2 := m_pl_lt (h_nv H) W v
    have e2 := (n_eq (by omega) (by omega)).mp e'
    have D := of_decide_eq_true hok
    rcases Nat.lt_or_ge u v with z | z
    · exact absurd e2 (D v hv u z)
    · exact absurd e2.symm (D u hu v (by omega))
  refine g_call.i (k_goes (h := 70) (by omega) s (hz.zmc hH hW) (c_of_ok hT hH (m_vq_ok hH _)) hdj ((mn_vw W).mpr hn) (n := 24) (by omega) rfl) (by omega) (fun rv s hq => ?_)
  obtain ⟨rfl, h1, h2, h3, h4⟩ := hq
  exact ⟨rfl, by rw [h3.2.1, h3.2.2.1]; rfl, h1, (mn_vw W).mp h2⟩
