/-! THE READER: its memory and the pure state; leaves -/
/-- the reader's memory holds the pure state p over n bytes b, writing text t -/
def g_rx (b : Nat → Int32) (n t : Nat) (σ : gS) (p : pS) : Prop :=
  (n ≤ 160 ∧ t < 6 ∧ σ 19 1 = nI n ∧ σ 19 2 = nI t ∧ ∀ i, i < n → σ 20 i = b i) ∧
  (σ 19 5 = p_tk p ∧ σ 19 6 = nI (p_st p) ∧ p_st p ≤ 200 ∧ σ 19 8 = nI (p_op p) ∧ p_op p ≤ 5 ∧ (p_tk p = 3 → σ 19 7 = p_num p)) ∧
  (∃ a, σ 19 4 = nI a ∧ a ≤ 200 ∧ (¬ p_tk p = 2 → a = p_af p)) ∧
  ((p_fa p = none → σ 19 9 = -1) ∧ ∀ f, p_fa p = some f → σ 19 9 = nI f ∧ f ≤ 200) ∧
  (∃ len, σ 19 3 = nI len ∧ len ≤ 160 ∧ (p_fa p = none → len = (p_cd p).length ∧ ∀ i, i < len → σ (46 + 3 * t) i = (p_cd p).getD i 0))
/-- what the reader leaves alone -/
def r_fr (t : Nat) (σ s : gS) : Prop := ∀ a, a ≠ 19 → a ≠ 46 + 3 * t → s a = σ a
theorem r_fr.refl (t : Nat) (σ : gS) : r_fr t σ σ := fun _ _ _ => rfl
theorem r_fr.trans {t : Nat} {σ s u : gS} (h1 : r_fr t σ s) (h2 : r_fr t s u) : r_fr t σ u := fun a x y => (h2 a x y).trans (h1 a x y)
theorem nI_m1 {f : Nat} (h : f ≤ 1000000) : ¬ nI f = -1 := fun z => by
  have := nI_pos (n := f) (by omega)
  rw [z] at this
  exact this (by decide)
/-- spoil() -/
theorem r_spoil {b : Nat → Int32} {n t : Nat} {σ : gS} {p : pS} (h : g_rx b n t σ p) : g_rx b n t (if (σ 19 9) = (-1) then (g_up (g_up σ 19 9 (σ 19 6)) 19 5 2) else (g_up σ 19 5 2)) (p_fail p) ∧ r_fr t σ (if (σ 19 9) = (-1) then (g_up (g_up σ 19 9 (σ 19 6)) 19 5 2) else (g_up σ 19 5 2)) := by
  obtain ⟨⟨hn, ht, m1, m2, hb⟩, ⟨k1, k2, k3, k4, k5, k6⟩, ⟨a, a1, a2, a3⟩, ⟨f1, f2⟩, ⟨len, l1, l2, l3⟩⟩ := h
  have hC : ¬ 46 + 3 * t = 19 := by omega
  have hF : ¬ p_fa (p_fail p) = none := by
    show ¬ (match p_fa p with | none => some (p_st p) | some f => some f) = none
    cases p_fa p <;> simp
  cases hf : p_fa p with
  | none =>
    rw [if_pos (f1 hf)]
    refine ⟨⟨⟨hn, ht, m1, m2, hb⟩, ⟨rfl, k2, k3, k4, k5, fun z => absurd (show (2 : Int32) = 3 from z) (by decide)⟩, ⟨a, a1, a2, fun z => absurd rfl z⟩, ⟨fun z => absurd z hF, fun f hff => ?_⟩, ⟨len, l1, l2, fun z => absurd z hF⟩⟩, fun x h1 h2 => by simp [g_up, h1]⟩
    have hff' : (match p_fa p with | none => some (p_st p) | some f => some f) = some f := hff
    rw [hf] at hff'
    cases hff'
    exact ⟨k2, k3⟩
  | some g =>
    rw [if_neg (by rw [(f2 g hf).1]; exact nI_m1 (by have := (f2 g hf).2; omega))]
    refine ⟨⟨⟨hn, ht, m1, m2, hb⟩, ⟨rfl, k2, k3, k4, k5, fun z => absurd (show (2 : Int32) = 3 from z) (by decide)⟩, ⟨a, a1, a2, fun z => absurd rfl z⟩, ⟨fun z => absurd z hF, fun f hff => ?_⟩, ⟨len, l1, l2, fun z => absurd z hF⟩⟩, fun x h1 h2 => by simp [g_up, h1]⟩
    have hff' : (match p_fa p with | none => some (p_st p) | some f => some f) = some f := hff
    rw [hf] at hff'
    cases hff'
    exact f2 g hf
/-- write(c) -/
theorem r_write {b : Nat → Int32} {n t : Nat} {σ : gS} {p : pS} (h : g_rx b n t σ p) (c : Int32) (h9 : g_in (σ 19 3) 0 159) : g_rx b n t (g_up (g_up σ (46 + 3 * t) (ix (σ 19 3)) c) 19 3 (g_up σ (46 + 3 * t) (ix (σ 19 3)) c 19 3 + 1)) (p_emit p c) ∧ r_fr t σ (g_up (g_up σ (46 + 3 * t) (ix (σ 19 3)) c) 19 3 (g_up σ (46 + 3 * t) (ix (σ 19 3)) c 19 3 + 1)) := by
  obtain ⟨⟨hn, ht, m1, m2, hb⟩, ⟨k1, k2, k3, k4, k5, k6⟩, ⟨a, a1, a2, a3⟩, ⟨f1, f2⟩, ⟨len, l1, l2, l3⟩⟩ := h
  have hC : ¬ 46 + 3 * t = 19 := by omega
  have hC' : ¬ 19 = 46 + 3 * t := by omega
  have hC2 : ¬ 20 = 46 + 3 * t := by omega
  have e3 : ix (σ 19 3) = len := by rw [l1]; exact ix_nI (by omega)
  have hl : len < 160 := by
    rw [l1, g_in_toInt, nI_toInt (by omega)] at h9
    have : (159 : Int32).toInt = 159 := rfl
    omega
  have v19 : ∀ j, j ≠ 3 → (g_up (g_up σ (46 + 3 * t) (ix (σ 19 3)) c) 19 3 (g_up σ (46 + 3 * t) (ix (σ 19 3)) c 19 3 + 1)) 19 j = σ 19 j := fun j hj => by simp only [g_up, if_true, if_neg hj, if_neg hC']
  refine ⟨⟨⟨hn, ht, (v19 1 (by decide)).trans m1, (v19 2 (by decide)).trans m2, fun i hi => ?_⟩, ⟨(v19 5 (by decide)).trans k1, (v19 6 (by decide)).trans k2, k3, (v19 8 (by decide)).trans k4, k5, fun z => (v19 7 (by decide)).trans (k6 z)⟩, ⟨a, (v19 4 (by decide)).trans a1, a2, a3⟩, ⟨fun z => (v19 9 (by decide)).trans (f1 z), fun f hff => ⟨(v19 9 (by decide)).trans (f2 f hff).1, (f2 f hff).2⟩⟩, ⟨len + 1, ?_, by omega, fun z => ⟨?_, fun i hi => ?_⟩⟩⟩, fun x h1 h2 => by simp only [g_up, if_neg h1, if_neg h2]⟩
  · rw [g_up_ne (by decide), g_up_ne hC2]
    exact hb i hi
  · have : (g_up (g_up σ (46 + 3 * t) (ix (σ 19 3)) c) 19 3 (g_up σ (46 + 3 * t) (ix (σ 19 3)) c 19 3 + 1)) 19 3 = σ 19 3 + 1 := by simp only [g_up, if_true, if_neg hC']
    rw [this, l1, nI_1]
  · rw [(l3 z).1]
    show _ = (p_cd p ++ [c]).length
    simp
  · rw [g_up_ne hC, g_up_same, e3]
    show (if i = len then c else σ (46 + 3 * t) i) = (p_cd p ++ [c]).getD i 0
    obtain ⟨q1, q2⟩ := l3 z
    by_cases hil : i = len
    · subst hil
      rw [if_pos rfl, q1]
      simp
    · rw [if_neg hil, q2 i (by omega)]
      have : i < (p_cd p).length := by omega
      simp only [List.getD_eq_getElem?_getD, List.getElem?_append_left this]
/-- a sign that has no room: only behind a fault -/
theorem r_nowrite {b : Nat → Int32} {n t : Nat} {σ : gS} {p : pS} (h : g_rx b n t σ p) (c : Int32) (hl : p_fa p = none → (p_cd p).length < 160) (h9 : ¬ g_in (σ 19 3) 0 159) : g_rx b n t σ (p_emit p c) := by
  obtain ⟨h1, h2, h3, h4, ⟨len, l1, l2, l3⟩⟩ := h
  refine ⟨h1, h2, h3, h4, ⟨len, l1, l2, fun z => absurd ?_ h9⟩⟩
  have q := hl z
  rw [← (l3 z).1] at q
  rw [l1]
  exact g_inI (by have : (159 : Int32).toInt = 159 := rfl; omega) (by omega)
/-- the depth becomes k -/
theorem r_open {b : Nat → Int32} {n t : Nat} {σ : gS} {p : pS} (h : g_rx b n t σ p) {k : Nat} (hk : k ≤ 5) {v : Int32} (hv : v = nI k) : g_rx b n t (g_up σ 19 8 v) (p_open p k) ∧ r_fr t σ (g_up σ 19 8 v) := by
  subst hv
  obtain ⟨⟨hn, ht, m1, m2, hb⟩, ⟨k1, k2, k3, k4, k5, k6⟩, ⟨a, a1, a2, a3⟩, ⟨f1, f2⟩, ⟨len, l1, l2, l3⟩⟩ := h
  have hC : ¬ 46 + 3 * t = 19 := by omega
  exact ⟨⟨⟨hn, ht, m1, m2, hb⟩, ⟨k1, k2, k3, rfl, hk, k6⟩, ⟨a, a1, a2, a3⟩, ⟨f1, f2⟩, ⟨len, l1, l2, fun z => ⟨(l3 z).1, fun i hi => by rw [g_up_ne hC]; exact (l3 z).2 i hi⟩⟩⟩, fun x h1 h2 => g_up_ne h1⟩
set_option maxHeartbeats 4000000 in
set_option maxRecDepth 100000 in
theorem c_X2_letterAt (σ : gS) {i : Nat} (hi : i ≤ 1000) {n : Nat} (hn : σ 19 1 = nI n) (hn160 : n ≤ 160) : g_Met yX2_letterAt cX2_letterAt 2 (some .int) 1 kR [.ref 19, .int (nI i)] σ (fun rv s => rv = some (.int (q_l (σ 20) n i)) ∧ s = σ) := by
  have hA : ¬ nI i < 0 := nI_pos (by omega)
  refine g_Met.of (own := 2) (L := [some (.ref 19), some (.int (nI i))]) (by decide) rfl rfl (fun ad => Nat.le_of_ble_eq_true rfl) (fun ad => rfl) (fun X G K C => ?_)
  refine V_blk C (pc' := 1) (σ' := σ) (L' := [some (.ref 19), some (.int (nI i))]) (st' := [.int (nI i)]) (g_c dX2_letterAt_0 g_n) rfl rfl ?_
  refine V_if_lt C (tgt := 28) dX2_letterAt_1 (by decide) (fun h1 => absurd h1 hA) (fun h1 => ?_)
  refine V_blk C (pc' := 9) (σ' := σ) (L' := [some (.ref 19), some (.int (nI i))]) (st' := [.int (σ 19 1), .int (nI i)]) (g_c dX2_letterAt_4 (g_c dX2_letterAt_5 (g_c dX2_letterAt_6 g_n))) rfl rfl ?_
  refine V_icmp_ge2 C (tgt := 28) dX2_letterAt_9 (by decide) (fun h9 => ?_) (fun h9 => ?_)
  · skip
    have hin : ¬ i < n := fun z => h9 (by rw [hn]; exact nI_ltL z (by omega))
    refine V_blk C (pc' := 29) (σ' := σ) (L' := [some (.ref 19), some (.int (nI i))]) (st' := [.int (-1)]) (g_c dX2_letterAt_28 g_n) rfl rfl ?_
    refine V_iret C dX2_letterAt_29 ?_
    exact ⟨by rw [q_l, if_neg hin], rfl⟩
  · skip
    have hin : i < n := by rw [hn] at h9; exact (nI_ltI (a := i) (b := n) (by omega) (by omega)).mp h9
    refine V_blk C (pc' := 16) (σ' := σ) (L' := [some (.ref 19), some (.int (nI i))]) (st' := [.int 160, .int (nI i)]) (g_c dX2_letterAt_12 (g_c dX2_letterAt_13 g_n)) rfl rfl ?_
    refine V_icmp_ge2 C (tgt := 28) dX2_letterAt_16 (by decide) (fun h16 => ?_) (fun h16 => ?_)
    · skip
      exact absurd (nI_ltL (b := 160) (show i < 160 by omega) (by omega)) h16
    · skip
      refine V_blk C (pc' := 24) (σ' := σ) (L' := [some (.ref 19), some (.int (nI i))]) (st' := [.int (nI i), .ref 20]) (g_c dX2_letterAt_19 (g_c dX2_letterAt_20 (g_c dX2_letterAt_23 g_n))) rfl rfl ?_
      refine V_ialdJ C (j := i) (k := 20) (n := 160) (by rfl) (by rfl) rfl (by omega) dX2_letterAt_24 ?_
      refine V_goto C (tgt := 29) dX2_letterAt_25 (by decide) ?_
      refine V_iret C dX2_letterAt_29 ?_
      exact ⟨by rw [q_l, if_pos hin], rfl⟩
set_option maxHeartbeats 4000000 in
set_option maxRecDepth 100000 in
theorem c_X2_spoil0 (σ : gS) : g_Met yX2_spoil cX2_spoil 1 none 1 kR [.ref 19] σ (fun rv s => rv = none ∧ s = (if (σ 19 9) = (-1) then (g_up (g_up σ 19 9 (σ 19 6)) 19 5 2) else (g_up σ 19 5 2))) := by
  refine g_Met.of (own := 2) (L := [some (.ref 19)]) (by decide) rfl rfl (fun ad => Nat.le_of_ble_eq_true rfl) (fun ad => rfl) (fun X G K C => ?_)
  refine V_blk C (pc' := 5) (σ' := σ) (L' := [some (.ref 19)]) (st' := [.int (-1), .int (σ 19 9)]) (g_c dX2_spoil_0 (g_c dX2_spoil_1 (g_c dX2_spoil_4 g_n))) rfl rfl ?_
  refine V_icmp_ne C (tgt := 16) dX2_spoil_5 (by decide) (fun h5 => ?_) (fun h5 => ?_)
  · skip
    refine V_blk C (pc' := 21) (σ' := (g_up σ 19 5 2)) (L' := [some (.ref 19)]) (st' := []) (g_c dX2_spoil_16 (g_c dX2_spoil_17 (g_c dX2_spoil_18 g_n))) rfl rfl ?_
    refine V_vret C dX2_spoil_21 ?_
    exact ⟨rfl, by rw [if_neg (fun z => h5 z)]⟩
  · skip
    refine V_blk C (pc' := 21) (σ' := (g_up (g_up σ 19 9 (σ 19 6)) 19 5 2)) (L' := [some (.ref 19)]) (st' := []) (g_c dX2_spoil_8 (g_c dX2_spoil_9 (g_c dX2_spoil_10 (g_c dX2_spoil_13 (g_c dX2_spoil_16 (g_c dX2_spoil_17 (g_c dX2_spoil_18 g_n))))))) rfl rfl ?_
    refine V_vret C dX2_spoil_21 ?_
    exact ⟨rfl, by rw [if_pos h5]⟩
set_option maxHeartbeats 4000000 in
set_option maxRecDepth 100000 in
theorem c_X2_write {b : Nat → Int32} {n t : Nat} {p : pS} (σ : gS) (hx : g_rx b n t σ p) (c : Int32) (hl : p_fa p = none → (p_cd p).length < 160) : g_Met yX2_write cX2_write 2 none 3 kR [.ref 19, .int c] σ (fun rv s => rv = none ∧ g_rx b n t s (p_emit p c) ∧ r_fr t σ s) := by
  have ht6 := hx.1.2.1
  have ht2 := hx.1.2.2.2.1
  refine g_Met.of (own := 2) (L := [some (.ref 19), some (.int c)]) (by decide) rfl rfl (fun ad => Nat.le_of_ble_eq_true rfl) (fun ad => rfl) (fun X G K C => ?_)
  refine V_blk C (pc' := 8) (σ' := σ) (L' := [some (.ref 19), some (.int c)]) (st' := [.int 159, .int 0, .int (σ 19 3)]) (g_c dX2_write_0 (g_c dX2_write_1 (g_c dX2_write_4 (g_c dX2_write_5 g_n)))) rfl rfl ?_
  refine V_callNI C cn_X2_21 (c_X7_isIn σ (σ 19 3) 0 159) (by decide) (by decide) (fun _ h => h) (As := [.int (σ 19 3), .int 0, .int 159]) (rest := []) rfl rfl (Nat.le_of_ble_eq_true rfl) dX2_write_8 ?_
  refine V_if_eq_b C (tgt := 37) dX2_write_11 (by decide) (fun h11 => ?_) (fun h11 => ?_)
  · skip
    refine V_vret C dX2_write_37 ?_
    exact ⟨rfl, r_nowrite hx c hl h11, r_fr.refl t σ⟩
  · skip
    refine V_blk C (pc' := 15) (σ' := σ) (L' := [some (.ref 19), some (.int c)]) (st' := [.ref 19]) (g_c dX2_write_14 g_n) rfl rfl ?_
    refine V_getT C (t := t) fl_X2_25 rfl rfl (by rfl) ht2 ht6 dX2_write_15 ?_
    refine V_get6 C (t := t) (j := 0) ht6 (by decide) fl_X2_88 (kR_tx (j := 0) ht6 (by decide)) dX2_write_18 ?_
    refine V_blk C (pc' := 26) (σ' := σ) (L' := [some (.ref 19), some (.int c)]) (st' := [.int c, .int (σ 19 3), .ref (46 + 3 * t)]) (g_c dX2_write_21 (g_c dX2_write_22 (g_c dX2_write_25 g_n))) rfl rfl ?_
    refine V_iast C (k := (46 + 3 * t)) (n := 160) (sh_code ht6) (kR_tx (j := 1) ht6 (by decide)) (g_vpc h11 (by decide)) dX2_write_26 ?_
    refine V_blk C (pc' := 37) (σ' := (g_up (g_up σ (46 + 3 * t) (Int32.toNatClampNeg (σ 19 3)) c) 19 3 (((g_up σ (46 + 3 * t) (Int32.toNatClampNeg (σ 19 3)) c) 19 3) + 1))) (L' := [some (.ref 19), some (.int c)]) (st' := []) (g_c dX2_write_27 (g_c dX2_write_28 (g_c dX2_write_29 (g_c dX2_write_32 (g_c dX2_write_33 (g_c dX2_write_34 g_n)))))) rfl rfl ?_
    refine V_vret C dX2_write_37 ?_
    exact ⟨rfl, r_write hx c h11⟩
set_option maxHeartbeats 4000000 in
set_option maxRecDepth 100000 in
theorem c_X2_spoil {b : Nat → Int32} {n t : Nat} {p : pS} (σ : gS) (hx : g_rx b n t σ p) : g_Met yX2_spoil cX2_spoil 1 none 1 kR [.ref 19] σ (fun rv s => rv = none ∧ g_rx b n t s (p_fail p) ∧ r_fr t σ s) := by
  refine g_Met.of (own := 2) (L := [some (.ref 19)]) (by decide) rfl rfl (fun ad => Nat.le_of_ble_eq_true rfl) (fun ad => rfl) (fun X G K C => ?_)
  refine V_blk C (pc' := 5) (σ' := σ) (L' := [some (.ref 19)]) (st' := [.int (-1), .int (σ 19 9)]) (g_c dX2_spoil_0 (g_c dX2_spoil_1 (g_c dX2_spoil_4 g_n))) rfl rfl ?_
  refine V_icmp_ne C (tgt := 16) dX2_spoil_5 (by decide) (fun h5 => ?_) (fun h5 => ?_)
  · skip
    refine V_blk C (pc' := 21) (σ' := (g_up σ 19 5 2)) (L' := [some (.ref 19)]) (st' := []) (g_c dX2_spoil_16 (g_c dX2_spoil_17 (g_c dX2_spoil_18 g_n))) rfl rfl ?_
    refine V_vret C dX2_spoil_21 ?_
    have hr := r_spoil hx
    rw [if_neg h5] at hr
    exact ⟨rfl, hr⟩
  · skip
    refine V_blk C (pc' := 21) (σ' := (g_up (g_up σ 19 9 (σ 19 6)) 19 5 2)) (L' := [some (.ref 19)]) (st' := []) (g_c dX2_spoil_8 (g_c dX2_spoil_9 (g_c dX2_spoil_10 (g_c dX2_spoil_13 (g_c dX2_spoil_16 (g_c dX2_spoil_17 (g_c dX2_spoil_18 g_n))))))) rfl rfl ?_
    refine V_vret C dX2_spoil_21 ?_
    have hr := r_spoil hx
    rw [if_pos h5] at hr
    exact ⟨rfl, hr⟩
set_option maxHeartbeats 4000000 in
set_option maxRecDepth 100000 in
theorem c_X2_isOpened {b : Nat → Int32} {n t : Nat} {p : pS} (σ : gS) (hx : g_rx b n t σ p) : g_Met yX2_isOpened cX2_isOpened 1 (some .boolean) 2 kR [.ref 19] σ (fun rv s => rv = some (.int (if p_op p < 5 then 1 else 0)) ∧ g_rx b n t s (if p_op p < 5 then p_open p (p_op p + 1) else p_fail p) ∧ r_fr t σ s) := by
  have ho := hx.2.1.2.2.2.1
  have ho5 := hx.2.1.2.2.2.2.1
  refine g_Met.of (own := 2) (L := [some (.ref 19)]) (by decide) rfl rfl (fun ad => Nat.le_of_ble_eq_true rfl) (fun ad => rfl) (fun X G K C => ?_)
  refine V_blk C (pc' := 5) (σ' := σ) (L' := [some (.ref 19)]) (st' := [.int 5, .int (σ 19 8)]) (g_c dX2_isOpened_0 (g_c dX2_isOpened_1 (g_c dX2_isOpened_4 g_n))) rfl rfl ?_
  refine V_icmp_lt C (tgt := 14) dX2_isOpened_5 (by decide) (fun h5 => ?_) (fun h5 => ?_)
  · skip
    refine V_blk C (pc' := 25) (σ' := (g_up σ 19 8 ((σ 19 8) + 1))) (L' := [some (.ref 19)]) (st' := [.int 1]) (g_c dX2_isOpened_14 (g_c dX2_isOpened_15 (g_c dX2_isOpened_16 (g_c dX2_isOpened_19 (g_c dX2_isOpened_20 (g_c dX2_isOpened_21 (g_c dX2_isOpened_24 g_n))))))) rfl rfl ?_
    refine V_zret C (by decide) dX2_isOpened_25 ?_
    have hlt : p_op p < 5 := by rw [ho] at h5; exact (nI_ltI (a := p_op p) (b := 5) (by omega) (by omega)).mp h5
    have hr := r_open hx (k := p_op p + 1) (by omega) (v := (σ 19 8) + 1) (by rw [ho, nI_1])
    exact ⟨by rw [if_pos hlt], by rw [if_pos hlt]; exact hr.1, hr.2⟩
  · skip
    refine V_blk C (pc' := 9) (σ' := σ) (L' := [some (.ref 19)]) (st' := [.ref 19]) (g_c dX2_isOpened_8 g_n) rfl rfl ?_
    refine V_callV C cv_X2_82 (c_X2_spoil σ hx) ⟨_, _, _, _, rfl, rfl⟩ (by rfl) (by decide) (by decide) (fun _ h => h) (As := []) (rest := []) rfl rfl (Nat.le_of_ble_eq_true rfl) dX2_isOpened_9 (fun rv s1 hq => ?_)
    obtain ⟨rfl, hx1, hf1⟩ := hq
    refine V_blk C (pc' := 13) (σ' := s1) (L' := [some (.ref 19)]) (st' := [.int 0]) (g_c dX2_isOpened_12 g_n) rfl rfl ?_
    refine V_zret C (by decide) dX2_isOpened_13 ?_
    have hge : ¬ p_op p < 5 := fun z => h5 (by rw [ho]; exact nI_ltL (b := 5) z (by omega))
    exact ⟨by rw [if_neg hge], by rw [if_neg hge]; exact hx1, hf1⟩
