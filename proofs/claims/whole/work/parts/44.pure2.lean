/-! EVERY PART THAT IS READ TELLS ONE NUMBER, whatever the names -/
theorem q_run_all (P : Nat → Bool) : ∀ (k i j : Nat), i ≤ j → j < q_run P k i → P j = true
  | 0, i, j, h1, h2 => by rw [q_run] at h2; omega
  | k + 1, i, j, h1, h2 => by
    rw [q_run] at h2
    split at h2
    · next e =>
      by_cases z : j = i
      · subst z; exact e
      · exact q_run_all P k (i + 1) j (by omega) h2
    · omega
theorem q_val_nn (l : Nat → Int32) : ∀ (k i : Nat), k ≤ 4 → (∀ j, i ≤ j → j < i + k → q_dig l j = true) → ∃ x, x < 10 ^ k ∧ q_val l k i 0 = nI x
  | 0, i, _, _ => ⟨0, by decide, rfl⟩
  | k + 1, i, hk, h => by
    obtain ⟨x, hx, e⟩ := q_val_nn l k i (by omega) (fun j h1 h2 => h j h1 (by omega))
    obtain ⟨d, hd, ed⟩ := n_dig (of_decide_eq_true (h (i + k) (by omega) (by omega)))
    have hx4 : x < 10000 := Nat.lt_of_lt_of_le hx (Nat.pow_le_pow_right (by decide) (show k ≤ 4 by omega))
    refine ⟨10 * x + d, by rw [Nat.pow_succ]; omega, ?_⟩
    rw [q_val_snoc, e, ed]
    have e1 : nI x * 10 = nI (x * 10) := pk_mul x 10
    rw [e1, nI_add]
    exact (pk_sub (a := x * 10 + (48 + d)) (b := 48) (by omega)).trans (by rw [show x * 10 + (48 + d) - 48 = 10 * x + d by omega])
theorem q_lex_nn (l : Nat → Int32) (i : Nat) : (q_lex l i).1 = 3 → ¬ (q_lex l i).2.1 < 0 := by
  simp only [q_lex]
  generalize q_run (q_blank l) 160 i = s
  split
  · intro z; exact absurd (show (1 : Int32) = 3 from z) (by decide)
  · split
    · intro z; exact absurd z (q_wc_ne3 _ _ _)
    · split
      · intro z
        by_cases h4 : q_run (q_dig l) 160 s - s ≤ 4
        · obtain ⟨x, hx, e⟩ := q_val_nn l (q_run (q_dig l) 160 s - s) s h4 (fun j h1 h2 => q_run_all (q_dig l) 160 s j h1 (by omega))
          have hx4 : x < 10000 := Nat.lt_of_lt_of_le hx (Nat.pow_le_pow_right (by decide) h4)
          show ¬ q_val l (q_run (q_dig l) 160 s - s) s 0 < 0
          rw [e]
          exact nI_pos (by omega)
        · have z' : (if q_run (q_dig l) 160 s - s ≤ 4 then (3 : Int32) else 2) = 3 := z
          rw [if_neg h4] at z'
          exact absurd z' (by decide)
      · split
        · next e =>
          intro z
          have z' : l s = 3 := z
          rw [z'] at e
          exact absurd e (by decide)
        · intro z; exact absurd (show (2 : Int32) = 3 from z) (by decide)
def p_nn (p : pS) : Prop := p_tk p = 3 → ¬ p_num p < 0
theorem p_next_nn (l : Nat → Int32) (p : pS) : p_nn (p_next l p) := q_lex_nn l (p_af p)
theorem p_fail_nn (p : pS) : p_nn (p_fail p) := fun z => absurd (show (2 : Int32) = 3 from z) (by decide)
def p_ex (p q : pS) : Prop := ∃ c, p_cd q = p_cd p ++ c ∧ ∀ nm, ∃ v, ∀ st, e_run nm c st = v :: st
theorem p_ex.una {p q : pS} {c : Int32} (h : p_ex p q) (e : ∀ (nm : gF) (r : Int32), ∃ r', ∀ x, e_step nm c (r :: x) = r' :: x) : p_ex p (p_emit q c) := by
  obtain ⟨c1, h1, h2⟩ := h
  refine ⟨c1 ++ [c], ?_, fun nm => ?_⟩
  · show p_cd q ++ [c] = _
    rw [h1, List.append_assoc]
  · obtain ⟨v, hv⟩ := h2 nm
    obtain ⟨r', hr⟩ := e nm v
    refine ⟨r', fun st => ?_⟩
    rw [e_app, hv st]
    exact hr st
theorem p_ex.bin {p q q2 : pS} {c : Int32} (h1 : p_ex p q) (h2 : p_ex q q2) (hc : c < -6) (n14 : ¬ c = -14) (n15 : ¬ c = -15) : p_ex p (p_emit q2 c) := by
  obtain ⟨c1, a1, a2⟩ := h1
  obtain ⟨c2, b1, b2⟩ := h2
  refine ⟨c1 ++ c2 ++ [c], ?_, fun nm => ?_⟩
  · show p_cd q2 ++ [c] = _
    rw [b1, a1, List.append_assoc, List.append_assoc, List.append_assoc]
  · obtain ⟨v, hv⟩ := a2 nm
    obtain ⟨w, hw⟩ := b2 nm
    refine ⟨e_bin c v w, fun st => ?_⟩
    rw [e_app, e_app, hv st, hw]
    have hc0 : c < 0 := by
      rw [Int32.lt_iff_toInt_lt] at hc ⊢
      have e0 : (0 : Int32).toInt = 0 := rfl
      have e6 : (-6 : Int32).toInt = -6 := rfl
      omega
    exact e_sbin hc0 hc n14 n15 w v _
def p_gv (n : Nat) (f : pS → pS) : Prop := ∀ p, p_ok n p → p_nn p → p_nn (f p) ∧ (p_fa (f p) = none → p_ex p (f p))
theorem p_loop_gv {n : Nat} {T : pS → Bool} {F : pS → pS} (h : ∀ q, p_ok n q → p_nn q → T q = true → p_rel n q (F q) ∧ p_nn (F q) ∧ (p_fa (F q) = none → ∀ p, p_ex p q → p_ex p (F q))) : ∀ (k : Nat) (p q : pS), p_ok n q → p_nn q → (p_fa q = none → p_ex p q) → p_nn (p_loop T F k q) ∧ (p_fa (p_loop T F k q) = none → p_ex p (p_loop T F k q))
  | 0, p, q, _, h2, h3 => ⟨h2, h3⟩
  | k + 1, p, q, h1, h2, h3 => by
    rw [p_loop]
    split
    · next e =>
      obtain ⟨a1, a2, a3⟩ := h q h1 h2 e
      exact p_loop_gv h k p (F q) a1.1 a2 (fun z => a3 z p (h3 (a1.2.2.1 z).1))
    · exact ⟨h2, h3⟩
theorem p_emit_nn {q : pS} {c : Int32} (h : p_nn q) : p_nn (p_emit q c) := h
theorem p_bin_gv {b : gF} {n : Nat} (hn : n ≤ 160) {f : pS → pS} (hf : p_fine n f) (hg : p_gv n f) {q : pS} (h1 : p_ok n q) (n1 : ¬ p_tk q = 1) (n2 : ¬ p_tk q = 2) {c : Int32} (hc : c < -6) (n14 : ¬ c = -14) (n15 : ¬ c = -15) : p_rel n q (p_emit (f (p_next (q_l b n) q)) c) ∧ p_nn (p_emit (f (p_next (q_l b n) q)) c) ∧ (p_fa (p_emit (f (p_next (q_l b n) q)) c) = none → ∀ p, p_ex p q → p_ex p (p_emit (f (p_next (q_l b n) q)) c)) := by
  have hok := (p_next_ok (b := b) hn h1 n1 n2).2.1
  obtain ⟨g1, g2⟩ := hg _ hok (p_next_nn _ q)
  exact ⟨(p_step (b := b) hn hf h1 n1 n2 c).1, g1, fun z p hp => hp.bin (show p_ex q _ from g2 z) hc n14 n15⟩
theorem p_fgv {n : Nat} {f : pS → pS} {T : pS → Bool} {F : pS → pS} {k : Nat} (hf : p_fine n f) (hg : p_gv n f) (h : ∀ q, p_ok n q → p_nn q → T q = true → p_rel n q (F q) ∧ p_nn (F q) ∧ (p_fa (F q) = none → ∀ p, p_ex p q → p_ex p (F q))) : p_gv n (fun p => p_loop T F k (f p)) := by
  intro p h1 h2
  obtain ⟨a1, a2⟩ := hg p h1 h2
  exact p_loop_gv h k p (f p) (hf p h1).1 a1 a2
theorem p_term_gv {b : gF} {n : Nat} (hn : n ≤ 160) {one : pS → pS} (hf : p_fine n one) (hg : p_gv n one) : p_gv n (p_term (q_l b n) one) :=
  p_fgv (f := one) hf hg (fun q h1 h2 e => by
    have e' : p_tk q = 42 := of_decide_eq_true e
    exact p_bin_gv hn hf hg h1 (by rw [e']; decide) (by rw [e']; decide) (by decide) (by decide) (by decide))
theorem p_sum_gv {b : gF} {n : Nat} (hn : n ≤ 160) {one : pS → pS} (hf : p_fine n one) (hg : p_gv n one) : p_gv n (p_sum (q_l b n) one) :=
  p_fgv (f := one) hf hg (fun q h1 h2 e => by
    have e' : p_tk q = 43 ∨ p_tk q = 45 := of_decide_eq_true e
    exact p_bin_gv hn hf hg h1 (e'.elim (fun z => by rw [z]; decide) (fun z => by rw [z]; decide)) (e'.elim (fun z => by rw [z]; decide) (fun z => by rw [z]; decide)) (by split <;> decide) (by split <;> decide) (by split <;> decide))
theorem p_both_gv {b : gF} {n : Nat} (hn : n ≤ 160) {one : pS → pS} (hf : p_fine n one) (hg : p_gv n one) : p_gv n (p_both (q_l b n) one) :=
  p_fgv (f := one) hf hg (fun q h1 h2 e => by
    have e' : p_tk q = 107 := of_decide_eq_true e
    exact p_bin_gv hn hf hg h1 (by rw [e']; decide) (by rw [e']; decide) (by decide) (by decide) (by decide))
theorem p_eith_gv {b : gF} {n : Nat} (hn : n ≤ 160) {one : pS → pS} (hf : p_fine n one) (hg : p_gv n one) : p_gv n (p_eith (q_l b n) one) :=
  p_fgv (f := one) hf hg (fun q h1 h2 e => by
    have e' : p_tk q = 106 := of_decide_eq_true e
    exact p_bin_gv hn hf hg h1 (by rw [e']; decide) (by rw [e']; decide) (by decide) (by decide) (by decide))
theorem p_need_gv {b : gF} {n : Nat} (hn : n ≤ 160) {w : Int32} (w1 : ¬ w = 1) (w2 : ¬ w = 2) (p : pS) : p_nn (p_need (q_l b n) w p) ∧ (p_fa (p_need (q_l b n) w p) = none → p_cd (p_need (q_l b n) w p) = p_cd p) := by
  unfold p_need
  split
  · exact ⟨p_next_nn _ p, fun _ => rfl⟩
  · exact ⟨p_fail_nn p, fun z => absurd z (p_fail_fa p)⟩
theorem p_den_gv {b : gF} {n : Nat} (hn : n ≤ 160) (z : Bool) {rD sum : pS → pS} (hDf : z = false → p_fine n rD) (hDg : z = false → p_gv n rD) (hSf : p_fine n sum) (hSg : p_gv n sum) : p_gv n (p_den (q_l b n) z rD sum) := by
  intro p hp hnn
  by_cases e : p_tk p = 108
  · have n1 : ¬ p_tk p = 1 := by rw [e]; decide
    have n2 : ¬ p_tk p = 2 := by rw [e]; decide
    rw [p_den, if_pos e]
    cases z with
    | true => exact ⟨p_fail_nn p, fun y => absurd y (p_fail_fa p)⟩
    | false =>
      have hok := (p_next_ok (b := b) hn (p_open_ok hp (p_op p + 1)) n1 n2).2.1
      obtain ⟨a1, a2⟩ := hDg rfl _ hok (p_next_nn _ _)
      exact ⟨a1, fun y => (show p_ex p _ from a2 y).una (fun nm r => ⟨_, fun x => e_s14 nm r x⟩)⟩
  · have eD : p_den (q_l b n) z rD sum p = if p_tk (sum p) = 60 ∨ p_tk (sum p) = 61 then p_emit (sum (p_next (q_l b n) (sum p))) (if p_tk (sum p) = 60 then -10 else -11) else sum p := by
      rw [p_den, if_neg e]
    rw [eD]
    obtain ⟨a1, a2⟩ := hSg p hp hnn
    have hr := hSf p hp
    by_cases hor : p_tk (sum p) = 60 ∨ p_tk (sum p) = 61
    · rw [if_pos hor]
      have h3 := p_bin_gv (b := b) hn hSf hSg hr.1 (q := sum p) (hor.elim (fun z => by rw [z]; decide) (fun z => by rw [z]; decide)) (hor.elim (fun z => by rw [z]; decide) (fun z => by rw [z]; decide)) (c := if p_tk (sum p) = 60 then -10 else -11) (by split <;> decide) (by split <;> decide) (by split <;> decide)
      exact ⟨h3.2.1, fun y => h3.2.2 y p (a2 (h3.1.2.2.1 y).1)⟩
    · rw [if_neg hor]
      exact ⟨a1, a2⟩
theorem p_one_gv {b : gF} {n : Nat} (hn : n ≤ 160) (z : Bool) {rO rE : pS → pS} (hOf : z = false → p_fine n rO) (hOg : z = false → p_gv n rO) (hEf : z = false → p_fine n rE) (hEg : z = false → p_gv n rE) : p_gv n (p_one (q_l b n) z rO rE) := by
  intro p hp hnn
  by_cases e3 : p_tk p = 3
  · rw [p_one_3 e3]
    refine ⟨p_next_nn _ _, fun _ => ⟨[p_num p], rfl, fun nm => ⟨p_num p, fun st => ?_⟩⟩⟩
    rw [e_run, e_run]
    unfold e_step
    rw [if_pos (hnn e3)]
  by_cases eg : g_in (p_tk p) 97 102
  · rw [p_one_n eg]
    obtain ⟨a, ha, ea⟩ := n_of (x := p_tk p) (M := 102) ⟨fun y => by
      have h1 := eg.1
      rw [Int32.lt_iff_toInt_lt] at y h1
      have e0 : (0 : Int32).toInt = 0 := rfl
      have e97 : (97 : Int32).toInt = 97 := rfl
      omega, eg.2⟩ (by decide)
    have eg2 := eg
    rw [ea] at eg2
    have hin := (n_in (lo := 97) (hi := 102) (by omega) (by omega) (by omega)).mp eg2
    have hc : -1 - (p_tk p - 97) = -1 - nI (a - 97) := by
      rw [ea]
      have : nI a - 97 = nI (a - 97) := pk_sub (a := a) (b := 97) (by omega)
      rw [this]
    refine ⟨p_next_nn _ _, fun _ => ⟨[-1 - (p_tk p - 97)], rfl, fun nm => ⟨nm (a - 97), fun st => ?_⟩⟩⟩
    rw [hc, e_run, e_run]
    have H : ∀ j : Fin 6, ((-1 - nI j.val : Int32) < 0) ∧ ¬ ((-1 - nI j.val : Int32) < -6) ∧ ix (-1 - (-1 - nI j.val)) = j.val := by decide
    obtain ⟨c1, c2, c3⟩ := H ⟨a - 97, by omega⟩
    unfold e_step
    rw [if_neg (not_not_intro c1), if_pos c2]
    have c3' : ix (-1 - (-1 - nI (a - 97))) = a - 97 := c3
    rw [c3']
  by_cases e45 : p_tk p = 45
  · have n1 : ¬ p_tk p = 1 := by rw [e45]; decide
    have n2 : ¬ p_tk p = 2 := by rw [e45]; decide
    rw [p_one_45 e45]
    cases z with
    | true => exact ⟨p_fail_nn p, fun y => absurd y (p_fail_fa p)⟩
    | false =>
      have hok := (p_next_ok (b := b) hn (p_open_ok hp (p_op p + 1)) n1 n2).2.1
      obtain ⟨a1, a2⟩ := hOg rfl _ hok (p_next_nn _ _)
      exact ⟨a1, fun y => (show p_ex p _ from a2 y).una (fun nm r => ⟨_, fun x => e_s15 nm r x⟩)⟩
  by_cases e40 : p_tk p = 40
  · have n1 : ¬ p_tk p = 1 := by rw [e40]; decide
    have n2 : ¬ p_tk p = 2 := by rw [e40]; decide
    rw [p_one_40 e40]
    cases z with
    | true => exact ⟨p_fail_nn p, fun y => absurd y (p_fail_fa p)⟩
    | false =>
      have hok := (p_next_ok (b := b) hn (p_open_ok hp (p_op p + 1)) n1 n2).2.1
      obtain ⟨a1, a2⟩ := hEg rfl _ hok (p_next_nn _ _)
      have hr := hEf rfl _ hok
      obtain ⟨b1, b2⟩ := p_need_gv (b := b) hn (w := 41) (by decide) (by decide) (rE (p_next (q_l b n) (p_open p (p_op p + 1))))
      have hr2 := p_need_fine (b := b) hn (w := 41) (by decide) (by decide) _ hr.1
      refine ⟨b1, fun y => ?_⟩
      obtain ⟨c, hc1, hc2⟩ := a2 (hr2.2.2.1 y).1
      exact ⟨c, by show p_cd (p_need (q_l b n) 41 _) = _; rw [b2 y, hc1]; rfl, hc2⟩
  rw [p_one_f e3 eg e45 e40]
  exact ⟨p_fail_nn p, fun y => absurd y (p_fail_fa p)⟩
theorem p_lv_gv {b : gF} {n : Nat} (hn : n ≤ 160) : ∀ d, p_gv n (p_lv (q_l b n) d).1 ∧ p_gv n (p_lv (q_l b n) d).2.1 ∧ p_gv n (p_lv (q_l b n) d).2.2
  | 0 => by
    have f1 := p_one_fine (b := b) hn true (rO := id) (rE := id) (fun z => by cases z) (fun z => by cases z)
    have o := p_one_gv (b := b) hn true (rO := id) (rE := id) (fun z => by cases z) (fun z => by cases z) (fun z => by cases z) (fun z => by cases z)
    have f2 := p_sum_fine (b := b) hn (p_term_fine (b := b) hn f1)
    have s := p_sum_gv (b := b) hn (p_term_fine (b := b) hn f1) (p_term_gv (b := b) hn f1 o)
    have f3 := p_den_fine (b := b) hn true (rD := id) (fun z => by cases z) f2
    have d := p_den_gv (b := b) hn true (rD := id) (fun z => by cases z) (fun z => by cases z) f2 s
    exact ⟨o, d, p_eith_gv (b := b) hn (p_both_fine (b := b) hn f3) (p_both_gv (b := b) hn f3 d)⟩
  | d + 1 => by
    obtain ⟨i1, i2, i3⟩ := p_lv_gv (b := b) hn d
    obtain ⟨j1, j2, j3⟩ := p_lv_fine (b := b) hn d
    have f1 := p_one_fine (b := b) hn false (fun _ => j1) (fun _ => j3)
    have o := p_one_gv (b := b) hn false (fun _ => j1) (fun _ => i1) (fun _ => j3) (fun _ => i3)
    have f2 := p_sum_fine (b := b) hn (p_term_fine (b := b) hn f1)
    have s := p_sum_gv (b := b) hn (p_term_fine (b := b) hn f1) (p_term_gv (b := b) hn f1 o)
    have f3 := p_den_fine (b := b) hn false (fun _ => j2) f2
    have dd := p_den_gv (b := b) hn false (fun _ => j2) (fun _ => i2) f2 s
    exact ⟨o, dd, p_eith_gv (b := b) hn (p_both_fine (b := b) hn f3) (p_both_gv (b := b) hn f3 dd)⟩
