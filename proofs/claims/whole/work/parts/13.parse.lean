/-! THE PURE PARSER: one recursive descent over bytes, that both sides are tied to -/
/-- its state: token (the class's numbering: 1 end, 2 wrong, 3 number, 97.. names, 103.. keys, signs as themselves), number, start, place behind, open, fault, the code so far -/
abbrev pS : Type := Int32 × Int32 × Nat × Nat × Nat × Option Nat × List Int32
abbrev p_tk (p : pS) : Int32 := p.1
abbrev p_num (p : pS) : Int32 := p.2.1
abbrev p_st (p : pS) : Nat := p.2.2.1
abbrev p_af (p : pS) : Nat := p.2.2.2.1
abbrev p_op (p : pS) : Nat := p.2.2.2.2.1
abbrev p_fa (p : pS) : Option Nat := p.2.2.2.2.2.1
abbrev p_cd (p : pS) : List Int32 := p.2.2.2.2.2.2
def q_run (P : Nat → Bool) : Nat → Nat → Nat
  | 0, i => i
  | k + 1, i => if P i = true then q_run P k (i + 1) else i
def q_l (b : Nat → Int32) (n i : Nat) : Int32 := if i < n then b i else -1
def q_blank (l : Nat → Int32) (i : Nat) : Bool := decide (l i = 32 ∨ l i = 10)
def q_let (l : Nat → Int32) (i : Nat) : Bool := decide (g_in (l i) 97 122)
def q_dig (l : Nat → Int32) (i : Nat) : Bool := decide (g_in (l i) 48 57)
def q_val (l : Nat → Int32) : Nat → Nat → Int32 → Int32
  | 0, _, a => a
  | k + 1, i, a => q_val l k (i + 1) (a * 10 + l i - 48)
def q_words : List (List Int32) := [[114, 97, 105, 110], [104, 111, 117, 114], [112, 108, 97, 99, 101], [114, 97, 116, 101], [115, 105, 122, 101], [103, 111, 110, 101], [102, 97, 108, 108, 115], [104, 97, 114, 109, 115], [119, 97, 107, 101, 115], [111, 114], [97, 110, 100], [110, 111, 116]]
/-- the bytes from i on are those of w -/
def q_at (l : Nat → Int32) : List Int32 → Nat → Bool
  | [], _ => true
  | c :: w, i => decide (l i = c) && q_at l w (i + 1)
def q_is (l : Nat → Int32) (i e : Nat) (w : List Int32) : Bool := decide (e - i = w.length) && q_at l w i
def q_wc (l : Nat → Int32) (i e : Nat) : List (List Int32) → Nat → Int32 → Int32
  | [], _, t => t
  | w :: ws, j, t => q_wc l i e ws (j + 1) (if q_is l i e w = true then nI (97 + j) else t)
def q_sign (c : Int32) : Bool := decide (c = 40 ∨ c = 41 ∨ c = 59 ∨ c = 43 ∨ c = 45 ∨ c = 42 ∨ c = 60 ∨ c = 61)
/-- the next token from place i on: (token, number, start, behind) -/
def q_lex (l : Nat → Int32) (i : Nat) : Int32 × Int32 × Nat × Nat :=
  let s := q_run (q_blank l) 160 i
  if l s = -1 then (1, 0, s, s)
  else if q_let l s = true then (q_wc l s (q_run (q_let l) 160 s) q_words 0 2, 0, s, q_run (q_let l) 160 s)
  else if q_dig l s = true then (if q_run (q_dig l) 160 s - s ≤ 4 then 3 else 2, q_val l (q_run (q_dig l) 160 s - s) s 0, s, q_run (q_dig l) 160 s)
  else if q_sign (l s) = true then (l s, 0, s, s + 1)
  else (2, 0, s, s)
def p_next (l : Nat → Int32) (p : pS) : pS := ((q_lex l (p_af p)).1, (q_lex l (p_af p)).2.1, (q_lex l (p_af p)).2.2.1, (q_lex l (p_af p)).2.2.2, p.2.2.2.2)
def p_fail (p : pS) : pS := (2, p_num p, p_st p, p_af p, p_op p, (match p_fa p with | none => some (p_st p) | some f => some f), p_cd p)
def p_open (p : pS) (n : Nat) : pS := (p_tk p, p_num p, p_st p, p_af p, n, p_fa p, p_cd p)
def p_emit (p : pS) (c : Int32) : pS := (p_tk p, p_num p, p_st p, p_af p, p_op p, p_fa p, p_cd p ++ [c])
def p_need (l : Nat → Int32) (w : Int32) (p : pS) : pS := if p_tk p = w then p_next l p else p_fail p
def p_loop (t : pS → Bool) (f : pS → pS) : Nat → pS → pS
  | 0, p => p
  | k + 1, p => if t p = true then p_loop t f k (f p) else p
/-- z: nothing more may be opened; rO, rE: a ONE, an E one deeper -/
def p_one (l : Nat → Int32) (z : Bool) (rO rE : pS → pS) (p : pS) : pS :=
  if p_tk p = 3 then p_next l (p_emit p (p_num p))
  else if g_in (p_tk p) 97 102 then p_next l (p_emit p (-1 - (p_tk p - 97)))
  else if p_tk p = 45 then (if z = true then p_fail p else (fun q => p_open q (p_op q - 1)) (p_emit (rO (p_next l (p_open p (p_op p + 1)))) (-15)))
  else if p_tk p = 40 then (if z = true then p_fail p else (fun q => p_open q (p_op q - 1)) (p_need l 41 (rE (p_next l (p_open p (p_op p + 1))))))
  else p_fail p
def p_term (l : Nat → Int32) (one : pS → pS) (p : pS) : pS :=
  p_loop (fun q => decide (p_tk q = 42)) (fun q => p_emit (one (p_next l q)) (-9)) 160 (one p)
def p_sum (l : Nat → Int32) (term : pS → pS) (p : pS) : pS :=
  p_loop (fun q => decide (p_tk q = 43 ∨ p_tk q = 45)) (fun q => p_emit (term (p_next l q)) (if p_tk q = 43 then -7 else -8)) 160 (term p)
def p_den (l : Nat → Int32) (z : Bool) (rD sum : pS → pS) (p : pS) : pS :=
  if p_tk p = 108 then (if z = true then p_fail p else (fun q => p_open q (p_op q - 1)) (p_emit (rD (p_next l (p_open p (p_op p + 1)))) (-14)))
  else (fun q => if p_tk q = 60 ∨ p_tk q = 61 then p_emit (sum (p_next l q)) (if p_tk q = 60 then -10 else -11) else q) (sum p)
def p_both (l : Nat → Int32) (den : pS → pS) (p : pS) : pS :=
  p_loop (fun q => decide (p_tk q = 107)) (fun q => p_emit (den (p_next l q)) (-12)) 160 (den p)
def p_eith (l : Nat → Int32) (both : pS → pS) (p : pS) : pS :=
  p_loop (fun q => decide (p_tk q = 106)) (fun q => p_emit (both (p_next l q)) (-13)) 160 (both p)
/-- at depth d (so many may still be opened): ONE, NOT, E -/
def p_lv (l : Nat → Int32) : Nat → (pS → pS) × (pS → pS) × (pS → pS)
  | 0 => (p_one l true id id, p_den l true id (p_sum l (p_term l (p_one l true id id))), p_eith l (p_both l (p_den l true id (p_sum l (p_term l (p_one l true id id))))))
  | d + 1 => (p_one l false (p_lv l d).1 (p_lv l d).2.2, p_den l false (p_lv l d).2.1 (p_sum l (p_term l (p_one l false (p_lv l d).1 (p_lv l d).2.2))), p_eith l (p_both l (p_den l false (p_lv l d).2.1 (p_sum l (p_term l (p_one l false (p_lv l d).1 (p_lv l d).2.2))))))
def p_part (l : Nat → Int32) (key : Int32) (p : pS) : pS := p_need l 59 ((p_lv l 5).2.2 (p_need l key p))
def p_start (l : Nat → Int32) : pS := ((q_lex l 0).1, (q_lex l 0).2.1, (q_lex l 0).2.2.1, (q_lex l 0).2.2.2, 0, none, [])
/-- behind the first, the second, the third part, and the end -/
def p_1 (l : Nat → Int32) : pS := p_part l 103 (p_start l)
def p_2 (l : Nat → Int32) : pS := p_part l 104 (p_1 l)
def p_3 (l : Nat → Int32) : pS := p_part l 105 (p_2 l)
def p_end (l : Nat → Int32) : pS := p_need l 1 (p_3 l)
/-! what a code says of the names -/
def e_bin (s a b : Int32) : Int32 :=
  if s = -7 then a + b else if s = -8 then a - b else if s = -9 then a * b
  else if s = -10 then (if a < b then 1 else 0) else if s = -11 then (if a = b then 1 else 0)
  else if s = -12 then (if a ≠ 0 ∧ b ≠ 0 then 1 else 0) else (if a ≠ 0 ∨ b ≠ 0 then 1 else 0)
def e_step (nm : Nat → Int32) (c : Int32) (st : List Int32) : List Int32 :=
  if ¬ c < 0 then c :: st
  else if ¬ c < -6 then nm (ix (-1 - c)) :: st
  else if c = -14 then (match st with | x :: r => (if x = 0 then 1 else 0) :: r | [] => [])
  else if c = -15 then (match st with | x :: r => (-x) :: r | [] => [])
  else match st with | b :: a :: r => e_bin c a b :: r | r => r
def e_run (nm : Nat → Int32) : List Int32 → List Int32 → List Int32
  | [], st => st
  | c :: cs, st => e_run nm cs (e_step nm c st)
theorem e_app (nm : Nat → Int32) : ∀ (a b st : List Int32), e_run nm (a ++ b) st = e_run nm b (e_run nm a st)
  | [], _, _ => rfl
  | c :: a, b, st => e_app nm a b (e_step nm c st)
/-! FACTS -/
theorem q_run_ge (P : Nat → Bool) : ∀ (k i : Nat), i ≤ q_run P k i
  | 0, i => Nat.le_refl i
  | k + 1, i => by
    rw [q_run]
    split
    · exact Nat.le_trans (Nat.le_succ i) (q_run_ge P k (i + 1))
    · exact Nat.le_refl i
theorem q_run_le {P : Nat → Bool} {n : Nat} (hP : ∀ j, n ≤ j → P j = false) : ∀ (k i : Nat), i ≤ n → q_run P k i ≤ n
  | 0, i, h => h
  | k + 1, i, h => by
    rw [q_run]
    split
    · next e =>
      refine q_run_le hP k (i + 1) ?_
      rcases Nat.lt_or_ge i n with q | q
      · exact q
      · rw [hP i q] at e; cases e
    · exact h
theorem q_run_fuel {P : Nat → Bool} {n : Nat} (hP : ∀ j, n ≤ j → P j = false) : ∀ (k k' i : Nat), n ≤ i + k → n ≤ i + k' → q_run P k i = q_run P k' i := by
  intro k
  induction k with
  | zero =>
    intro k' i h h'
    cases k' with
    | zero => rfl
    | succ k' => rw [q_run, q_run, if_neg (by rw [hP i (by omega)]; decide)]
  | succ k ih =>
    intro k' i h h'
    cases k' with
    | zero => rw [q_run, q_run, if_neg (by rw [hP i (by omega)]; decide)]
    | succ k' =>
      rw [q_run, q_run]
      split
      · exact ih k' (i + 1) (by omega) (by omega)
      · rfl
theorem q_run_stop {P : Nat → Bool} {n : Nat} (hP : ∀ j, n ≤ j → P j = false) : ∀ (k i : Nat), n ≤ i + k → P (q_run P k i) = false
  | 0, i, h => hP i (by omega)
  | k + 1, i, h => by
    rw [q_run]
    split
    · exact q_run_stop hP k (i + 1) (by omega)
    · next e => simpa using e
theorem q_l_out {b : Nat → Int32} {n j : Nat} (h : n ≤ j) : q_l b n j = -1 := if_neg (by omega)
theorem q_blank_out {b : Nat → Int32} {n j : Nat} (h : n ≤ j) : q_blank (q_l b n) j = false := by
  simp only [q_blank, q_l_out h]
  decide
theorem q_let_out {b : Nat → Int32} {n j : Nat} (h : n ≤ j) : q_let (q_l b n) j = false := by
  simp only [q_let, q_l_out h]
  decide
theorem q_dig_out {b : Nat → Int32} {n j : Nat} (h : n ≤ j) : q_dig (q_l b n) j = false := by
  simp only [q_dig, q_l_out h]
  decide
theorem q_l_in {b : Nat → Int32} {n j : Nat} (h : ¬ q_l b n j = -1) : j < n := by
  rcases Nat.lt_or_ge j n with q | q
  · exact q
  · exact absurd (q_l_out q) h
/-- where tokens lie -/
theorem q_lex_pos {b : Nat → Int32} {n i : Nat} (hn : n ≤ 160) (hi : i ≤ n) : i ≤ (q_lex (q_l b n) i).2.2.1 ∧ (q_lex (q_l b n) i).2.2.1 ≤ (q_lex (q_l b n) i).2.2.2 ∧ (q_lex (q_l b n) i).2.2.2 ≤ n ∧ (¬ (q_lex (q_l b n) i).1 = 1 → ¬ (q_lex (q_l b n) i).1 = 2 → (q_lex (q_l b n) i).2.2.1 < (q_lex (q_l b n) i).2.2.2) := by
  have h1 := q_run_ge (q_blank (q_l b n)) 160 i
  have h2 := q_run_le (P := q_blank (q_l b n)) (fun j => q_blank_out) 160 i hi
  simp only [q_lex]
  generalize q_run (q_blank (q_l b n)) 160 i = s at h1 h2 ⊢
  split
  · exact ⟨h1, Nat.le_refl _, h2, fun z => absurd rfl z⟩
  · next e0 =>
    have hs := q_l_in e0
    split
    · next e1 =>
      refine ⟨h1, q_run_ge _ _ _, q_run_le (fun j => q_let_out) _ _ h2, fun _ _ => ?_⟩
      rw [show (160 : Nat) = 159 + 1 from rfl, q_run, if_pos e1]
      exact q_run_ge _ 159 (s + 1)
    · split
      · next e2 =>
        refine ⟨h1, q_run_ge _ _ _, q_run_le (fun j => q_dig_out) _ _ h2, fun _ _ => ?_⟩
        rw [show (160 : Nat) = 159 + 1 from rfl, q_run, if_pos e2]
        exact q_run_ge _ 159 (s + 1)
      · split
        · exact ⟨h1, Nat.le_succ s, hs, fun _ _ => Nat.lt_succ_self s⟩
        · exact ⟨h1, Nat.le_refl s, h2, fun _ z => absurd rfl z⟩
/-- in good order: not more signs than bytes -/
def p_ok (n : Nat) (p : pS) : Prop := (p_fa p = none → (p_cd p).length ≤ p_st p ∧ p_st p ≤ p_af p ∧ p_af p ≤ n ∧ (¬ p_tk p = 1 → ¬ p_tk p = 2 → p_st p < p_af p)) ∧ (¬ p_fa p = none → p_tk p = 2)
/-- r comes behind p: order; a fault stays; no more signs than bytes; the depth -/
def p_rel (n : Nat) (p r : pS) : Prop := p_ok n r ∧ (¬ p_fa p = none → p_fa r = p_fa p) ∧ (p_fa r = none → p_fa p = none ∧ (p_cd r).length + p_st p ≤ (p_cd p).length + p_st r ∧ p_st p ≤ p_st r) ∧ p_op r = p_op p
def p_fine (n : Nat) (f : pS → pS) : Prop := ∀ p, p_ok n p → p_rel n p (f p)
theorem p_rel.refl {n : Nat} {p : pS} (h : p_ok n p) : p_rel n p p := ⟨h, fun _ => rfl, fun z => ⟨z, Nat.le_refl _, Nat.le_refl _⟩, rfl⟩
theorem p_rel.trans {n : Nat} {p q r : pS} (h1 : p_rel n p q) (h2 : p_rel n q r) : p_rel n p r := by
  obtain ⟨a1, a2, a3, a4⟩ := h1
  obtain ⟨b1, b2, b3, b4⟩ := h2
  refine ⟨b1, fun z => ?_, fun z => ?_, b4.trans a4⟩
  · have e := a2 z
    rw [b2 (by rw [e]; exact z), e]
  · obtain ⟨c1, c2, c3⟩ := b3 z
    obtain ⟨d1, d2, d3⟩ := a3 c1
    exact ⟨d1, by omega, by omega⟩
theorem p_fail_fine (n : Nat) : p_fine n p_fail := by
  intro p h
  have h0 : ¬ p_fa (p_fail p) = none := by
    show ¬ (match p_fa p with | none => some (p_st p) | some f => some f) = none
    cases p_fa p <;> simp
  refine ⟨⟨fun z => absurd z h0, fun _ => rfl⟩, fun z => ?_, fun z => absurd z h0, rfl⟩
  show (match p_fa p with | none => some (p_st p) | some f => some f) = p_fa p
  cases hf : p_fa p with
  | none => exact absurd hf z
  | some f => rfl
/-- the next token, behind a real one -/
theorem p_next_ok {b : Nat → Int32} {n : Nat} (hn : n ≤ 160) {p : pS} (h : p_ok n p) (h1 : ¬ p_tk p = 1) (h2 : ¬ p_tk p = 2) : p_fa p = none ∧ p_ok n (p_next (q_l b n) p) ∧ p_st p < p_st (p_next (q_l b n) p) := by
  have h0 : p_fa p = none := Decidable.of_not_not (fun z => h2 (h.2 z))
  obtain ⟨a1, a2, a3, a4⟩ := h.1 h0
  obtain ⟨c1, c2, c3, c4⟩ := q_lex_pos (b := b) hn a3
  have a5 := a4 h1 h2
  have hlt : p_st p < p_st (p_next (q_l b n) p) := Nat.lt_of_lt_of_le a5 c1
  refine ⟨h0, ⟨fun _ => ⟨?_, c2, c3, c4⟩, fun z => absurd h0 z⟩, hlt⟩
  exact Nat.le_trans a1 (Nat.le_of_lt hlt)

theorem p_next_rel {b : Nat → Int32} {n : Nat} (hn : n ≤ 160) {p : pS} (h : p_ok n p) (h1 : ¬ p_tk p = 1) (h2 : ¬ p_tk p = 2) : p_rel n p (p_next (q_l b n) p) := by
  obtain ⟨a, c, d⟩ := p_next_ok (b := b) hn h h1 h2
  exact ⟨c, fun z => absurd a z, fun _ => ⟨a, by show (p_cd p).length + _ ≤ (p_cd p).length + _; omega, Nat.le_of_lt d⟩, rfl⟩
/-- a token taken, a part read, a sign written -/
theorem p_step {b : Nat → Int32} {n : Nat} (hn : n ≤ 160) {f : pS → pS} (hf : p_fine n f) {p : pS} (h : p_ok n p) (h1 : ¬ p_tk p = 1) (h2 : ¬ p_tk p = 2) (c : Int32) : p_rel n p (p_emit (f (p_next (q_l b n) p)) c) ∧ (p_fa (f (p_next (q_l b n) p)) = none → p_st p < p_st (f (p_next (q_l b n) p)) ∧ (p_cd (f (p_next (q_l b n) p))).length < n) := by
  obtain ⟨a, k, d⟩ := p_next_ok (b := b) hn h h1 h2
  obtain ⟨e1, e2, e3, e4⟩ := hf _ k
  have hk := h.1 a
  have core : p_fa (f (p_next (q_l b n) p)) = none → (p_cd (f (p_next (q_l b n) p))).length + p_st p + 1 ≤ (p_cd p).length + p_st (f (p_next (q_l b n) p)) := by
    intro z
    obtain ⟨-, g2, -⟩ := e3 z
    have g3 : (p_cd (p_next (q_l b n) p)).length = (p_cd p).length := rfl
    omega
  have hlen : ∀ q : pS, (p_cd (p_emit q c)).length = (p_cd q).length + 1 := fun q => by show (p_cd q ++ [c]).length = _; simp
  refine ⟨⟨⟨fun z => ?_, fun z => e1.2 z⟩, fun z => absurd a z, fun z => ⟨a, ?_, ?_⟩, e4⟩, fun z => ⟨?_, ?_⟩⟩
  · obtain ⟨g1, g2, g3, g4⟩ := e1.1 z
    refine ⟨?_, g2, g3, g4⟩
    rw [hlen]
    have := core z
    show _ ≤ p_st (f (p_next (q_l b n) p))
    omega
  · rw [hlen]
    have := core z
    show _ ≤ (p_cd p).length + p_st (f (p_next (q_l b n) p))
    omega
  · obtain ⟨-, -, g⟩ := e3 z
    exact Nat.le_of_lt (Nat.lt_of_lt_of_le d g)
  · obtain ⟨-, -, g⟩ := e3 z
    exact Nat.lt_of_lt_of_le d g
  · obtain ⟨g1, g2, g3, g4⟩ := e1.1 z
    have := core z
    omega
theorem p_loop_fine {n : Nat} {t : pS → Bool} {f : pS → pS} (hf : ∀ p, p_ok n p → t p = true → p_rel n p (f p)) : ∀ k, p_fine n (p_loop t f k)
  | 0, p, h => p_rel.refl h
  | k + 1, p, h => by
    rw [p_loop]
    split
    · next e => exact (hf p h e).trans (p_loop_fine hf k _ (hf p h e).1)
    · exact p_rel.refl h
theorem p_comp_fine {n : Nat} {f g : pS → pS} (hf : p_fine n f) (hg : p_fine n g) : p_fine n (fun p => g (f p)) := fun p h => (hf p h).trans (hg _ (hf p h).1)
theorem p_need_fine {b : Nat → Int32} {n : Nat} (hn : n ≤ 160) {w : Int32} (h1 : ¬ w = 1) (h2 : ¬ w = 2) : p_fine n (p_need (q_l b n) w) := by
  intro p h
  unfold p_need
  split
  · next e => exact p_next_rel hn h (by rw [e]; exact h1) (by rw [e]; exact h2)
  · exact p_fail_fine n p h
theorem p_open_ok {n : Nat} {p : pS} (h : p_ok n p) (k : Nat) : p_ok n (p_open p k) := h
/-- something opened, a part read, closed again -/
theorem p_deep {b : Nat → Int32} {n : Nat} (hn : n ≤ 160) {f : pS → pS} (hf : p_fine n f) {p : pS} (h : p_ok n p) (h1 : ¬ p_tk p = 1) (h2 : ¬ p_tk p = 2) (c : Int32) : p_rel n p (p_open (p_emit (f (p_next (q_l b n) (p_open p (p_op p + 1)))) c) (p_op (p_emit (f (p_next (q_l b n) (p_open p (p_op p + 1)))) c) - 1)) := by
  obtain ⟨⟨a1, a2, a3, a4⟩, -⟩ := p_step (b := b) hn hf (p := p_open p (p_op p + 1)) h h1 h2 c
  exact ⟨a1, a2, a3, by show _ - 1 = p_op p; rw [a4]; rfl⟩
theorem p_one_fine {b : Nat → Int32} {n : Nat} (hn : n ≤ 160) (z : Bool) {rO rE : pS → pS} (hO : z = false → p_fine n rO) (hE : z = false → p_fine n rE) : p_fine n (p_one (q_l b n) z rO rE) := by
  have wr : ∀ (p : pS) (c : Int32), p_ok n p → ¬ p_tk p = 1 → ¬ p_tk p = 2 → p_rel n p (p_next (q_l b n) (p_emit p c)) := by
    intro p c h h1 h2
    obtain ⟨a, k, d⟩ := p_next_ok (b := b) hn h h1 h2
    have hk := h.1 a
    have kk := k.1 a
    have hl : (p_cd (p_next (q_l b n) (p_emit p c))).length = (p_cd p).length + 1 := by show (p_cd p ++ [c]).length = _; simp
    have hst : p_st (p_next (q_l b n) (p_emit p c)) = p_st (p_next (q_l b n) p) := rfl
    refine ⟨⟨fun _ => ⟨by rw [hl, hst]; omega, kk.2.1, kk.2.2.1, kk.2.2.2⟩, fun w => absurd a w⟩, fun w => absurd a w, fun _ => ⟨a, by rw [hl, hst]; omega, by rw [hst]; omega⟩, rfl⟩
  intro p h
  unfold p_one
  split
  · next e => exact wr p _ h (by rw [e]; decide) (by rw [e]; decide)
  · split
    · next e => exact wr p _ h (fun w => by rw [w] at e; exact absurd e (by decide)) (fun w => by rw [w] at e; exact absurd e (by decide))
    · split
      · next e =>
        split
        · exact p_fail_fine n p h
        · next hz => exact p_deep hn (hO (by simpa using hz)) h (by rw [e]; decide) (by rw [e]; decide) (-15)
      · split
        · next e =>
          split
          · exact p_fail_fine n p h
          · next hz =>
            have r1 := p_next_rel (b := b) hn (p := p_open p (p_op p + 1)) h (by show ¬ p_tk p = 1; rw [e]; decide) (by show ¬ p_tk p = 2; rw [e]; decide)
            have r2 := r1.trans (hE (by simpa using hz) _ r1.1)
            have r3 := r2.trans (p_need_fine (b := b) hn (w := 41) (by decide) (by decide) _ r2.1)
            obtain ⟨a1, a2, a3, a4⟩ := r3
            exact ⟨a1, a2, a3, by show _ - 1 = p_op p; rw [a4]; rfl⟩
        · exact p_fail_fine n p h
theorem p_tokq {q : pS} {w : Int32} (e : p_tk q = w) (h1 : ¬ w = 1) (h2 : ¬ w = 2) : ¬ p_tk q = 1 ∧ ¬ p_tk q = 2 := ⟨by rw [e]; exact h1, by rw [e]; exact h2⟩
theorem p_term_fine {b : Nat → Int32} {n : Nat} (hn : n ≤ 160) {one : pS → pS} (h1 : p_fine n one) : p_fine n (p_term (q_l b n) one) := by
  refine p_comp_fine (f := one) (g := p_loop _ _ 160) h1 (p_loop_fine (fun p h e => ?_) 160)
  obtain ⟨t1, t2⟩ := p_tokq (of_decide_eq_true e) (by decide) (by decide)
  exact (p_step hn h1 h t1 t2 _).1
theorem p_sum_fine {b : Nat → Int32} {n : Nat} (hn : n ≤ 160) {term : pS → pS} (h1 : p_fine n term) : p_fine n (p_sum (q_l b n) term) := by
  refine p_comp_fine (f := term) (g := p_loop _ _ 160) h1 (p_loop_fine (fun p h e => ?_) 160)
  have e' : p_tk p = 43 ∨ p_tk p = 45 := of_decide_eq_true e
  have t : ¬ p_tk p = 1 ∧ ¬ p_tk p = 2 := e'.elim (fun w => p_tokq w (by decide) (by decide)) (fun w => p_tokq w (by decide) (by decide))
  exact (p_step hn h1 h t.1 t.2 _).1
theorem p_den_fine {b : Nat → Int32} {n : Nat} (hn : n ≤ 160) (z : Bool) {rD sum : pS → pS} (hD : z = false → p_fine n rD) (h1 : p_fine n sum) : p_fine n (p_den (q_l b n) z rD sum) := by
  intro p h
  unfold p_den
  split
  · next e =>
    split
    · exact p_fail_fine n p h
    · next hz => exact p_deep hn (hD (by simpa using hz)) h (by rw [e]; decide) (by rw [e]; decide) (-14)
  · have r := h1 p h
    dsimp only
    split
    · next e =>
      have t : ¬ p_tk (sum p) = 1 ∧ ¬ p_tk (sum p) = 2 := e.elim (fun w => p_tokq w (by decide) (by decide)) (fun w => p_tokq w (by decide) (by decide))
      exact r.trans (p_step hn h1 r.1 t.1 t.2 _).1
    · exact r
theorem p_both_fine {b : Nat → Int32} {n : Nat} (hn : n ≤ 160) {den : pS → pS} (h1 : p_fine n den) : p_fine n (p_both (q_l b n) den) := by
  refine p_comp_fine (f := den) (g := p_loop _ _ 160) h1 (p_loop_fine (fun p h e => ?_) 160)
  obtain ⟨t1, t2⟩ := p_tokq (of_decide_eq_true e) (by decide) (by decide)
  exact (p_step hn h1 h t1 t2 _).1
theorem p_eith_fine {b : Nat → Int32} {n : Nat} (hn : n ≤ 160) {both : pS → pS} (h1 : p_fine n both) : p_fine n (p_eith (q_l b n) both) := by
  refine p_comp_fine (f := both) (g := p_loop _ _ 160) h1 (p_loop_fine (fun p h e => ?_) 160)
  obtain ⟨t1, t2⟩ := p_tokq (of_decide_eq_true e) (by decide) (by decide)
  exact (p_step hn h1 h t1 t2 _).1
theorem p_lv_fine {b : Nat → Int32} {n : Nat} (hn : n ≤ 160) : ∀ d, p_fine n (p_lv (q_l b n) d).1 ∧ p_fine n (p_lv (q_l b n) d).2.1 ∧ p_fine n (p_lv (q_l b n) d).2.2
  | 0 => by
    have o := p_one_fine (b := b) hn true (rO := id) (rE := id) (fun z => by cases z) (fun z => by cases z)
    have s := p_sum_fine (b := b) hn (p_term_fine (b := b) hn o)
    have d := p_den_fine (b := b) hn true (rD := id) (fun z => by cases z) s
    exact ⟨o, d, p_eith_fine (b := b) hn (p_both_fine (b := b) hn d)⟩
  | d + 1 => by
    obtain ⟨i1, i2, i3⟩ := p_lv_fine (b := b) hn d
    have o := p_one_fine (b := b) hn false (fun _ => i1) (fun _ => i3)
    have s := p_sum_fine (b := b) hn (p_term_fine (b := b) hn o)
    have dd := p_den_fine (b := b) hn false (fun _ => i2) s
    exact ⟨o, dd, p_eith_fine (b := b) hn (p_both_fine (b := b) hn dd)⟩
