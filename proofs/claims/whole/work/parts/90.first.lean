/-! THE INVARIANT AT THE BEGINNING -/
def b_H0 : mH := (fun _ => 0, fun _ => 0, fun _ => 0, fun _ => 0, fun _ => 0, fun _ => 0, fun _ => 0, fun _ => 0, 0, 0, 0, 2, 0)
def b_two2 (σ μ : gS) : gS := fun k => if k < 63 then σ k else μ k
theorem IV0 {σ μ : gS} (x : b_FX σ) (y : FM μ) : IVx (b_two2 σ μ) := by
  obtain ⟨⟨x1, x2, x3, x4, x5, x6⟩, x7, x8, x9, x10, x11, x12, x13⟩ := x
  obtain ⟨y1, y2, y3, y4, y5, y6, y7⟩ := y
  have lo : ∀ k, k < 63 → b_two2 σ μ k = σ k := fun k hk => if_pos hk
  have hi : ∀ k, 63 ≤ k → b_two2 σ μ k = μ k := fun k hk => if_neg (by omega)
  refine ⟨b_H0, 1, 0, fun _ => t_of (q_l b_b8 48), b_b8, 0, ⟨⟨⟨?_, ?_, ?_, ?_, ?_⟩, fun h _ => ?_, fun d hd => absurd hd (Nat.not_lt_zero d), fun v hv => absurd hv (Nat.not_lt_zero v)⟩, ⟨?_, fun h _ => ?_, fun d hd => absurd hd (Nat.not_lt_zero d)⟩, ?_, fun v hv => absurd hv (Nat.not_lt_zero v), ⟨?_, ?_, ?_⟩, ?_⟩, ⟨⟨by decide, by decide, by decide, by decide, Or.inl rfl, by decide⟩, fun d hd => absurd hd (Nat.not_lt_zero d), fun h _ => ⟨0, rfl, by decide⟩, fun v hv => absurd hv (Nat.not_lt_zero v), fun u v hu => absurd hu (Nat.not_lt_zero u)⟩, ⟨⟨?_, ?_, by decide, by decide⟩, fun i hi1 => ?_⟩, ⟨?_, ?_⟩, by decide, ⟨?_, ?_, by decide, fun i hi1 => absurd hi1 (Nat.not_lt_zero i)⟩, ⟨fun j hj => Or.inl ⟨?_, ?_⟩, fun j hj => ⟨⟨0, ?_, by decide⟩, Or.inl ?_⟩⟩, Or.inl ⟨?_, ?_⟩⟩
  · rw [lo 1 (by decide)]; exact x1
  · rw [lo 1 (by decide)]; exact x2
  · rw [lo 1 (by decide)]; exact x3
  · rw [lo 1 (by decide)]; exact x4
  · rw [lo 1 (by decide)]; exact x5
  · rw [lo 2 (by decide)]; exact x7 h
  · rw [hi 63 (by decide)]; exact y1 15 (by decide) (by decide) (by decide)
  · rw [hi 67 (by decide)]; exact y7 67 (by decide) h
  · rw [hi 63 (by decide)]; exact y1 19 (by decide) (by decide) (by decide)
  · rw [hi 63 (by decide)]; exact y1 8 (by decide) (by decide) (by decide)
  · rw [hi 63 (by decide)]; exact y1 10 (by decide) (by decide) (by decide)
  · rw [hi 63 (by decide)]; exact y3
  · rw [hi 63 (by decide)]; exact y1 44 (by decide) (by decide) (by decide)
  · rw [lo 0 (by decide)]; exact x8
  · rw [hi 63 (by decide)]; exact y2
  · have h0 : i = 0 := by omega
    subst h0
    obtain ⟨w1, w2⟩ := x12.same (s := b_two2 σ μ) (lo _ (by decide)) (lo _ (by decide))
    refine ⟨⟨w1, fun pa hp mo nm => ((w2 pa mo nm).trans (x13 pa hp mo nm)).trans (t_of_eq pa hp mo nm)⟩, b_b8, 48, ⟨by decide, by decide, ?_, fun j hj => ?_, b8_in⟩, b8_fa, rfl⟩
    · rw [hi 65 (by decide)]; exact y6
    · rw [hi 64 (by decide), Nat.mul_zero, Nat.zero_add]; exact y5 j hj
  · rw [lo 1 (by decide)]; exact x6
  · rw [hi 63 (by decide)]; exact y1 4 (by decide) (by decide) (by decide)
  · rw [lo 19 (by decide)]; exact x10
  · rw [hi 63 (by decide)]; exact y1 6 (by decide) (by decide) (by decide)
  · rw [hi 86 (by decide)]; exact y7 86 (by decide) j
  · show b_two2 σ μ (37 + 2 * j) 0 = -1
    rw [lo _ (by omega)]; exact (x11 j hj).1
  · show b_two2 σ μ (37 + 2 * j) 1 = nI 0
    rw [lo _ (by omega)]; exact (x11 j hj).2
  · show b_two2 σ μ (37 + 2 * j) 0 = -1
    rw [lo _ (by omega)]; exact (x11 j hj).1
  · rw [lo 0 (by decide)]; exact x9
  · rw [hi 63 (by decide)]; exact y4
