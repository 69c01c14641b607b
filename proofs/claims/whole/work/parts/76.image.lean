/-! pass, image, back ON BOTH SIDES -/
section JW
variable {σ : gS} {H : mH} {nT t : Nat} {TT : Nat → mT} {b : gF} {n : Nat}
theorem h_pass_sh (T : mT) (H : mH) (m : Int32) : h_nd (h_pass T H m) = h_nd H ∧ h_nv (h_pass T H m) = h_nv H ∧ h_kd (h_pass T H m) = h_kd H ∧ h_sz (h_pass T H m) = h_sz H := by
  unfold h_pass
  split
  · exact ⟨rfl, rfl, rfl, rfl⟩
  · exact ⟨rfl, rfl, rfl, rfl⟩
theorem jp_pass (h : IV σ H nT t TT b n) (m : Int32) : JP yX7_pass cX7_pass 3 yX8_pass cX8_pass 3 [.int m] σ := by
  refine ⟨18, _, by decide, k_pass (by decide) σ h.zX m, fun rv s1 hq => ?_⟩
  obtain ⟨q1, q2, q3⟩ := hq
  have mk : mok s1 t (TT t) H := h.zM.zlow (fun a ha => q3 a (by omega) (by omega))
  refine ⟨78, _, _, by decide, q1, k_M_pass (by decide) s1 mk m, fun rv2 s2 hr => ?_⟩
  obtain ⟨r1, r2, r3, r4⟩ := hr
  refine ⟨r1, ?_⟩
  have hTk : t_ok (TT t) := h.zX.2.2.2
  have hok := h_pass_ok hTk h.2.1 m
  obtain ⟨p1, p2, p3, p4⟩ := h_pass_sh (TT t) H m
  generalize h_pass (TT t) H m = H' at q2 r2 hok p1 p2 p3 p4
  obtain ⟨-, f2, f3, f4, f5, f6⟩ := r2
  have E : ∀ a, a ≠ 9 → (a < 23 ∨ 36 < a) → a ≠ 63 → a ≠ 74 → (a < 75 ∨ 82 < a) → s2 a = σ a := fun a z1 z2 z3 z4 z5 => (r3 a z3 z4 z5).trans (q3 a z1 z2)
  have J : ∀ j, (j < 20 ∨ (34 < j ∧ j < 39) ∨ j = 44 ∨ 49 < j) → s2 63 j = σ 63 j := fun j hj => (r4 j hj).trans (by rw [q3 63 (by decide) (by decide)])
  obtain ⟨h1, h2, h3, h4, h5, h6, h7, h8⟩ := h
  refine ⟨H', nT, t, TT, b, n, ⟨q2.same (fun a ha => r3 a (by omega) (by omega) (by omega)), f2, f3, f4, f5, f6⟩, hok, ?_, ?_, h5, ?_, ?_, ?_⟩
  · exact h3.zs (by rw [E 0 (by decide) (by decide) (by decide) (by decide) (by decide)]) (J 3 (by decide)) (fun i hi => ⟨E _ (by omega) (by omega) (by omega) (by omega) (by omega), E _ (by omega) (by omega) (by omega) (by omega) (by omega)⟩) (E 64 (by decide) (by decide) (by decide) (by decide) (by decide)) (E 65 (by decide) (by decide) (by decide) (by decide) (by decide))
  · exact h4.zs (by rw [E 1 (by decide) (by decide) (by decide) (by decide) (by decide)]) (J 4 (by decide))
  · exact h6.zs (by rw [E 19 (by decide) (by decide) (by decide) (by decide) (by decide)]) (J 6 (by decide)) (E 20 (by decide) (by decide) (by decide) (by decide) (by decide)) (E 66 (by decide) (by decide) (by decide) (by decide) (by decide))
  · exact h7.zs (fun a z1 z2 => E a (by omega) (by omega) (by omega) (by omega) (by omega)) (fun a z1 z2 => E a (by omega) (by omega) (by omega) (by omega) (by omega))
  · have g8 : iv_im s2 H nT := h8.zs (by rw [E 0 (by decide) (by decide) (by decide) (by decide) (by decide)]) (fun a z1 z2 => E a (by omega) (by omega) (by omega) (by omega) (by omega)) (fun j z1 z2 => J j (by omega)) (fun a z1 z2 => E a (by omega) (by omega) (by omega) (by omega) (by omega))
    exact g8.zh (by omega) (by omega) (fun d _ => by rw [p3]) (fun v _ => by rw [p4])
theorem cpy_lo {f g : gF} {dp n j : Nat} (h : dp ≤ j) (h2 : j < dp + n) : va_cpy f g 0 dp n j = f (j - dp) := by
  rw [pk_cpy_in h h2, Nat.zero_add]
theorem cpy_hi {f g : gF} {sp n j : Nat} (h2 : j < n) : va_cpy f g sp 0 n j = f (sp + j) := by
  rw [pk_cpy_in (Nat.zero_le _) (by omega), Nat.sub_zero]
theorem jp_image (h : IV σ H nT t TT b n) : JP yX7_image cX7_image 1 yX8_image cX8_image 2 [] σ := by
  obtain ⟨h1, h2, h3, h4, h5, h6, h7, h8⟩ := h
  refine JP.zsz (hX := 3) (hM := 3) (by decide) (by decide) (c_X7_image σ) (c_X8_image _) ?_
  obtain ⟨⟨y1, y2, y3, y4⟩, ⟨d1, d2, d3⟩, v1, v2, v3, v4⟩ := id h1
  have hd6 := h2.1.1
  have hv5 := h2.1.2.1
  refine ⟨by simp [g_up, g_cp]; exact y1.1.trans d1.symm, H, nT, t, TT, b, n, ?_, h2, ?_, ?_, h5, ?_, ?_, Or.inr ⟨?_, H, t, h2, h5, ⟨Nat.le_refl _, Nat.le_refl _⟩, fun _ _ => rfl, fun _ _ => rfl, ⟨⟨?_, ?_, ?_, ?_, ?_, ?_⟩, fun i hi => ?_, fun d hd => ⟨?_, ?_, ?_, ?_⟩, fun d hd => ⟨?_, ?_, ?_⟩⟩, ⟨⟨?_, ?_, ?_, ?_, ?_, ?_⟩, fun i hi => ?_, fun d hd => ⟨?_, ?_, ?_⟩, fun d hd => ⟨?_, ?_⟩⟩⟩⟩
  · refine h1.zs (fun a z1 z2 => ?_) (fun j _ _ => ?_) (fun j hj => ?_) (fun a z1 z2 => ?_)
    · simp only [g_up, g_cp]; repeat rw [if_neg (by omega)]
    · simp [g_up, g_cp]
    · rcases hj with rfl | rfl | rfl | rfl | rfl | rfl <;> simp [g_up, g_cp]
    · simp only [g_up, g_cp]; repeat rw [if_neg (by omega)]
  · refine h3.zs ?_ ?_ (fun i hi => ⟨?_, ?_⟩) ?_ ?_
    · simp [g_up, g_cp]
    · simp [g_up, g_cp]
    · simp only [g_up, g_cp]; repeat rw [if_neg (by omega)]
    · simp only [g_up, g_cp]; repeat rw [if_neg (by omega)]
    · simp [g_up, g_cp]
    · simp [g_up, g_cp]
  · exact h4.zs (by simp [g_up, g_cp]) (by simp [g_up, g_cp])
  · exact h6.zs (by simp [g_up, g_cp]) (by simp [g_up, g_cp]) (by simp [g_up, g_cp]) (by simp [g_up, g_cp])
  · refine h7.zs (fun a z1 z2 => ?_) (fun a z1 z2 => ?_)
    · simp only [g_up, g_cp]; repeat rw [if_neg (by omega)]
    · simp only [g_up, g_cp]; repeat rw [if_neg (by omega)]
  · simp [g_up, g_cp]
  · simp [g_up, g_cp]; exact y1.1
  · simp [g_up, g_cp]; exact y1.2.1
  · simp [g_up, g_cp]; exact y1.2.2.1
  · simp [g_up, g_cp]; exact y1.2.2.2.1
  · simp [g_up, g_cp]; exact y1.2.2.2.2
  · simp [g_up, g_cp]; exact h4.1
  · simp [g_up, g_cp]; rw [cpy_hi (by omega), Nat.zero_add]; exact y2 i hi
  · simp [g_up, g_cp]; rw [cpy_hi (by omega), Nat.zero_add]; exact (y3 d hd).1
  · simp [g_up, g_cp]; rw [cpy_hi (by omega), Nat.zero_add]; exact (y3 d hd).2.1
  · simp [g_up, g_cp]; rw [cpy_hi (by omega), Nat.zero_add]; exact (y3 d hd).2.2.1
  · simp [g_up, g_cp]; rw [cpy_hi (by omega), Nat.zero_add]; exact (y3 d hd).2.2.2
  · simp [g_up, g_cp]; rw [cpy_hi (by omega), Nat.zero_add]; exact (y4 d hd).1
  · simp [g_up, g_cp]; rw [cpy_hi (by omega), Nat.zero_add]; exact (y4 d hd).2.1
  · simp [g_up, g_cp]; rw [cpy_hi (by omega), Nat.zero_add]; exact (y4 d hd).2.2
  · simp [g_up, g_cp]; exact d1
  · simp [g_up, g_cp]; exact v1
  · simp [g_up, g_cp]; exact v3.1
  · simp [g_up, g_cp]; exact v3.2.2
  · simp [g_up, g_cp]; exact v3.2.1
  · simp [g_up, g_cp]; exact h4.2
  · simp [g_up, g_cp]; rw [cpy_hi (by omega), Nat.zero_add]; exact d2 i hi
  · simp [g_up, g_cp]; rw [pk_cpy_out (by omega), pk_cpy_out (by omega), cpy_hi (by omega), Nat.zero_add]; exact (d3 d hd).2.1
  · simp [g_up, g_cp]; rw [pk_cpy_out (by omega), cpy_lo (by omega) (by omega), Nat.add_sub_cancel_left]; exact (d3 d hd).2.2.1
  · simp [g_up, g_cp]; rw [cpy_lo (by omega) (by omega), Nat.add_sub_cancel_left]; exact (d3 d hd).2.2.2
  · simp [g_up, g_cp]; rw [pk_cpy_out (by omega), cpy_hi (by omega), Nat.zero_add]; exact (v2 d hd).2.1
  · simp [g_up, g_cp]; rw [cpy_lo (by omega) (by omega), Nat.add_sub_cancel_left]; exact (v2 d hd).2.2
theorem jp_back (h : IV σ H nT t TT b n) : JP yX7_back cX7_back 1 yX8_back cX8_back 2 [] σ := by
  have h0 := h
  obtain ⟨h1, h2, h3, h4, h5, h6, h7, h8⟩ := h
  refine JP.zsz (hX := 3) (hM := 3) (by decide) (by decide) (c_X7_back σ) (c_X8_back _) ?_
  obtain ⟨⟨y1, y2, y3, y4⟩, ⟨d1, d2, d3⟩, v1, v2, v3, v4⟩ := id h1
  have e63 : (if σ 0 2 = 0 then σ else (g_up (g_up (g_up (g_up (g_up (g_up (g_cp (g_cp (g_cp (g_cp (g_cp (g_cp (g_cp (g_cp σ 11 2 0 0 24) 12 3 0 0 6) 13 4 0 0 6) 14 5 0 0 6) 15 6 0 0 6) 16 7 0 0 5) 17 8 0 0 5) 18 9 0 0 5) 1 8 (σ 10 8)) 1 9 (σ 10 9)) 1 10 (σ 10 10)) 1 11 (σ 10 11)) 1 12 (σ 10 12)) 1 13 (σ 10 13))) 63 = σ 63 := by
    split
    · rfl
    · simp [g_up, g_cp]
  rw [e63]
  rcases h8 with ⟨z1, z2⟩ | ⟨z1, K, tk, hK, htk, ⟨k1, k2⟩, k3, k4, ⟨⟨x1, x2, x3, x4, x5, x6⟩, x7, x8, x9⟩, ⟨⟨m1, m2, m3, m4, m5, m6⟩, m7, m8, m9⟩⟩
  · rw [if_pos z1, if_pos z1, if_pos z2, if_pos z2]
    exact ⟨rfl, H, nT, t, TT, b, n, h0⟩
  · have hd6 := hK.1.1
    have hv5 := hK.1.2.1
    have w1 : ¬ σ 0 2 = 0 := by rw [z1]; decide
    have w2 : ¬ σ 63 54 = -1 := by rw [m1]; exact nI_m1 (by omega)
    rw [if_neg w1, if_neg w1, if_neg w2, if_neg w2]
    refine ⟨x1.trans m1.symm, K, nT, tk, TT, b, n, ⟨⟨⟨?_, ?_, ?_, ?_, ?_⟩, fun i hi => ?_, fun d hd => ⟨?_, ?_, ?_, ?_⟩, fun d hd => ⟨?_, ?_, ?_⟩⟩, ⟨?_, fun i hi => ?_, fun d hd => ⟨?_, ?_, ?_, ?_⟩⟩, ?_, fun d hd => ⟨?_, ?_, ?_⟩, ⟨?_, ?_, ?_⟩, ?_⟩, hK, ?_, ⟨?_, ?_⟩, htk, ?_, ?_, Or.inr ⟨?_, K, tk, hK, htk, ⟨Nat.le_refl _, Nat.le_refl _⟩, fun _ _ => rfl, fun _ _ => rfl, ⟨⟨?_, ?_, ?_, ?_, ?_, ?_⟩, fun i hi => ?_, fun d hd => ?_, fun d hd => ?_⟩, ⟨⟨?_, ?_, ?_, ?_, ?_, ?_⟩, fun i hi => ?_, fun d hd => ?_, fun d hd => ?_⟩⟩⟩
    · simp [g_up, g_cp]; exact x1
    · simp [g_up, g_cp]; exact x2
    · simp [g_up, g_cp]; exact x3
    · simp [g_up, g_cp]; exact x4
    · simp [g_up, g_cp]; exact x5
    · simp [g_up, g_cp]; rw [cpy_hi (by omega), Nat.zero_add]; exact x7 i hi
    · simp [g_up, g_cp]; rw [cpy_hi (by omega), Nat.zero_add]; exact (x8 d hd).1
    · simp [g_up, g_cp]; rw [cpy_hi (by omega), Nat.zero_add]; exact (x8 d hd).2.1
    · simp [g_up, g_cp]; rw [cpy_hi (by omega), Nat.zero_add]; exact (x8 d hd).2.2.1
    · simp [g_up, g_cp]; rw [cpy_hi (by omega), Nat.zero_add]; exact (x8 d hd).2.2.2
    · simp [g_up, g_cp]; rw [cpy_hi (by omega), Nat.zero_add]; exact (x9 d hd).1
    · simp [g_up, g_cp]; rw [cpy_hi (by omega), Nat.zero_add]; exact (x9 d hd).2.1
    · simp [g_up, g_cp]; rw [cpy_hi (by omega), Nat.zero_add]; exact (x9 d hd).2.2
    · simp [g_up, g_cp]; exact m1
    · simp [g_up, g_cp]; rw [cpy_hi (by omega), Nat.zero_add]; exact m7 i hi
    · simp [g_up, g_cp]; exact ((d3 d (by omega)).1).trans (k3 d hd).symm
    · simp [g_up, g_cp]; rw [cpy_hi (by omega), Nat.zero_add]; exact (m8 d hd).1
    · simp [g_up, g_cp]; rw [cpy_hi (by omega)]; exact (m8 d hd).2.1
    · simp [g_up, g_cp]; rw [cpy_hi (by omega)]; exact (m8 d hd).2.2
    · simp [g_up, g_cp]; exact m2
    · simp [g_up, g_cp]; exact ((v2 d (by omega)).1).trans (k4 d hd).symm
    · simp [g_up, g_cp]; rw [cpy_hi (by omega), Nat.zero_add]; exact (m9 d hd).1
    · simp [g_up, g_cp]; rw [cpy_hi (by omega)]; exact (m9 d hd).2
    · simp [g_up, g_cp]; exact m3
    · simp [g_up, g_cp]; exact m5
    · simp [g_up, g_cp]; exact m4
    · simp [g_up, g_cp]; exact v4
    · refine h3.zs ?_ ?_ (fun i hi => ⟨?_, ?_⟩) ?_ ?_
      · simp [g_up, g_cp]
      · simp [g_up, g_cp]
      · simp only [g_up, g_cp]; repeat rw [if_neg (by omega)]
      · simp only [g_up, g_cp]; repeat rw [if_neg (by omega)]
      · simp [g_up, g_cp]
      · simp [g_up, g_cp]
    · simp [g_up, g_cp]; exact x6
    · simp [g_up, g_cp]; exact m6
    · exact h6.zs (by simp [g_up, g_cp]) (by simp [g_up, g_cp]) (by simp [g_up, g_cp]) (by simp [g_up, g_cp])
    · refine h7.zs (fun a z1 z2 => ?_) (fun a z1 z2 => ?_)
      · simp only [g_up, g_cp]; repeat rw [if_neg (by omega)]
      · simp only [g_up, g_cp]; repeat rw [if_neg (by omega)]
    · simp [g_up, g_cp]; exact z1
    · simp [g_up, g_cp]; exact x1
    · simp [g_up, g_cp]; exact x2
    · simp [g_up, g_cp]; exact x3
    · simp [g_up, g_cp]; exact x4
    · simp [g_up, g_cp]; exact x5
    · simp [g_up, g_cp]; exact x6
    · simp [g_up, g_cp]; exact x7 i hi
    · simp [g_up, g_cp]; exact x8 d hd
    · simp [g_up, g_cp]; exact x9 d hd
    · simp [g_up, g_cp]; exact m1
    · simp [g_up, g_cp]; exact m2
    · simp [g_up, g_cp]; exact m3
    · simp [g_up, g_cp]; exact m4
    · simp [g_up, g_cp]; exact m5
    · simp [g_up, g_cp]; exact m6
    · simp [g_up, g_cp]; exact m7 i hi
    · simp [g_up, g_cp]; exact m8 d hd
    · simp [g_up, g_cp]; exact m9 d hd
end JW
