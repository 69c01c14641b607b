/-! copy ON BOTH SIDES -/
section JZ
variable {σ : gS} {H : mH} {nT t : Nat} {TT : Nat → mT} {b : gF} {n : Nat}
theorem cpy_bad {i m : Int32} {z : Nat} (hz : z ≤ 40) (h1 : ¬ m < 0) (h2 : ¬ i < 0) (h3 : ¬ nI z - m < i) : g_in i 0 (nI z) ∧ g_in m 0 (nI z - i) := by
  obtain ⟨c, hc, rfl⟩ := nI_of h1
  obtain ⟨a, ha, rfl⟩ := nI_of h2
  have ez : (nI z).toInt = (z : Int) := nI_toInt (by omega)
  have ec : (nI c).toInt = (c : Int) := nI_toInt hc
  have ea : (nI a).toInt = (a : Int) := nI_toInt ha
  have es : (nI z - nI c).toInt = (z : Int) - c := by
    rw [Jvm.Kit.i32_sub (by rw [ez, ec]; omega) (by rw [ez, ec]; omega), ez, ec]
  rw [Int32.lt_iff_toInt_lt, es, ea] at h3
  have hac : a + c ≤ z := by omega
  rw [pk_sub (show a ≤ z by omega)]
  exact ⟨(n_0to (by omega) (by omega)).mpr (by omega), (n_0to (by omega) (by omega)).mpr (by omega)⟩
theorem jp_copy (h : IV σ H nT t TT b n) (tt i uu j m : Int32) : JP yX7_copy cX7_copy 8 yX8_copy cX8_copy 9 [.int tt, .int i, .int uu, .int j, .int m] σ := by
  have keep : IVx σ := ⟨H, nT, t, TT, b, n, h⟩
  by_cases c : g_in tt 0 3 ∧ g_in uu 0 3
  · obtain ⟨k, hk, rfl⟩ := n_of (M := 3) c.1 (by decide)
    obtain ⟨w, hw, rfl⟩ := n_of (M := 3) c.2 (by decide)
    have hk4 : k < 4 := by omega
    have hw4 : w < 4 := by omega
    have hsh := h.2.2.2.2.2.2.1
    obtain ⟨⟨zt, hzt, hzt40⟩, -⟩ := hsh.2 k hk4
    obtain ⟨⟨zu, hzu, hzu40⟩, -⟩ := hsh.2 w hw4
    have hzt' : σ (37 + 2 * k) 1 = nI zt := hzt
    have hzu' : σ (37 + 2 * w) 1 = nI zu := hzu
    have K1 := c_X7_copy σ hk4 hw4 i j m hzt' hzt40 hzu' hzu40
    have e1 : ¬ (1 : Int32) = 0 := by decide
    rcases hsh.1 k hk4 with ⟨a1, a2⟩ | ⟨a1, a2, a3, a4, z1, a5, a6, a7⟩
    · have a2' : σ (37 + 2 * k) 0 = -1 := a2
      rw [if_pos a2', if_pos a2'] at K1
      have K2 := c_X8_copyNo σ hk4 hw4 i j m (Or.inl a1)
      rw [if_pos a1] at K2
      exact JP.znz h (hX := 4) (hM := 4) (by decide) (by decide) K1 K2 rfl
    · have a2' : ¬ σ (37 + 2 * k) 0 = -1 := a2
      have a3' : σ 87 k = σ (37 + 2 * k) 0 := a3
      have a4' : σ 88 k = nI zt := a4.trans hzt
      have hz1 : z1 = zt := (n_eq (a := z1) (b := zt) (by omega) (by omega)).mp (a5.symm.trans hzt)
      rw [if_neg a2', if_neg a2'] at K1
      rcases hsh.1 w hw4 with ⟨b1, b2⟩ | ⟨b1, b2, b3, b4, z2, b5, b6, b7⟩
      · have b2' : σ (37 + 2 * w) 0 = -1 := b2
        rw [if_pos b2', if_pos b2'] at K1
        have K2 := c_X8_copyNo σ hk4 hw4 i j m (Or.inr (Or.inl b1))
        rw [a1, if_neg e1, if_pos b1] at K2
        exact JP.znz h (hX := 4) (hM := 4) (by decide) (by decide) K1 K2 rfl
      · have b2' : ¬ σ (37 + 2 * w) 0 = -1 := b2
        have b3' : σ 87 w = σ (37 + 2 * w) 0 := b3
        have b4' : σ 88 w = nI zu := b4.trans hzu
        have hz2 : z2 = zu := (n_eq (a := z2) (b := zu) (by omega) (by omega)).mp (b5.symm.trans hzu)
        rw [if_neg b2', if_neg b2'] at K1
        by_cases cs : σ (37 + 2 * k) 0 = σ (37 + 2 * w) 0
        · have cs' : σ 87 k = σ 87 w := by rw [a3', b3']; exact cs
          rw [if_pos cs, if_pos cs, hzt', hzu'] at K1
          by_cases cp : g_in i 0 (nI zt) ∧ g_in m 0 (nI zt - i)
          · rw [if_pos cp, if_pos cp] at K1
            by_cases cq : g_in j 0 (nI zu) ∧ g_in m 0 (nI zu - j)
            · rw [if_pos cq, if_pos cq] at K1
              obtain ⟨a, ha, rfl⟩ := n_of cp.1 (by omega)
              obtain ⟨b', hb', rfl⟩ := n_of cq.1 (by omega)
              have cp2 := cp.2
              have cq2 := cq.2
              rw [pk_sub ha] at cp2
              rw [pk_sub hb'] at cq2
              obtain ⟨e, he, rfl⟩ := n_of cp2 (by omega)
              have he2 : e ≤ zu - b' := (n_0to (by omega) (by omega)).mp cq2
              rw [ix_nI (by omega), ix_nI (by omega), ix_nI (by omega)] at K1
              refine ⟨4, _, by decide, K1, fun rv s1 hq => ?_⟩
              obtain ⟨q1, q2⟩ := hq
              have S : ∀ x, x ≠ 38 + 2 * w → s1 x = σ x := fun x hx => by rw [q2]; exact g_cp_ne hx
              refine ⟨4, _, nI e, by decide, q1, c_X8_copyOk s1 hk4 hw4 (a := a) (b := b') (c := e) (zt := zt) (zu := zu) (by omega) (by omega) (by rw [S 88 (by omega)]; exact a4') hzt40 (by rw [S 88 (by omega)]; exact b4') hzu40 (by omega) (by omega) (by rw [S 86 (by omega), a1]; exact e1) (by rw [S 86 (by omega), b1]; exact e1) (by rw [S 87 (by omega)]; exact cs'), fun rv2 s2 hr => ⟨hr.1, H, nT, t, TT, b, n, ?_⟩⟩
              obtain ⟨-, r1, r2⟩ := hr
              have e38 : s2 (38 + 2 * w) = va_cpy (σ (38 + 2 * k)) (σ (38 + 2 * w)) a b' e := by
                rw [r1 _ (by omega), q2]
                exact g_cp_same _ _ _ _ _ _
              have e37 : s2 (37 + 2 * w) = σ (37 + 2 * w) := by rw [r1 _ (by omega), S _ (by omega)]
              refine h.zshs (fun x z1 z2 => (r1 x (by omega)).trans (S x (by omega))) (hsh.zone hw4 (fun x hx hxw => ⟨(r1 _ (by omega)).trans (S _ (by omega)), (r1 _ (by omega)).trans (S _ (by omega))⟩) (fun x _ => ⟨by rw [r1 86 (by decide), S 86 (by omega)], by rw [r1 87 (by decide), S 87 (by omega)], by rw [r1 88 (by decide), S 88 (by omega)]⟩) (fun x y hx hxw hy => by rw [r2, if_neg (by omega), S 89 (by omega)]) ?_ ?_ ?_)
              · unfold x_so x_sz
                rw [e37, r1 86 (by decide), S 86 (by omega), r1 87 (by decide), S 87 (by omega), r1 88 (by decide), S 88 (by omega)]
                refine Or.inr ⟨b1, b2', b3', b4'.trans hzu'.symm, zu, hzu', hzu40, fun x hx => ?_⟩
                rw [r2, e38, S 89 (by omega)]
                by_cases y : b' ≤ x ∧ x < b' + e
                · rw [if_pos (by omega), pk_cpy_in y.1 y.2, show 40 * w + x - (40 * w + b') + (40 * k + a) = 40 * k + (a + (x - b')) by omega]
                  exact a7 _ (by omega)
                · rw [if_neg (by omega), pk_cpy_out (by omega)]
                  exact b7 x (by omega)
              · refine ⟨zu, ?_, hzu40⟩
                unfold x_sz
                rw [e37]
                exact hzu'
              · unfold x_so
                rw [e37]
                exact (hsh.2 w hw4).2
            · rw [if_neg cq, if_neg cq] at K1
              have hbad : m < 0 ∨ i < 0 ∨ j < 0 ∨ σ 88 k - m < i ∨ σ 88 w - m < j := by
                by_cases y1 : m < 0
                · exact Or.inl y1
                · by_cases y2 : j < 0
                  · exact Or.inr (Or.inr (Or.inl y2))
                  · by_cases y3 : nI zu - m < j
                    · exact Or.inr (Or.inr (Or.inr (Or.inr (by rw [b4']; exact y3))))
                    · exact absurd (cpy_bad hzu40 y1 y2 y3) cq
              have K2 := c_X8_copyBad σ hk4 hw4 i j m hbad
              rw [a1, b1, if_neg e1, if_neg e1, if_pos cs'] at K2
              exact JP.znz h (hX := 4) (hM := 4) (by decide) (by decide) K1 K2 rfl
          · rw [if_neg cp, if_neg cp] at K1
            have hbad : m < 0 ∨ i < 0 ∨ j < 0 ∨ σ 88 k - m < i ∨ σ 88 w - m < j := by
              by_cases y1 : m < 0
              · exact Or.inl y1
              · by_cases y2 : i < 0
                · exact Or.inr (Or.inl y2)
                · by_cases y3 : nI zt - m < i
                  · exact Or.inr (Or.inr (Or.inr (Or.inl (by rw [a4']; exact y3))))
                  · exact absurd (cpy_bad hzt40 y1 y2 y3) cp
            have K2 := c_X8_copyBad σ hk4 hw4 i j m hbad
            rw [a1, b1, if_neg e1, if_neg e1, if_pos cs'] at K2
            exact JP.znz h (hX := 4) (hM := 4) (by decide) (by decide) K1 K2 rfl
        · have cs' : ¬ σ 87 k = σ 87 w := by rw [a3', b3']; exact cs
          rw [if_neg cs, if_neg cs] at K1
          have K2 := c_X8_copyNo σ hk4 hw4 i j m (Or.inr (Or.inr cs'))
          rw [a1, b1, if_neg e1, if_neg e1, if_neg cs'] at K2
          exact JP.znz h (hX := 4) (hM := 4) (by decide) (by decide) K1 K2 rfl
  · exact JP.znz h (hX := 4) (hM := 4) (by decide) (by decide) (c_X7_copyOut σ tt i uu j m c) (c_X8_copyOut σ tt i uu j m c) rfl
end JZ
