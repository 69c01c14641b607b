/-! ROWS over the layer's cells in raw worlds; the reference's constructor -/
section BL
variable {X : gX} {G : gG} {K : List Nat} {σ : gS} {A : Nat → Prop} {nL : Nat} {cc : ByteArray} {own : Nat} {Rm : Room} {Q : State → Prop} {L : List (Nat × Value)} {st : List Value} {mc ms pc : Nat}
theorem B_Lget (C : bCC X G.2.1 (g_tys G) A nL cc (g_RX own) Rm) {ix k : Nat} {e : Nat × Nat × Nat} {ts : List Nat} {t : Nat} (F : g_FL (g_RX own) (ix, e)) (hs : g_sh k = .inl (e.1, ts)) (ht : ts[e.2.1]? = some t) (hk : k ∈ K) (d : decode cc pc = .ok (.getfield ix, 3)) (kk : bV X G.2.1 A nL Q (g_wl G K σ) L (g_tr G.1 (g_lv σ k e.2.1 t) :: st) mc ms (pc + 3)) : bV X G.2.1 A nL Q (g_wl G K σ) L (.ref (G.1 k) :: st) mc ms pc := by
  obtain ⟨q0, g1, g2⟩ := g_at (G := G) (σ := σ) hk
  have g3 : (g_wl G K σ)[q0]? = some (G.1 k, .inr (e.1, g_fs G.1 σ k 0 ts)) := by rw [g2, g_en, hs]
  have hv := g_fs_get (ad := G.1) (σ := σ) (k := k) (i := 0) ht
  rw [Nat.zero_add] at hv
  exact B_get C q0 F g3 hv d kk
theorem B_Lput (C : bCC X G.2.1 (g_tys G) A nL cc (g_RX own) Rm) (hKn : K.Nodup) {ix k j : Nat} {ci : Nat} {ts : List Nat} {x : Int32} (F : g_FL (g_RX own) (ix, ci, j, 0)) (hs : g_sh k = .inl (ci, ts)) (ht : ts[j]? = some 0) (hk : k ∈ K) (d : decode cc pc = .ok (.putfield ix, 3)) (kk : bV X G.2.1 A nL Q (g_wl G K (g_up σ k j x)) L st mc ms (pc + 3)) : bV X G.2.1 A nL Q (g_wl G K σ) L (.int x :: .ref (G.1 k) :: st) mc ms pc := by
  obtain ⟨p, e0, R, s, m, args, below, meth, c, l⟩ := X
  obtain ⟨hx, hb, hml, hown, hts, hK, hA, hR⟩ := C
  obtain ⟨Cn, T, N, ty0, f1, f2, f3, f4, f5, f6, f7, f8⟩ := F
  intro H locs ls hP hD hS h
  have hGD : g_D G K := b_gD (ws := []) hD hKn
  obtain ⟨q0, g1, g2⟩ := g_at (G := G) (σ := σ) hk
  have g3 : (g_wl G K σ)[q0]? = some (G.1 k, .inr (ci, g_fs G.1 σ k 0 ts)) := by rw [g2, g_en, hs]
  have hse := g_fs_set (ad := G.1) (σ := σ) (σ' := g_up σ k j x) (k := k) (i := 0) ht (fun b hb => u_ne (by omega))
  rw [Nat.zero_add] at hse
  have hlv : g_tr G.1 (g_lv (g_up σ k j x) k j 0) = .int x := by
    show Value.int (g_up σ k j x k j) = .int x
    rw [u_eq]
  rw [hlv] at hse
  obtain ⟨f9, f10⟩ := f8.resolve_left (fun z => absurd z (by decide : ¬ (0 : Nat) = 4))
  have hlt : j < (g_fs G.1 σ k 0 ts).length := by rw [g_fs_len]; exact (List.getElem?_eq_some_iff.mp ht).1
  refine va_put (D := G.2.1) (v := .int x) (ty := .int) (C := Cn) (T := T) (N := N) (ref := Cn) (index := ix) hx hb hts f3 ty0 f6 f7 hown hK hP hD hS q0 g3 f1 j f2 (hts _ f4) (by rw [f5]; exact fun _ h9 => h9) f9 (by rw [f6 _ f2, f10]; rfl) rfl rfl hlt d (fun H1 locs1 hP1 hD1 hS1 => ?_)
  rw [hse] at hP1 hD1
  have hen : (.inr (ci, g_fs G.1 (g_up σ k j x) k 0 ts) : va_E) = g_en G (g_up σ k j x) k := by rw [g_en, hs]
  rw [hen, g_wl_set hGD g1 (fun a ha => g_up_ne ha)] at hP1 hD1
  exact kk H1 locs1 ls hP1 hD1 hS1 h
theorem B_Liast (C : bCC X G.2.1 (g_tys G) A nL cc (g_RX own) Rm) (hKn : K.Nodup) {k n : Nat} {i x : Int32} (hs : g_sh k = .inr (0, n)) (hk : k ∈ K) (hin : vp_in i n) (d : decode cc pc = .ok (.iastore, 1)) (kk : bV X G.2.1 A nL Q (g_wl G K (g_up σ k i.toNatClampNeg x)) L st mc ms (pc + 1)) : bV X G.2.1 A nL Q (g_wl G K σ) L (.int x :: .int i :: .ref (G.1 k) :: st) mc ms pc := by
  obtain ⟨p, e0, R, s, m, args, below, meth, c, l⟩ := X
  obtain ⟨hx, hb, hml, hown, hts, hK, hA, hR⟩ := C
  intro H locs ls hP hD hS h
  have hGD : g_D G K := b_gD (ws := []) hD hKn
  obtain ⟨q0, g1, g2⟩ := g_at (G := G) (σ := σ) hk
  have g3 : (g_wl G K σ)[q0]? = some (G.1 k, .inl (G.2.2 0, n, .inl (σ k))) := by rw [g2, g_en, hs]; rfl
  refine va_iast hx hb hK hP hD hS q0 0 g3 rfl hin d (fun H1 locs1 hP1 hD1 hS1 => ?_)
  have hen : (.inl (G.2.2 0, n, .inl (upd (σ k) i.toNatClampNeg x)) : va_E) = g_en G (g_up σ k i.toNatClampNeg x) k := by
    rw [g_en, hs, g_up_same]
    rfl
  rw [hen, g_wl_set hGD g1 (fun a ha => g_up_ne ha)] at hP1 hD1
  exact kk H1 locs1 ls hP1 hD1 hS1 h
end BL

def b_KM : List Nat := [63, 64, 65, 66, 67, 68, 69, 70, 71, 72, 73, 74, 75, 76, 77, 78, 79, 80, 81, 82, 83, 84, 85, 86, 87, 88, 89]
def b_adM (ad0 : Nat → Nat) (vs : List Nat) : Nat → Nat := fun k => if k < 63 then 0 else if k < 90 then vs.getD (k - 63) 0 else ad0 k
def b_GM (G : gG) (ad0 : Nat → Nat) (vs : List Nat) : gG := (b_adM ad0 vs, G.2)
def b_sM : gS := fun k j => if k = 63 then (if j = 9 then 2 else if j = 54 then -1 else 0) else 0
def b_by : List Int32 := [102, 97, 108, 108, 115, 32, 114, 97, 116, 101, 32, 42, 32, 114, 97, 105, 110, 32, 59, 32, 104, 97, 114, 109, 115, 32, 115, 105, 122, 101, 32, 42, 32, 50, 32, 59, 32, 119, 97, 107, 101, 115, 32, 53, 32, 59, 32, 32]
theorem kM_in : ∀ k, kM k = true → k ∈ b_KM := fun k h => by
  have hk : k < 90 := by
    simp [kM] at h
    exact h.2
  exact (by decide +kernel : ∀ k, k < 90 → kM k = true → k ∈ b_KM) k hk h
theorem KM_nd : b_KM.Nodup := by decide +kernel
theorem sp_step {s s' : gS} {f : Nat → Int32} {p : Nat} (hP : ∀ i, i < p → s 64 i = f i) (h8 : s' 64 p = f p ∧ s' 64 (p + 1) = f (p + 1) ∧ s' 64 (p + 2) = f (p + 2) ∧ s' 64 (p + 3) = f (p + 3) ∧ s' 64 (p + 4) = f (p + 4) ∧ s' 64 (p + 5) = f (p + 5) ∧ s' 64 (p + 6) = f (p + 6) ∧ s' 64 (p + 7) = f (p + 7)) (hf : ∀ j, (j < p ∨ p + 8 ≤ j) → s' 64 j = s 64 j) : ∀ i, i < p + 8 → s' 64 i = f i := fun i hi => by
  by_cases h : i < p
  · exact (hf i (Or.inl h)).trans (hP i h)
  · obtain ⟨a0, a1, a2, a3, a4, a5, a6, a7⟩ := h8
    rcases (show i = p ∨ i = p + 1 ∨ i = p + 2 ∨ i = p + 3 ∨ i = p + 4 ∨ i = p + 5 ∨ i = p + 6 ∨ i = p + 7 by omega) with rfl | rfl | rfl | rfl | rfl | rfl | rfl | rfl
    · exact a0
    · exact a1
    · exact a2
    · exact a3
    · exact a4
    · exact a5
    · exact a6
    · exact a7
theorem B_steq {X : gX} {D : va_G} {A : Nat → Prop} {nL : Nat} {Q : State → Prop} {ws : va_W} {L : List (Nat × Value)} {st st' : List Value} {mc ms pc : Nat} (e : st = st') (kk : bV X D A nL Q ws L st' mc ms pc) : bV X D A nL Q ws L st mc ms pc := by
  rw [e]
  exact kk
theorem B_num {X : gX} {D : va_G} {A : Nat → Prop} {nL : Nat} {Q : State → Prop} {ws : va_W} {L : List (Nat × Value)} {st : List Value} {mc ms mc' ms' pc : Nat} (e1 : mc = mc') (e2 : ms = ms') (kk : bV X D A nL Q ws L st mc' ms' pc) : bV X D A nL Q ws L st mc ms pc := by
  rw [e1, e2]
  exact kk
/-- what is so of the reference's cells, behind its constructor -/
def FM (σ : gS) : Prop := (∀ j, j ≠ 3 → j ≠ 9 → j ≠ 54 → σ 63 j = 0) ∧ σ 63 3 = 1 ∧ σ 63 9 = 2 ∧ σ 63 54 = -1 ∧ (∀ i, i < 48 → σ 64 i = b_by.getD i 0) ∧ σ 65 0 = 48 ∧ ∀ a, 66 ≤ a → ∀ j, σ a j = 0
set_option maxHeartbeats 8000000 in
set_option maxRecDepth 100000 in
theorem k_b8 (G : gG) (ad0 : Nat → Nat) (q : Nat) : bM yX8_init cX8_init 1 8 26 251748 G.2.1 (g_tys G) ad0 [] q (.inr (8, [.int 0, .null, .null, .int 0, .int 0, .null, .int 0, .null, .int 0, .int 0, .int 0, .null, .null, .null, .null, .int 0, .null, .null, .null, .int 0, .int 0, .int 0, .int 0, .int 0, .int 0, .int 0, .int 0, .int 0, .int 0, .int 0, .int 0, .long 0, .int 0, .int 0, .int 0, .null, .null, .null, .null, .int 0, .int 0, .int 0, .int 0, .null, .int 0, .null, .int 0, .int 0, .null, .int 0, .null, .null, .null, .null, .int 0, .int 0, .int 0, .int 0, .int 0, .int 0, .null, .null, .null, .null])) (fun W => ∃ (ad : Nat → Nat) (σ : gS), ad 63 = q ∧ (∀ k, 90 ≤ k → ad k = ad0 k) ∧ FM σ ∧ W = g_wl (ad, G.2) b_KM σ) := by
  refine bM.bof (own := 8) (L := [(0, .ref q)]) (by decide) rfl rfl (Nat.le_of_ble_eq_true rfl) rfl (fun X A C I E => ?_)
  refine B_aload C 0 dX8_init_0 rfl rfl ?_
  refine B_obj C dX8_init_1 wo_X8 wo_i wo_c (Nat.le_of_ble_eq_true rfl) (Nat.le_of_ble_eq_true rfl) ?_
  refine B_aload C 0 dX8_init_4 rfl rfl ?_
  refine B_sipush C (v := 960) dX8_init_5 rfl ?_
  refine B_newa C (N := 960) 0 wa_int rfl rfl ra_int rfl (by decide) rfl (Nat.le_of_ble_eq_true rfl) ⟨Nat.le_of_ble_eq_true rfl, Nat.le_of_ble_eq_true rfl⟩ dX8_init_8 (fun q1 => ?_)
  refine B_putF C I ff_X8_13 (by exact Nat.le_of_ble_eq_true rfl) dX8_init_10 ?_
  refine B_weq (ws' := [(q, .inr (8, [.int 0, .ref q1, .null, .int 0, .int 0, .null, .int 0, .null, .int 0, .int 0, .int 0, .null, .null, .null, .null, .int 0, .null, .null, .null, .int 0, .int 0, .int 0, .int 0, .int 0, .int 0, .int 0, .int 0, .int 0, .int 0, .int 0, .int 0, .long 0, .int 0, .int 0, .int 0, .null, .null, .null, .null, .int 0, .int 0, .int 0, .int 0, .null, .int 0, .null, .int 0, .int 0, .null, .int 0, .null, .null, .null, .null, .int 0, .int 0, .int 0, .int 0, .int 0, .int 0, .null, .null, .null, .null])), (q1, .inl (G.2.2 0, 960, .inl (fun _ => 0)))]) rfl ?_
  refine B_num (mc' := 1) (ms' := 960) rfl rfl ?_
  refine B_aload C 0 dX8_init_13 rfl rfl ?_
  refine B_bipush C (v := 6) dX8_init_14 rfl ?_
  refine B_newa C (N := 6) 0 wa_int rfl rfl ra_int rfl (by decide) rfl (Nat.le_of_ble_eq_true rfl) ⟨Nat.le_of_ble_eq_true rfl, Nat.le_of_ble_eq_true rfl⟩ dX8_init_16 (fun q2 => ?_)
  refine B_putF C I ff_X8_17 (by exact Nat.le_of_ble_eq_true rfl) dX8_init_18 ?_
  refine B_weq (ws' := [(q, .inr (8, [.int 0, .ref q1, .ref q2, .int 0, .int 0, .null, .int 0, .null, .int 0, .int 0, .int 0, .null, .null, .null, .null, .int 0, .null, .null, .null, .int 0, .int 0, .int 0, .int 0, .int 0, .int 0, .int 0, .int 0, .int 0, .int 0, .int 0, .int 0, .long 0, .int 0, .int 0, .int 0, .null, .null, .null, .null, .int 0, .int 0, .int 0, .int 0, .null, .int 0, .null, .int 0, .int 0, .null, .int 0, .null, .null, .null, .null, .int 0, .int 0, .int 0, .int 0, .int 0, .int 0, .null, .null, .null, .null])), (q1, .inl (G.2.2 0, 960, .inl (fun _ => 0))), (q2, .inl (G.2.2 0, 6, .inl (fun _ => 0)))]) rfl ?_
  refine B_num (mc' := 2) (ms' := 966) rfl rfl ?_
  refine B_aload C 0 dX8_init_21 rfl rfl ?_
  refine B_sipush C (v := 160) dX8_init_22 rfl ?_
  refine B_newa C (N := 160) 0 wa_int rfl rfl ra_int rfl (by decide) rfl (Nat.le_of_ble_eq_true rfl) ⟨Nat.le_of_ble_eq_true rfl, Nat.le_of_ble_eq_true rfl⟩ dX8_init_25 (fun q3 => ?_)
  refine B_putF C I ff_X8_20 (by exact Nat.le_of_ble_eq_true rfl) dX8_init_27 ?_
  refine B_weq (ws' := [(q, .inr (8, [.int 0, .ref q1, .ref q2, .int 0, .int 0, .ref q3, .int 0, .null, .int 0, .int 0, .int 0, .null, .null, .null, .null, .int 0, .null, .null, .null, .int 0, .int 0, .int 0, .int 0, .int 0, .int 0, .int 0, .int 0, .int 0, .int 0, .int 0, .int 0, .long 0, .int 0, .int 0, .int 0, .null, .null, .null, .null, .int 0, .int 0, .int 0, .int 0, .null, .int 0, .null, .int 0, .int 0, .null, .int 0, .null, .null, .null, .null, .int 0, .int 0, .int 0, .int 0, .int 0, .int 0, .null, .null, .null, .null])), (q1, .inl (G.2.2 0, 960, .inl (fun _ => 0))), (q2, .inl (G.2.2 0, 6, .inl (fun _ => 0))), (q3, .inl (G.2.2 0, 160, .inl (fun _ => 0)))]) rfl ?_
  refine B_num (mc' := 3) (ms' := 1126) rfl rfl ?_
  refine B_aload C 0 dX8_init_30 rfl rfl ?_
  refine B_bipush C (v := 24) dX8_init_31 rfl ?_
  refine B_newa C (N := 24) 0 wa_int rfl rfl ra_int rfl (by decide) rfl (Nat.le_of_ble_eq_true rfl) ⟨Nat.le_of_ble_eq_true rfl, Nat.le_of_ble_eq_true rfl⟩ dX8_init_33 (fun q4 => ?_)
  refine B_putF C I ff_X8_23 (by exact Nat.le_of_ble_eq_true rfl) dX8_init_35 ?_
  refine B_weq (ws' := [(q, .inr (8, [.int 0, .ref q1, .ref q2, .int 0, .int 0, .ref q3, .int 0, .ref q4, .int 0, .int 0, .int 0, .null, .null, .null, .null, .int 0, .null, .null, .null, .int 0, .int 0, .int 0, .int 0, .int 0, .int 0, .int 0, .int 0, .int 0, .int 0, .int 0, .int 0, .long 0, .int 0, .int 0, .int 0, .null, .null, .null, .null, .int 0, .int 0, .int 0, .int 0, .null, .int 0, .null, .int 0, .int 0, .null, .int 0, .null, .null, .null, .null, .int 0, .int 0, .int 0, .int 0, .int 0, .int 0, .null, .null, .null, .null])), (q1, .inl (G.2.2 0, 960, .inl (fun _ => 0))), (q2, .inl (G.2.2 0, 6, .inl (fun _ => 0))), (q3, .inl (G.2.2 0, 160, .inl (fun _ => 0))), (q4, .inl (G.2.2 0, 24, .inl (fun _ => 0)))]) rfl ?_
  refine B_num (mc' := 4) (ms' := 1150) rfl rfl ?_
  refine B_aload C 0 dX8_init_38 rfl rfl ?_
  refine B_iconst C (v := 2) dX8_init_39 rfl ?_
  refine B_put C fl_X8_26 (by decide) (by exact Nat.le_of_ble_eq_true rfl) rfl rfl dX8_init_40 ?_
  refine B_weq (ws' := [(q, .inr (8, [.int 0, .ref q1, .ref q2, .int 0, .int 0, .ref q3, .int 0, .ref q4, .int 0, .int 2, .int 0, .null, .null, .null, .null, .int 0, .null, .null, .null, .int 0, .int 0, .int 0, .int 0, .int 0, .int 0, .int 0, .int 0, .int 0, .int 0, .int 0, .int 0, .long 0, .int 0, .int 0, .int 0, .null, .null, .null, .null, .int 0, .int 0, .int 0, .int 0, .null, .int 0, .null, .int 0, .int 0, .null, .int 0, .null, .null, .null, .null, .int 0, .int 0, .int 0, .int 0, .int 0, .int 0, .null, .null, .null, .null])), (q1, .inl (G.2.2 0, 960, .inl (fun _ => 0))), (q2, .inl (G.2.2 0, 6, .inl (fun _ => 0))), (q3, .inl (G.2.2 0, 160, .inl (fun _ => 0))), (q4, .inl (G.2.2 0, 24, .inl (fun _ => 0)))]) rfl ?_
  refine B_num (mc' := 4) (ms' := 1150) rfl rfl ?_
  refine B_aload C 0 dX8_init_43 rfl rfl ?_
  refine B_bipush C (v := 6) dX8_init_44 rfl ?_
  refine B_newa C (N := 6) 0 wa_int rfl rfl ra_int rfl (by decide) rfl (Nat.le_of_ble_eq_true rfl) ⟨Nat.le_of_ble_eq_true rfl, Nat.le_of_ble_eq_true rfl⟩ dX8_init_46 (fun q5 => ?_)
  refine B_putF C I ff_X8_29 (by exact Nat.le_of_ble_eq_true rfl) dX8_init_48 ?_
  refine B_weq (ws' := [(q, .inr (8, [.int 0, .ref q1, .ref q2, .int 0, .int 0, .ref q3, .int 0, .ref q4, .int 0, .int 2, .int 0, .ref q5, .null, .null, .null, .int 0, .null, .null, .null, .int 0, .int 0, .int 0, .int 0, .int 0, .int 0, .int 0, .int 0, .int 0, .int 0, .int 0, .int 0, .long 0, .int 0, .int 0, .int 0, .null, .null, .null, .null, .int 0, .int 0, .int 0, .int 0, .null, .int 0, .null, .int 0, .int 0, .null, .int 0, .null, .null, .null, .null, .int 0, .int 0, .int 0, .int 0, .int 0, .int 0, .null, .null, .null, .null])), (q1, .inl (G.2.2 0, 960, .inl (fun _ => 0))), (q2, .inl (G.2.2 0, 6, .inl (fun _ => 0))), (q3, .inl (G.2.2 0, 160, .inl (fun _ => 0))), (q4, .inl (G.2.2 0, 24, .inl (fun _ => 0))), (q5, .inl (G.2.2 0, 6, .inl (fun _ => 0)))]) rfl ?_
  refine B_num (mc' := 5) (ms' := 1156) rfl rfl ?_
  refine B_aload C 0 dX8_init_51 rfl rfl ?_
  refine B_bipush C (v := 6) dX8_init_52 rfl ?_
  refine B_newa C (N := 6) 0 wa_int rfl rfl ra_int rfl (by decide) rfl (Nat.le_of_ble_eq_true rfl) ⟨Nat.le_of_ble_eq_true rfl, Nat.le_of_ble_eq_true rfl⟩ dX8_init_54 (fun q6 => ?_)
  refine B_putF C I ff_X8_32 (by exact Nat.le_of_ble_eq_true rfl) dX8_init_56 ?_
  refine B_weq (ws' := [(q, .inr (8, [.int 0, .ref q1, .ref q2, .int 0, .int 0, .ref q3, .int 0, .ref q4, .int 0, .int 2, .int 0, .ref q5, .ref q6, .null, .null, .int 0, .null, .null, .null, .int 0, .int 0, .int 0, .int 0, .int 0, .int 0, .int 0, .int 0, .int 0, .int 0, .int 0, .int 0, .long 0, .int 0, .int 0, .int 0, .null, .null, .null, .null, .int 0, .int 0, .int 0, .int 0, .null, .int 0, .null, .int 0, .int 0, .null, .int 0, .null, .null, .null, .null, .int 0, .int 0, .int 0, .int 0, .int 0, .int 0, .null, .null, .null, .null])), (q1, .inl (G.2.2 0, 960, .inl (fun _ => 0))), (q2, .inl (G.2.2 0, 6, .inl (fun _ => 0))), (q3, .inl (G.2.2 0, 160, .inl (fun _ => 0))), (q4, .inl (G.2.2 0, 24, .inl (fun _ => 0))), (q5, .inl (G.2.2 0, 6, .inl (fun _ => 0))), (q6, .inl (G.2.2 0, 6, .inl (fun _ => 0)))]) rfl ?_
  refine B_num (mc' := 6) (ms' := 1162) rfl rfl ?_
  refine B_aload C 0 dX8_init_59 rfl rfl ?_
  refine B_bipush C (v := 6) dX8_init_60 rfl ?_
  refine B_newa C (N := 6) 0 wa_int rfl rfl ra_int rfl (by decide) rfl (Nat.le_of_ble_eq_true rfl) ⟨Nat.le_of_ble_eq_true rfl, Nat.le_of_ble_eq_true rfl⟩ dX8_init_62 (fun q7 => ?_)
  refine B_putF C I ff_X8_35 (by exact Nat.le_of_ble_eq_true rfl) dX8_init_64 ?_
  refine B_weq (ws' := [(q, .inr (8, [.int 0, .ref q1, .ref q2, .int 0, .int 0, .ref q3, .int 0, .ref q4, .int 0, .int 2, .int 0, .ref q5, .ref q6, .ref q7, .null, .int 0, .null, .null, .null, .int 0, .int 0, .int 0, .int 0, .int 0, .int 0, .int 0, .int 0, .int 0, .int 0, .int 0, .int 0, .long 0, .int 0, .int 0, .int 0, .null, .null, .null, .null, .int 0, .int 0, .int 0, .int 0, .null, .int 0, .null, .int 0, .int 0, .null, .int 0, .null, .null, .null, .null, .int 0, .int 0, .int 0, .int 0, .int 0, .int 0, .null, .null, .null, .null])), (q1, .inl (G.2.2 0, 960, .inl (fun _ => 0))), (q2, .inl (G.2.2 0, 6, .inl (fun _ => 0))), (q3, .inl (G.2.2 0, 160, .inl (fun _ => 0))), (q4, .inl (G.2.2 0, 24, .inl (fun _ => 0))), (q5, .inl (G.2.2 0, 6, .inl (fun _ => 0))), (q6, .inl (G.2.2 0, 6, .inl (fun _ => 0))), (q7, .inl (G.2.2 0, 6, .inl (fun _ => 0)))]) rfl ?_
  refine B_num (mc' := 7) (ms' := 1168) rfl rfl ?_
  refine B_aload C 0 dX8_init_67 rfl rfl ?_
  refine B_bipush C (v := 6) dX8_init_68 rfl ?_
  refine B_newa C (N := 6) 0 wa_int rfl rfl ra_int rfl (by decide) rfl (Nat.le_of_ble_eq_true rfl) ⟨Nat.le_of_ble_eq_true rfl, Nat.le_of_ble_eq_true rfl⟩ dX8_init_70 (fun q8 => ?_)
  refine B_putF C I ff_X8_38 (by exact Nat.le_of_ble_eq_true rfl) dX8_init_72 ?_
  refine B_weq (ws' := [(q, .inr (8, [.int 0, .ref q1, .ref q2, .int 0, .int 0, .ref q3, .int 0, .ref q4, .int 0, .int 2, .int 0, .ref q5, .ref q6, .ref q7, .ref q8, .int 0, .null, .null, .null, .int 0, .int 0, .int 0, .int 0, .int 0, .int 0, .int 0, .int 0, .int 0, .int 0, .int 0, .int 0, .long 0, .int 0, .int 0, .int 0, .null, .null, .null, .null, .int 0, .int 0, .int 0, .int 0, .null, .int 0, .null, .int 0, .int 0, .null, .int 0, .null, .null, .null, .null, .int 0, .int 0, .int 0, .int 0, .int 0, .int 0, .null, .null, .null, .null])), (q1, .inl (G.2.2 0, 960, .inl (fun _ => 0))), (q2, .inl (G.2.2 0, 6, .inl (fun _ => 0))), (q3, .inl (G.2.2 0, 160, .inl (fun _ => 0))), (q4, .inl (G.2.2 0, 24, .inl (fun _ => 0))), (q5, .inl (G.2.2 0, 6, .inl (fun _ => 0))), (q6, .inl (G.2.2 0, 6, .inl (fun _ => 0))), (q7, .inl (G.2.2 0, 6, .inl (fun _ => 0))), (q8, .inl (G.2.2 0, 6, .inl (fun _ => 0)))]) rfl ?_
  refine B_num (mc' := 8) (ms' := 1174) rfl rfl ?_
  refine B_aload C 0 dX8_init_75 rfl rfl ?_
  refine B_iconst C (v := 5) dX8_init_76 rfl ?_
  refine B_newa C (N := 5) 0 wa_int rfl rfl ra_int rfl (by decide) rfl (Nat.le_of_ble_eq_true rfl) ⟨Nat.le_of_ble_eq_true rfl, Nat.le_of_ble_eq_true rfl⟩ dX8_init_77 (fun q9 => ?_)
  refine B_putF C I ff_X8_41 (by exact Nat.le_of_ble_eq_true rfl) dX8_init_79 ?_
  refine B_weq (ws' := [(q, .inr (8, [.int 0, .ref q1, .ref q2, .int 0, .int 0, .ref q3, .int 0, .ref q4, .int 0, .int 2, .int 0, .ref q5, .ref q6, .ref q7, .ref q8, .int 0, .ref q9, .null, .null, .int 0, .int 0, .int 0, .int 0, .int 0, .int 0, .int 0, .int 0, .int 0, .int 0, .int 0, .int 0, .long 0, .int 0, .int 0, .int 0, .null, .null, .null, .null, .int 0, .int 0, .int 0, .int 0, .null, .int 0, .null, .int 0, .int 0, .null, .int 0, .null, .null, .null, .null, .int 0, .int 0, .int 0, .int 0, .int 0, .int 0, .null, .null, .null, .null])), (q1, .inl (G.2.2 0, 960, .inl (fun _ => 0))), (q2, .inl (G.2.2 0, 6, .inl (fun _ => 0))), (q3, .inl (G.2.2 0, 160, .inl (fun _ => 0))), (q4, .inl (G.2.2 0, 24, .inl (fun _ => 0))), (q5, .inl (G.2.2 0, 6, .inl (fun _ => 0))), (q6, .inl (G.2.2 0, 6, .inl (fun _ => 0))), (q7, .inl (G.2.2 0, 6, .inl (fun _ => 0))), (q8, .inl (G.2.2 0, 6, .inl (fun _ => 0))), (q9, .inl (G.2.2 0, 5, .inl (fun _ => 0)))]) rfl ?_
  refine B_num (mc' := 9) (ms' := 1179) rfl rfl ?_
  refine B_aload C 0 dX8_init_82 rfl rfl ?_
  refine B_iconst C (v := 5) dX8_init_83 rfl ?_
  refine B_newa C (N := 5) 0 wa_int rfl rfl ra_int rfl (by decide) rfl (Nat.le_of_ble_eq_true rfl) ⟨Nat.le_of_ble_eq_true rfl, Nat.le_of_ble_eq_true rfl⟩ dX8_init_84 (fun q10 => ?_)
  refine B_putF C I ff_X8_44 (by exact Nat.le_of_ble_eq_true rfl) dX8_init_86 ?_
  refine B_weq (ws' := [(q, .inr (8, [.int 0, .ref q1, .ref q2, .int 0, .int 0, .ref q3, .int 0, .ref q4, .int 0, .int 2, .int 0, .ref q5, .ref q6, .ref q7, .ref q8, .int 0, .ref q9, .ref q10, .null, .int 0, .int 0, .int 0, .int 0, .int 0, .int 0, .int 0, .int 0, .int 0, .int 0, .int 0, .int 0, .long 0, .int 0, .int 0, .int 0, .null, .null, .null, .null, .int 0, .int 0, .int 0, .int 0, .null, .int 0, .null, .int 0, .int 0, .null, .int 0, .null, .null, .null, .null, .int 0, .int 0, .int 0, .int 0, .int 0, .int 0, .null, .null, .null, .null])), (q1, .inl (G.2.2 0, 960, .inl (fun _ => 0))), (q2, .inl (G.2.2 0, 6, .inl (fun _ => 0))), (q3, .inl (G.2.2 0, 160, .inl (fun _ => 0))), (q4, .inl (G.2.2 0, 24, .inl (fun _ => 0))), (q5, .inl (G.2.2 0, 6, .inl (fun _ => 0))), (q6, .inl (G.2.2 0, 6, .inl (fun _ => 0))), (q7, .inl (G.2.2 0, 6, .inl (fun _ => 0))), (q8, .inl (G.2.2 0, 6, .inl (fun _ => 0))), (q9, .inl (G.2.2 0, 5, .inl (fun _ => 0))), (q10, .inl (G.2.2 0, 5, .inl (fun _ => 0)))]) rfl ?_
  refine B_num (mc' := 10) (ms' := 1184) rfl rfl ?_
  refine B_aload C 0 dX8_init_89 rfl rfl ?_
  refine B_iconst C (v := 5) dX8_init_90 rfl ?_
  refine B_newa C (N := 5) 0 wa_int rfl rfl ra_int rfl (by decide) rfl (Nat.le_of_ble_eq_true rfl) ⟨Nat.le_of_ble_eq_true rfl, Nat.le_of_ble_eq_true rfl⟩ dX8_init_91 (fun q11 => ?_)
  refine B_putF C I ff_X8_47 (by exact Nat.le_of_ble_eq_true rfl) dX8_init_93 ?_
  refine B_weq (ws' := [(q, .inr (8, [.int 0, .ref q1, .ref q2, .int 0, .int 0, .ref q3, .int 0, .ref q4, .int 0, .int 2, .int 0, .ref q5, .ref q6, .ref q7, .ref q8, .int 0, .ref q9, .ref q10, .ref q11, .int 0, .int 0, .int 0, .int 0, .int 0, .int 0, .int 0, .int 0, .int 0, .int 0, .int 0, .int 0, .long 0, .int 0, .int 0, .int 0, .null, .null, .null, .null, .int 0, .int 0, .int 0, .int 0, .null, .int 0, .null, .int 0, .int 0, .null, .int 0, .null, .null, .null, .null, .int 0, .int 0, .int 0, .int 0, .int 0, .int 0, .null, .null, .null, .null])), (q1, .inl (G.2.2 0, 960, .inl (fun _ => 0))), (q2, .inl (G.2.2 0, 6, .inl (fun _ => 0))), (q3, .inl (G.2.2 0, 160, .inl (fun _ => 0))), (q4, .inl (G.2.2 0, 24, .inl (fun _ => 0))), (q5, .inl (G.2.2 0, 6, .inl (fun _ => 0))), (q6, .inl (G.2.2 0, 6, .inl (fun _ => 0))), (q7, .inl (G.2.2 0, 6, .inl (fun _ => 0))), (q8, .inl (G.2.2 0, 6, .inl (fun _ => 0))), (q9, .inl (G.2.2 0, 5, .inl (fun _ => 0))), (q10, .inl (G.2.2 0, 5, .inl (fun _ => 0))), (q11, .inl (G.2.2 0, 5, .inl (fun _ => 0)))]) rfl ?_
  refine B_num (mc' := 11) (ms' := 1189) rfl rfl ?_
  refine B_aload C 0 dX8_init_96 rfl rfl ?_
  refine B_sipush C (v := 192) dX8_init_97 rfl ?_
  refine B_newa C (N := 192) 0 wa_int rfl rfl ra_int rfl (by decide) rfl (Nat.le_of_ble_eq_true rfl) ⟨Nat.le_of_ble_eq_true rfl, Nat.le_of_ble_eq_true rfl⟩ dX8_init_100 (fun q12 => ?_)
  refine B_putF C I ff_X8_50 (by exact Nat.le_of_ble_eq_true rfl) dX8_init_102 ?_
  refine B_weq (ws' := [(q, .inr (8, [.int 0, .ref q1, .ref q2, .int 0, .int 0, .ref q3, .int 0, .ref q4, .int 0, .int 2, .int 0, .ref q5, .ref q6, .ref q7, .ref q8, .int 0, .ref q9, .ref q10, .ref q11, .int 0, .int 0, .int 0, .int 0, .int 0, .int 0, .int 0, .int 0, .int 0, .int 0, .int 0, .int 0, .long 0, .int 0, .int 0, .int 0, .ref q12, .null, .null, .null, .int 0, .int 0, .int 0, .int 0, .null, .int 0, .null, .int 0, .int 0, .null, .int 0, .null, .null, .null, .null, .int 0, .int 0, .int 0, .int 0, .int 0, .int 0, .null, .null, .null, .null])), (q1, .inl (G.2.2 0, 960, .inl (fun _ => 0))), (q2, .inl (G.2.2 0, 6, .inl (fun _ => 0))), (q3, .inl (G.2.2 0, 160, .inl (fun _ => 0))), (q4, .inl (G.2.2 0, 24, .inl (fun _ => 0))), (q5, .inl (G.2.2 0, 6, .inl (fun _ => 0))), (q6, .inl (G.2.2 0, 6, .inl (fun _ => 0))), (q7, .inl (G.2.2 0, 6, .inl (fun _ => 0))), (q8, .inl (G.2.2 0, 6, .inl (fun _ => 0))), (q9, .inl (G.2.2 0, 5, .inl (fun _ => 0))), (q10, .inl (G.2.2 0, 5, .inl (fun _ => 0))), (q11, .inl (G.2.2 0, 5, .inl (fun _ => 0))), (q12, .inl (G.2.2 0, 192, .inl (fun _ => 0)))]) rfl ?_
  refine B_num (mc' := 12) (ms' := 1381) rfl rfl ?_
  refine B_aload C 0 dX8_init_105 rfl rfl ?_
  refine B_iconst C (v := 5) dX8_init_106 rfl ?_
  refine B_newa C (N := 5) 0 wa_int rfl rfl ra_int rfl (by decide) rfl (Nat.le_of_ble_eq_true rfl) ⟨Nat.le_of_ble_eq_true rfl, Nat.le_of_ble_eq_true rfl⟩ dX8_init_107 (fun q13 => ?_)
  refine B_putF C I ff_X8_53 (by exact Nat.le_of_ble_eq_true rfl) dX8_init_109 ?_
  refine B_weq (ws' := [(q, .inr (8, [.int 0, .ref q1, .ref q2, .int 0, .int 0, .ref q3, .int 0, .ref q4, .int 0, .int 2, .int 0, .ref q5, .ref q6, .ref q7, .ref q8, .int 0, .ref q9, .ref q10, .ref q11, .int 0, .int 0, .int 0, .int 0, .int 0, .int 0, .int 0, .int 0, .int 0, .int 0, .int 0, .int 0, .long 0, .int 0, .int 0, .int 0, .ref q12, .ref q13, .null, .null, .int 0, .int 0, .int 0, .int 0, .null, .int 0, .null, .int 0, .int 0, .null, .int 0, .null, .null, .null, .null, .int 0, .int 0, .int 0, .int 0, .int 0, .int 0, .null, .null, .null, .null])), (q1, .inl (G.2.2 0, 960, .inl (fun _ => 0))), (q2, .inl (G.2.2 0, 6, .inl (fun _ => 0))), (q3, .inl (G.2.2 0, 160, .inl (fun _ => 0))), (q4, .inl (G.2.2 0, 24, .inl (fun _ => 0))), (q5, .inl (G.2.2 0, 6, .inl (fun _ => 0))), (q6, .inl (G.2.2 0, 6, .inl (fun _ => 0))), (q7, .inl (G.2.2 0, 6, .inl (fun _ => 0))), (q8, .inl (G.2.2 0, 6, .inl (fun _ => 0))), (q9, .inl (G.2.2 0, 5, .inl (fun _ => 0))), (q10, .inl (G.2.2 0, 5, .inl (fun _ => 0))), (q11, .inl (G.2.2 0, 5, .inl (fun _ => 0))), (q12, .inl (G.2.2 0, 192, .inl (fun _ => 0))), (q13, .inl (G.2.2 0, 5, .inl (fun _ => 0)))]) rfl ?_
  refine B_num (mc' := 13) (ms' := 1386) rfl rfl ?_
  refine B_aload C 0 dX8_init_112 rfl rfl ?_
  refine B_bipush C (v := 120) dX8_init_113 rfl ?_
  refine B_newa C (N := 120) 0 wa_int rfl rfl ra_int rfl (by decide) rfl (Nat.le_of_ble_eq_true rfl) ⟨Nat.le_of_ble_eq_true rfl, Nat.le_of_ble_eq_true rfl⟩ dX8_init_115 (fun q14 => ?_)
  refine B_putF C I ff_X8_56 (by exact Nat.le_of_ble_eq_true rfl) dX8_init_117 ?_
  refine B_weq (ws' := [(q, .inr (8, [.int 0, .ref q1, .ref q2, .int 0, .int 0, .ref q3, .int 0, .ref q4, .int 0, .int 2, .int 0, .ref q5, .ref q6, .ref q7, .ref q8, .int 0, .ref q9, .ref q10, .ref q11, .int 0, .int 0, .int 0, .int 0, .int 0, .int 0, .int 0, .int 0, .int 0, .int 0, .int 0, .int 0, .long 0, .int 0, .int 0, .int 0, .ref q12, .ref q13, .ref q14, .null, .int 0, .int 0, .int 0, .int 0, .null, .int 0, .null, .int 0, .int 0, .null, .int 0, .null, .null, .null, .null, .int 0, .int 0, .int 0, .int 0, .int 0, .int 0, .null, .null, .null, .null])), (q1, .inl (G.2.2 0, 960, .inl (fun _ => 0))), (q2, .inl (G.2.2 0, 6, .inl (fun _ => 0))), (q3, .inl (G.2.2 0, 160, .inl (fun _ => 0))), (q4, .inl (G.2.2 0, 24, .inl (fun _ => 0))), (q5, .inl (G.2.2 0, 6, .inl (fun _ => 0))), (q6, .inl (G.2.2 0, 6, .inl (fun _ => 0))), (q7, .inl (G.2.2 0, 6, .inl (fun _ => 0))), (q8, .inl (G.2.2 0, 6, .inl (fun _ => 0))), (q9, .inl (G.2.2 0, 5, .inl (fun _ => 0))), (q10, .inl (G.2.2 0, 5, .inl (fun _ => 0))), (q11, .inl (G.2.2 0, 5, .inl (fun _ => 0))), (q12, .inl (G.2.2 0, 192, .inl (fun _ => 0))), (q13, .inl (G.2.2 0, 5, .inl (fun _ => 0))), (q14, .inl (G.2.2 0, 120, .inl (fun _ => 0)))]) rfl ?_
  refine B_num (mc' := 14) (ms' := 1506) rfl rfl ?_
  refine B_aload C 0 dX8_init_120 rfl rfl ?_
  refine B_sipush C (v := 192) dX8_init_121 rfl ?_
  refine B_newa C (N := 192) 0 wa_int rfl rfl ra_int rfl (by decide) rfl (Nat.le_of_ble_eq_true rfl) ⟨Nat.le_of_ble_eq_true rfl, Nat.le_of_ble_eq_true rfl⟩ dX8_init_124 (fun q15 => ?_)
  refine B_putF C I ff_X8_59 (by exact Nat.le_of_ble_eq_true rfl) dX8_init_126 ?_
  refine B_weq (ws' := [(q, .inr (8, [.int 0, .ref q1, .ref q2, .int 0, .int 0, .ref q3, .int 0, .ref q4, .int 0, .int 2, .int 0, .ref q5, .ref q6, .ref q7, .ref q8, .int 0, .ref q9, .ref q10, .ref q11, .int 0, .int 0, .int 0, .int 0, .int 0, .int 0, .int 0, .int 0, .int 0, .int 0, .int 0, .int 0, .long 0, .int 0, .int 0, .int 0, .ref q12, .ref q13, .ref q14, .ref q15, .int 0, .int 0, .int 0, .int 0, .null, .int 0, .null, .int 0, .int 0, .null, .int 0, .null, .null, .null, .null, .int 0, .int 0, .int 0, .int 0, .int 0, .int 0, .null, .null, .null, .null])), (q1, .inl (G.2.2 0, 960, .inl (fun _ => 0))), (q2, .inl (G.2.2 0, 6, .inl (fun _ => 0))), (q3, .inl (G.2.2 0, 160, .inl (fun _ => 0))), (q4, .inl (G.2.2 0, 24, .inl (fun _ => 0))), (q5, .inl (G.2.2 0, 6, .inl (fun _ => 0))), (q6, .inl (G.2.2 0, 6, .inl (fun _ => 0))), (q7, .inl (G.2.2 0, 6, .inl (fun _ => 0))), (q8, .inl (G.2.2 0, 6, .inl (fun _ => 0))), (q9, .inl (G.2.2 0, 5, .inl (fun _ => 0))), (q10, .inl (G.2.2 0, 5, .inl (fun _ => 0))), (q11, .inl (G.2.2 0, 5, .inl (fun _ => 0))), (q12, .inl (G.2.2 0, 192, .inl (fun _ => 0))), (q13, .inl (G.2.2 0, 5, .inl (fun _ => 0))), (q14, .inl (G.2.2 0, 120, .inl (fun _ => 0))), (q15, .inl (G.2.2 0, 192, .inl (fun _ => 0)))]) rfl ?_
  refine B_num (mc' := 15) (ms' := 1698) rfl rfl ?_
  refine B_aload C 0 dX8_init_129 rfl rfl ?_
  refine B_ldc C (v := 249792) dX8_init_130 kc_X8_62 ?_
  refine B_newa C (N := 249792) 0 wa_int rfl rfl ra_int rfl (by decide) rfl (Nat.le_of_ble_eq_true rfl) ⟨Nat.le_of_ble_eq_true rfl, Nat.le_of_ble_eq_true rfl⟩ dX8_init_132 (fun q16 => ?_)
  refine B_putF C I ff_X8_63 (by exact Nat.le_of_ble_eq_true rfl) dX8_init_134 ?_
  refine B_weq (ws' := [(q, .inr (8, [.int 0, .ref q1, .ref q2, .int 0, .int 0, .ref q3, .int 0, .ref q4, .int 0, .int 2, .int 0, .ref q5, .ref q6, .ref q7, .ref q8, .int 0, .ref q9, .ref q10, .ref q11, .int 0, .int 0, .int 0, .int 0, .int 0, .int 0, .int 0, .int 0, .int 0, .int 0, .int 0, .int 0, .long 0, .int 0, .int 0, .int 0, .ref q12, .ref q13, .ref q14, .ref q15, .int 0, .int 0, .int 0, .int 0, .ref q16, .int 0, .null, .int 0, .int 0, .null, .int 0, .null, .null, .null, .null, .int 0, .int 0, .int 0, .int 0, .int 0, .int 0, .null, .null, .null, .null])), (q1, .inl (G.2.2 0, 960, .inl (fun _ => 0))), (q2, .inl (G.2.2 0, 6, .inl (fun _ => 0))), (q3, .inl (G.2.2 0, 160, .inl (fun _ => 0))), (q4, .inl (G.2.2 0, 24, .inl (fun _ => 0))), (q5, .inl (G.2.2 0, 6, .inl (fun _ => 0))), (q6, .inl (G.2.2 0, 6, .inl (fun _ => 0))), (q7, .inl (G.2.2 0, 6, .inl (fun _ => 0))), (q8, .inl (G.2.2 0, 6, .inl (fun _ => 0))), (q9, .inl (G.2.2 0, 5, .inl (fun _ => 0))), (q10, .inl (G.2.2 0, 5, .inl (fun _ => 0))), (q11, .inl (G.2.2 0, 5, .inl (fun _ => 0))), (q12, .inl (G.2.2 0, 192, .inl (fun _ => 0))), (q13, .inl (G.2.2 0, 5, .inl (fun _ => 0))), (q14, .inl (G.2.2 0, 120, .inl (fun _ => 0))), (q15, .inl (G.2.2 0, 192, .inl (fun _ => 0))), (q16, .inl (G.2.2 0, 249792, .inl (fun _ => 0)))]) rfl ?_
  refine B_num (mc' := 16) (ms' := 251490) rfl rfl ?_
  refine B_aload C 0 dX8_init_137 rfl rfl ?_
  refine B_iconst C (v := 5) dX8_init_138 rfl ?_
  refine B_newa C (N := 5) 0 wa_int rfl rfl ra_int rfl (by decide) rfl (Nat.le_of_ble_eq_true rfl) ⟨Nat.le_of_ble_eq_true rfl, Nat.le_of_ble_eq_true rfl⟩ dX8_init_139 (fun q17 => ?_)
  refine B_putF C I ff_X8_66 (by exact Nat.le_of_ble_eq_true rfl) dX8_init_141 ?_
  refine B_weq (ws' := [(q, .inr (8, [.int 0, .ref q1, .ref q2, .int 0, .int 0, .ref q3, .int 0, .ref q4, .int 0, .int 2, .int 0, .ref q5, .ref q6, .ref q7, .ref q8, .int 0, .ref q9, .ref q10, .ref q11, .int 0, .int 0, .int 0, .int 0, .int 0, .int 0, .int 0, .int 0, .int 0, .int 0, .int 0, .int 0, .long 0, .int 0, .int 0, .int 0, .ref q12, .ref q13, .ref q14, .ref q15, .int 0, .int 0, .int 0, .int 0, .ref q16, .int 0, .ref q17, .int 0, .int 0, .null, .int 0, .null, .null, .null, .null, .int 0, .int 0, .int 0, .int 0, .int 0, .int 0, .null, .null, .null, .null])), (q1, .inl (G.2.2 0, 960, .inl (fun _ => 0))), (q2, .inl (G.2.2 0, 6, .inl (fun _ => 0))), (q3, .inl (G.2.2 0, 160, .inl (fun _ => 0))), (q4, .inl (G.2.2 0, 24, .inl (fun _ => 0))), (q5, .inl (G.2.2 0, 6, .inl (fun _ => 0))), (q6, .inl (G.2.2 0, 6, .inl (fun _ => 0))), (q7, .inl (G.2.2 0, 6, .inl (fun _ => 0))), (q8, .inl (G.2.2 0, 6, .inl (fun _ => 0))), (q9, .inl (G.2.2 0, 5, .inl (fun _ => 0))), (q10, .inl (G.2.2 0, 5, .inl (fun _ => 0))), (q11, .inl (G.2.2 0, 5, .inl (fun _ => 0))), (q12, .inl (G.2.2 0, 192, .inl (fun _ => 0))), (q13, .inl (G.2.2 0, 5, .inl (fun _ => 0))), (q14, .inl (G.2.2 0, 120, .inl (fun _ => 0))), (q15, .inl (G.2.2 0, 192, .inl (fun _ => 0))), (q16, .inl (G.2.2 0, 249792, .inl (fun _ => 0))), (q17, .inl (G.2.2 0, 5, .inl (fun _ => 0)))]) rfl ?_
  refine B_num (mc' := 17) (ms' := 251495) rfl rfl ?_
  refine B_aload C 0 dX8_init_144 rfl rfl ?_
  refine B_iconst C (v := 5) dX8_init_145 rfl ?_
  refine B_newa C (N := 5) 0 wa_int rfl rfl ra_int rfl (by decide) rfl (Nat.le_of_ble_eq_true rfl) ⟨Nat.le_of_ble_eq_true rfl, Nat.le_of_ble_eq_true rfl⟩ dX8_init_146 (fun q18 => ?_)
  refine B_putF C I ff_X8_69 (by exact Nat.le_of_ble_eq_true rfl) dX8_init_148 ?_
  refine B_weq (ws' := [(q, .inr (8, [.int 0, .ref q1, .ref q2, .int 0, .int 0, .ref q3, .int 0, .ref q4, .int 0, .int 2, .int 0, .ref q5, .ref q6, .ref q7, .ref q8, .int 0, .ref q9, .ref q10, .ref q11, .int 0, .int 0, .int 0, .int 0, .int 0, .int 0, .int 0, .int 0, .int 0, .int 0, .int 0, .int 0, .long 0, .int 0, .int 0, .int 0, .ref q12, .ref q13, .ref q14, .ref q15, .int 0, .int 0, .int 0, .int 0, .ref q16, .int 0, .ref q17, .int 0, .int 0, .ref q18, .int 0, .null, .null, .null, .null, .int 0, .int 0, .int 0, .int 0, .int 0, .int 0, .null, .null, .null, .null])), (q1, .inl (G.2.2 0, 960, .inl (fun _ => 0))), (q2, .inl (G.2.2 0, 6, .inl (fun _ => 0))), (q3, .inl (G.2.2 0, 160, .inl (fun _ => 0))), (q4, .inl (G.2.2 0, 24, .inl (fun _ => 0))), (q5, .inl (G.2.2 0, 6, .inl (fun _ => 0))), (q6, .inl (G.2.2 0, 6, .inl (fun _ => 0))), (q7, .inl (G.2.2 0, 6, .inl (fun _ => 0))), (q8, .inl (G.2.2 0, 6, .inl (fun _ => 0))), (q9, .inl (G.2.2 0, 5, .inl (fun _ => 0))), (q10, .inl (G.2.2 0, 5, .inl (fun _ => 0))), (q11, .inl (G.2.2 0, 5, .inl (fun _ => 0))), (q12, .inl (G.2.2 0, 192, .inl (fun _ => 0))), (q13, .inl (G.2.2 0, 5, .inl (fun _ => 0))), (q14, .inl (G.2.2 0, 120, .inl (fun _ => 0))), (q15, .inl (G.2.2 0, 192, .inl (fun _ => 0))), (q16, .inl (G.2.2 0, 249792, .inl (fun _ => 0))), (q17, .inl (G.2.2 0, 5, .inl (fun _ => 0))), (q18, .inl (G.2.2 0, 5, .inl (fun _ => 0)))]) rfl ?_
  refine B_num (mc' := 18) (ms' := 251500) rfl rfl ?_
  refine B_aload C 0 dX8_init_151 rfl rfl ?_
  refine B_bipush C (v := 24) dX8_init_152 rfl ?_
  refine B_newa C (N := 24) 0 wa_int rfl rfl ra_int rfl (by decide) rfl (Nat.le_of_ble_eq_true rfl) ⟨Nat.le_of_ble_eq_true rfl, Nat.le_of_ble_eq_true rfl⟩ dX8_init_154 (fun q19 => ?_)
  refine B_putF C I ff_X8_72 (by exact Nat.le_of_ble_eq_true rfl) dX8_init_156 ?_
  refine B_weq (ws' := [(q, .inr (8, [.int 0, .ref q1, .ref q2, .int 0, .int 0, .ref q3, .int 0, .ref q4, .int 0, .int 2, .int 0, .ref q5, .ref q6, .ref q7, .ref q8, .int 0, .ref q9, .ref q10, .ref q11, .int 0, .int 0, .int 0, .int 0, .int 0, .int 0, .int 0, .int 0, .int 0, .int 0, .int 0, .int 0, .long 0, .int 0, .int 0, .int 0, .ref q12, .ref q13, .ref q14, .ref q15, .int 0, .int 0, .int 0, .int 0, .ref q16, .int 0, .ref q17, .int 0, .int 0, .ref q18, .int 0, .ref q19, .null, .null, .null, .int 0, .int 0, .int 0, .int 0, .int 0, .int 0, .null, .null, .null, .null])), (q1, .inl (G.2.2 0, 960, .inl (fun _ => 0))), (q2, .inl (G.2.2 0, 6, .inl (fun _ => 0))), (q3, .inl (G.2.2 0, 160, .inl (fun _ => 0))), (q4, .inl (G.2.2 0, 24, .inl (fun _ => 0))), (q5, .inl (G.2.2 0, 6, .inl (fun _ => 0))), (q6, .inl (G.2.2 0, 6, .inl (fun _ => 0))), (q7, .inl (G.2.2 0, 6, .inl (fun _ => 0))), (q8, .inl (G.2.2 0, 6, .inl (fun _ => 0))), (q9, .inl (G.2.2 0, 5, .inl (fun _ => 0))), (q10, .inl (G.2.2 0, 5, .inl (fun _ => 0))), (q11, .inl (G.2.2 0, 5, .inl (fun _ => 0))), (q12, .inl (G.2.2 0, 192, .inl (fun _ => 0))), (q13, .inl (G.2.2 0, 5, .inl (fun _ => 0))), (q14, .inl (G.2.2 0, 120, .inl (fun _ => 0))), (q15, .inl (G.2.2 0, 192, .inl (fun _ => 0))), (q16, .inl (G.2.2 0, 249792, .inl (fun _ => 0))), (q17, .inl (G.2.2 0, 5, .inl (fun _ => 0))), (q18, .inl (G.2.2 0, 5, .inl (fun _ => 0))), (q19, .inl (G.2.2 0, 24, .inl (fun _ => 0)))]) rfl ?_
  refine B_num (mc' := 19) (ms' := 251524) rfl rfl ?_
  refine B_aload C 0 dX8_init_159 rfl rfl ?_
  refine B_bipush C (v := 24) dX8_init_160 rfl ?_
  refine B_newa C (N := 24) 0 wa_int rfl rfl ra_int rfl (by decide) rfl (Nat.le_of_ble_eq_true rfl) ⟨Nat.le_of_ble_eq_true rfl, Nat.le_of_ble_eq_true rfl⟩ dX8_init_162 (fun q20 => ?_)
  refine B_putF C I ff_X8_75 (by exact Nat.le_of_ble_eq_true rfl) dX8_init_164 ?_
  refine B_weq (ws' := [(q, .inr (8, [.int 0, .ref q1, .ref q2, .int 0, .int 0, .ref q3, .int 0, .ref q4, .int 0, .int 2, .int 0, .ref q5, .ref q6, .ref q7, .ref q8, .int 0, .ref q9, .ref q10, .ref q11, .int 0, .int 0, .int 0, .int 0, .int 0, .int 0, .int 0, .int 0, .int 0, .int 0, .int 0, .int 0, .long 0, .int 0, .int 0, .int 0, .ref q12, .ref q13, .ref q14, .ref q15, .int 0, .int 0, .int 0, .int 0, .ref q16, .int 0, .ref q17, .int 0, .int 0, .ref q18, .int 0, .ref q19, .ref q20, .null, .null, .int 0, .int 0, .int 0, .int 0, .int 0, .int 0, .null, .null, .null, .null])), (q1, .inl (G.2.2 0, 960, .inl (fun _ => 0))), (q2, .inl (G.2.2 0, 6, .inl (fun _ => 0))), (q3, .inl (G.2.2 0, 160, .inl (fun _ => 0))), (q4, .inl (G.2.2 0, 24, .inl (fun _ => 0))), (q5, .inl (G.2.2 0, 6, .inl (fun _ => 0))), (q6, .inl (G.2.2 0, 6, .inl (fun _ => 0))), (q7, .inl (G.2.2 0, 6, .inl (fun _ => 0))), (q8, .inl (G.2.2 0, 6, .inl (fun _ => 0))), (q9, .inl (G.2.2 0, 5, .inl (fun _ => 0))), (q10, .inl (G.2.2 0, 5, .inl (fun _ => 0))), (q11, .inl (G.2.2 0, 5, .inl (fun _ => 0))), (q12, .inl (G.2.2 0, 192, .inl (fun _ => 0))), (q13, .inl (G.2.2 0, 5, .inl (fun _ => 0))), (q14, .inl (G.2.2 0, 120, .inl (fun _ => 0))), (q15, .inl (G.2.2 0, 192, .inl (fun _ => 0))), (q16, .inl (G.2.2 0, 249792, .inl (fun _ => 0))), (q17, .inl (G.2.2 0, 5, .inl (fun _ => 0))), (q18, .inl (G.2.2 0, 5, .inl (fun _ => 0))), (q19, .inl (G.2.2 0, 24, .inl (fun _ => 0))), (q20, .inl (G.2.2 0, 24, .inl (fun _ => 0)))]) rfl ?_
  refine B_num (mc' := 20) (ms' := 251548) rfl rfl ?_
  refine B_aload C 0 dX8_init_167 rfl rfl ?_
  refine B_bipush C (v := 18) dX8_init_168 rfl ?_
  refine B_newa C (N := 18) 0 wa_int rfl rfl ra_int rfl (by decide) rfl (Nat.le_of_ble_eq_true rfl) ⟨Nat.le_of_ble_eq_true rfl, Nat.le_of_ble_eq_true rfl⟩ dX8_init_170 (fun q21 => ?_)
  refine B_putF C I ff_X8_78 (by exact Nat.le_of_ble_eq_true rfl) dX8_init_172 ?_
  refine B_weq (ws' := [(q, .inr (8, [.int 0, .ref q1, .ref q2, .int 0, .int 0, .ref q3, .int 0, .ref q4, .int 0, .int 2, .int 0, .ref q5, .ref q6, .ref q7, .ref q8, .int 0, .ref q9, .ref q10, .ref q11, .int 0, .int 0, .int 0, .int 0, .int 0, .int 0, .int 0, .int 0, .int 0, .int 0, .int 0, .int 0, .long 0, .int 0, .int 0, .int 0, .ref q12, .ref q13, .ref q14, .ref q15, .int 0, .int 0, .int 0, .int 0, .ref q16, .int 0, .ref q17, .int 0, .int 0, .ref q18, .int 0, .ref q19, .ref q20, .ref q21, .null, .int 0, .int 0, .int 0, .int 0, .int 0, .int 0, .null, .null, .null, .null])), (q1, .inl (G.2.2 0, 960, .inl (fun _ => 0))), (q2, .inl (G.2.2 0, 6, .inl (fun _ => 0))), (q3, .inl (G.2.2 0, 160, .inl (fun _ => 0))), (q4, .inl (G.2.2 0, 24, .inl (fun _ => 0))), (q5, .inl (G.2.2 0, 6, .inl (fun _ => 0))), (q6, .inl (G.2.2 0, 6, .inl (fun _ => 0))), (q7, .inl (G.2.2 0, 6, .inl (fun _ => 0))), (q8, .inl (G.2.2 0, 6, .inl (fun _ => 0))), (q9, .inl (G.2.2 0, 5, .inl (fun _ => 0))), (q10, .inl (G.2.2 0, 5, .inl (fun _ => 0))), (q11, .inl (G.2.2 0, 5, .inl (fun _ => 0))), (q12, .inl (G.2.2 0, 192, .inl (fun _ => 0))), (q13, .inl (G.2.2 0, 5, .inl (fun _ => 0))), (q14, .inl (G.2.2 0, 120, .inl (fun _ => 0))), (q15, .inl (G.2.2 0, 192, .inl (fun _ => 0))), (q16, .inl (G.2.2 0, 249792, .inl (fun _ => 0))), (q17, .inl (G.2.2 0, 5, .inl (fun _ => 0))), (q18, .inl (G.2.2 0, 5, .inl (fun _ => 0))), (q19, .inl (G.2.2 0, 24, .inl (fun _ => 0))), (q20, .inl (G.2.2 0, 24, .inl (fun _ => 0))), (q21, .inl (G.2.2 0, 18, .inl (fun _ => 0)))]) rfl ?_
  refine B_num (mc' := 21) (ms' := 251566) rfl rfl ?_
  refine B_aload C 0 dX8_init_175 rfl rfl ?_
  refine B_bipush C (v := 10) dX8_init_176 rfl ?_
  refine B_newa C (N := 10) 0 wa_int rfl rfl ra_int rfl (by decide) rfl (Nat.le_of_ble_eq_true rfl) ⟨Nat.le_of_ble_eq_true rfl, Nat.le_of_ble_eq_true rfl⟩ dX8_init_178 (fun q22 => ?_)
  refine B_putF C I ff_X8_81 (by exact Nat.le_of_ble_eq_true rfl) dX8_init_180 ?_
  refine B_weq (ws' := [(q, .inr (8, [.int 0, .ref q1, .ref q2, .int 0, .int 0, .ref q3, .int 0, .ref q4, .int 0, .int 2, .int 0, .ref q5, .ref q6, .ref q7, .ref q8, .int 0, .ref q9, .ref q10, .ref q11, .int 0, .int 0, .int 0, .int 0, .int 0, .int 0, .int 0, .int 0, .int 0, .int 0, .int 0, .int 0, .long 0, .int 0, .int 0, .int 0, .ref q12, .ref q13, .ref q14, .ref q15, .int 0, .int 0, .int 0, .int 0, .ref q16, .int 0, .ref q17, .int 0, .int 0, .ref q18, .int 0, .ref q19, .ref q20, .ref q21, .ref q22, .int 0, .int 0, .int 0, .int 0, .int 0, .int 0, .null, .null, .null, .null])), (q1, .inl (G.2.2 0, 960, .inl (fun _ => 0))), (q2, .inl (G.2.2 0, 6, .inl (fun _ => 0))), (q3, .inl (G.2.2 0, 160, .inl (fun _ => 0))), (q4, .inl (G.2.2 0, 24, .inl (fun _ => 0))), (q5, .inl (G.2.2 0, 6, .inl (fun _ => 0))), (q6, .inl (G.2.2 0, 6, .inl (fun _ => 0))), (q7, .inl (G.2.2 0, 6, .inl (fun _ => 0))), (q8, .inl (G.2.2 0, 6, .inl (fun _ => 0))), (q9, .inl (G.2.2 0, 5, .inl (fun _ => 0))), (q10, .inl (G.2.2 0, 5, .inl (fun _ => 0))), (q11, .inl (G.2.2 0, 5, .inl (fun _ => 0))), (q12, .inl (G.2.2 0, 192, .inl (fun _ => 0))), (q13, .inl (G.2.2 0, 5, .inl (fun _ => 0))), (q14, .inl (G.2.2 0, 120, .inl (fun _ => 0))), (q15, .inl (G.2.2 0, 192, .inl (fun _ => 0))), (q16, .inl (G.2.2 0, 249792, .inl (fun _ => 0))), (q17, .inl (G.2.2 0, 5, .inl (fun _ => 0))), (q18, .inl (G.2.2 0, 5, .inl (fun _ => 0))), (q19, .inl (G.2.2 0, 24, .inl (fun _ => 0))), (q20, .inl (G.2.2 0, 24, .inl (fun _ => 0))), (q21, .inl (G.2.2 0, 18, .inl (fun _ => 0))), (q22, .inl (G.2.2 0, 10, .inl (fun _ => 0)))]) rfl ?_
  refine B_num (mc' := 22) (ms' := 251576) rfl rfl ?_
  refine B_aload C 0 dX8_init_183 rfl rfl ?_
  refine B_iconst C (v := (-1)) dX8_init_184 rfl ?_
  refine B_put C fl_X8_84 (by decide) (by exact Nat.le_of_ble_eq_true rfl) rfl rfl dX8_init_185 ?_
  refine B_weq (ws' := [(q, .inr (8, [.int 0, .ref q1, .ref q2, .int 0, .int 0, .ref q3, .int 0, .ref q4, .int 0, .int 2, .int 0, .ref q5, .ref q6, .ref q7, .ref q8, .int 0, .ref q9, .ref q10, .ref q11, .int 0, .int 0, .int 0, .int 0, .int 0, .int 0, .int 0, .int 0, .int 0, .int 0, .int 0, .int 0, .long 0, .int 0, .int 0, .int 0, .ref q12, .ref q13, .ref q14, .ref q15, .int 0, .int 0, .int 0, .int 0, .ref q16, .int 0, .ref q17, .int 0, .int 0, .ref q18, .int 0, .ref q19, .ref q20, .ref q21, .ref q22, .int (-1), .int 0, .int 0, .int 0, .int 0, .int 0, .null, .null, .null, .null])), (q1, .inl (G.2.2 0, 960, .inl (fun _ => 0))), (q2, .inl (G.2.2 0, 6, .inl (fun _ => 0))), (q3, .inl (G.2.2 0, 160, .inl (fun _ => 0))), (q4, .inl (G.2.2 0, 24, .inl (fun _ => 0))), (q5, .inl (G.2.2 0, 6, .inl (fun _ => 0))), (q6, .inl (G.2.2 0, 6, .inl (fun _ => 0))), (q7, .inl (G.2.2 0, 6, .inl (fun _ => 0))), (q8, .inl (G.2.2 0, 6, .inl (fun _ => 0))), (q9, .inl (G.2.2 0, 5, .inl (fun _ => 0))), (q10, .inl (G.2.2 0, 5, .inl (fun _ => 0))), (q11, .inl (G.2.2 0, 5, .inl (fun _ => 0))), (q12, .inl (G.2.2 0, 192, .inl (fun _ => 0))), (q13, .inl (G.2.2 0, 5, .inl (fun _ => 0))), (q14, .inl (G.2.2 0, 120, .inl (fun _ => 0))), (q15, .inl (G.2.2 0, 192, .inl (fun _ => 0))), (q16, .inl (G.2.2 0, 249792, .inl (fun _ => 0))), (q17, .inl (G.2.2 0, 5, .inl (fun _ => 0))), (q18, .inl (G.2.2 0, 5, .inl (fun _ => 0))), (q19, .inl (G.2.2 0, 24, .inl (fun _ => 0))), (q20, .inl (G.2.2 0, 24, .inl (fun _ => 0))), (q21, .inl (G.2.2 0, 18, .inl (fun _ => 0))), (q22, .inl (G.2.2 0, 10, .inl (fun _ => 0)))]) rfl ?_
  refine B_num (mc' := 22) (ms' := 251576) rfl rfl ?_
  refine B_aload C 0 dX8_init_188 rfl rfl ?_
  refine B_iconst C (v := 4) dX8_init_189 rfl ?_
  refine B_newa C (N := 4) 1 wa_bool rfl rfl ra_bool rfl (by decide) rfl (Nat.le_of_ble_eq_true rfl) ⟨Nat.le_of_ble_eq_true rfl, Nat.le_of_ble_eq_true rfl⟩ dX8_init_190 (fun q23 => ?_)
  refine B_putF C I ff_X8_87 (by exact Nat.le_of_ble_eq_true rfl) dX8_init_192 ?_
  refine B_weq (ws' := [(q, .inr (8, [.int 0, .ref q1, .ref q2, .int 0, .int 0, .ref q3, .int 0, .ref q4, .int 0, .int 2, .int 0, .ref q5, .ref q6, .ref q7, .ref q8, .int 0, .ref q9, .ref q10, .ref q11, .int 0, .int 0, .int 0, .int 0, .int 0, .int 0, .int 0, .int 0, .int 0, .int 0, .int 0, .int 0, .long 0, .int 0, .int 0, .int 0, .ref q12, .ref q13, .ref q14, .ref q15, .int 0, .int 0, .int 0, .int 0, .ref q16, .int 0, .ref q17, .int 0, .int 0, .ref q18, .int 0, .ref q19, .ref q20, .ref q21, .ref q22, .int (-1), .int 0, .int 0, .int 0, .int 0, .int 0, .ref q23, .null, .null, .null])), (q1, .inl (G.2.2 0, 960, .inl (fun _ => 0))), (q2, .inl (G.2.2 0, 6, .inl (fun _ => 0))), (q3, .inl (G.2.2 0, 160, .inl (fun _ => 0))), (q4, .inl (G.2.2 0, 24, .inl (fun _ => 0))), (q5, .inl (G.2.2 0, 6, .inl (fun _ => 0))), (q6, .inl (G.2.2 0, 6, .inl (fun _ => 0))), (q7, .inl (G.2.2 0, 6, .inl (fun _ => 0))), (q8, .inl (G.2.2 0, 6, .inl (fun _ => 0))), (q9, .inl (G.2.2 0, 5, .inl (fun _ => 0))), (q10, .inl (G.2.2 0, 5, .inl (fun _ => 0))), (q11, .inl (G.2.2 0, 5, .inl (fun _ => 0))), (q12, .inl (G.2.2 0, 192, .inl (fun _ => 0))), (q13, .inl (G.2.2 0, 5, .inl (fun _ => 0))), (q14, .inl (G.2.2 0, 120, .inl (fun _ => 0))), (q15, .inl (G.2.2 0, 192, .inl (fun _ => 0))), (q16, .inl (G.2.2 0, 249792, .inl (fun _ => 0))), (q17, .inl (G.2.2 0, 5, .inl (fun _ => 0))), (q18, .inl (G.2.2 0, 5, .inl (fun _ => 0))), (q19, .inl (G.2.2 0, 24, .inl (fun _ => 0))), (q20, .inl (G.2.2 0, 24, .inl (fun _ => 0))), (q21, .inl (G.2.2 0, 18, .inl (fun _ => 0))), (q22, .inl (G.2.2 0, 10, .inl (fun _ => 0))), (q23, .inl (G.2.2 1, 4, .inl (fun _ => 0)))]) rfl ?_
  refine B_num (mc' := 23) (ms' := 251580) rfl rfl ?_
  refine B_aload C 0 dX8_init_195 rfl rfl ?_
  refine B_iconst C (v := 4) dX8_init_196 rfl ?_
  refine B_newa C (N := 4) 0 wa_int rfl rfl ra_int rfl (by decide) rfl (Nat.le_of_ble_eq_true rfl) ⟨Nat.le_of_ble_eq_true rfl, Nat.le_of_ble_eq_true rfl⟩ dX8_init_197 (fun q24 => ?_)
  refine B_putF C I ff_X8_91 (by exact Nat.le_of_ble_eq_true rfl) dX8_init_199 ?_
  refine B_weq (ws' := [(q, .inr (8, [.int 0, .ref q1, .ref q2, .int 0, .int 0, .ref q3, .int 0, .ref q4, .int 0, .int 2, .int 0, .ref q5, .ref q6, .ref q7, .ref q8, .int 0, .ref q9, .ref q10, .ref q11, .int 0, .int 0, .int 0, .int 0, .int 0, .int 0, .int 0, .int 0, .int 0, .int 0, .int 0, .int 0, .long 0, .int 0, .int 0, .int 0, .ref q12, .ref q13, .ref q14, .ref q15, .int 0, .int 0, .int 0, .int 0, .ref q16, .int 0, .ref q17, .int 0, .int 0, .ref q18, .int 0, .ref q19, .ref q20, .ref q21, .ref q22, .int (-1), .int 0, .int 0, .int 0, .int 0, .int 0, .ref q23, .ref q24, .null, .null])), (q1, .inl (G.2.2 0, 960, .inl (fun _ => 0))), (q2, .inl (G.2.2 0, 6, .inl (fun _ => 0))), (q3, .inl (G.2.2 0, 160, .inl (fun _ => 0))), (q4, .inl (G.2.2 0, 24, .inl (fun _ => 0))), (q5, .inl (G.2.2 0, 6, .inl (fun _ => 0))), (q6, .inl (G.2.2 0, 6, .inl (fun _ => 0))), (q7, .inl (G.2.2 0, 6, .inl (fun _ => 0))), (q8, .inl (G.2.2 0, 6, .inl (fun _ => 0))), (q9, .inl (G.2.2 0, 5, .inl (fun _ => 0))), (q10, .inl (G.2.2 0, 5, .inl (fun _ => 0))), (q11, .inl (G.2.2 0, 5, .inl (fun _ => 0))), (q12, .inl (G.2.2 0, 192, .inl (fun _ => 0))), (q13, .inl (G.2.2 0, 5, .inl (fun _ => 0))), (q14, .inl (G.2.2 0, 120, .inl (fun _ => 0))), (q15, .inl (G.2.2 0, 192, .inl (fun _ => 0))), (q16, .inl (G.2.2 0, 249792, .inl (fun _ => 0))), (q17, .inl (G.2.2 0, 5, .inl (fun _ => 0))), (q18, .inl (G.2.2 0, 5, .inl (fun _ => 0))), (q19, .inl (G.2.2 0, 24, .inl (fun _ => 0))), (q20, .inl (G.2.2 0, 24, .inl (fun _ => 0))), (q21, .inl (G.2.2 0, 18, .inl (fun _ => 0))), (q22, .inl (G.2.2 0, 10, .inl (fun _ => 0))), (q23, .inl (G.2.2 1, 4, .inl (fun _ => 0))), (q24, .inl (G.2.2 0, 4, .inl (fun _ => 0)))]) rfl ?_
  refine B_num (mc' := 24) (ms' := 251584) rfl rfl ?_
  refine B_aload C 0 dX8_init_202 rfl rfl ?_
  refine B_iconst C (v := 4) dX8_init_203 rfl ?_
  refine B_newa C (N := 4) 0 wa_int rfl rfl ra_int rfl (by decide) rfl (Nat.le_of_ble_eq_true rfl) ⟨Nat.le_of_ble_eq_true rfl, Nat.le_of_ble_eq_true rfl⟩ dX8_init_204 (fun q25 => ?_)
  refine B_putF C I ff_X8_94 (by exact Nat.le_of_ble_eq_true rfl) dX8_init_206 ?_
  refine B_weq (ws' := [(q, .inr (8, [.int 0, .ref q1, .ref q2, .int 0, .int 0, .ref q3, .int 0, .ref q4, .int 0, .int 2, .int 0, .ref q5, .ref q6, .ref q7, .ref q8, .int 0, .ref q9, .ref q10, .ref q11, .int 0, .int 0, .int 0, .int 0, .int 0, .int 0, .int 0, .int 0, .int 0, .int 0, .int 0, .int 0, .long 0, .int 0, .int 0, .int 0, .ref q12, .ref q13, .ref q14, .ref q15, .int 0, .int 0, .int 0, .int 0, .ref q16, .int 0, .ref q17, .int 0, .int 0, .ref q18, .int 0, .ref q19, .ref q20, .ref q21, .ref q22, .int (-1), .int 0, .int 0, .int 0, .int 0, .int 0, .ref q23, .ref q24, .ref q25, .null])), (q1, .inl (G.2.2 0, 960, .inl (fun _ => 0))), (q2, .inl (G.2.2 0, 6, .inl (fun _ => 0))), (q3, .inl (G.2.2 0, 160, .inl (fun _ => 0))), (q4, .inl (G.2.2 0, 24, .inl (fun _ => 0))), (q5, .inl (G.2.2 0, 6, .inl (fun _ => 0))), (q6, .inl (G.2.2 0, 6, .inl (fun _ => 0))), (q7, .inl (G.2.2 0, 6, .inl (fun _ => 0))), (q8, .inl (G.2.2 0, 6, .inl (fun _ => 0))), (q9, .inl (G.2.2 0, 5, .inl (fun _ => 0))), (q10, .inl (G.2.2 0, 5, .inl (fun _ => 0))), (q11, .inl (G.2.2 0, 5, .inl (fun _ => 0))), (q12, .inl (G.2.2 0, 192, .inl (fun _ => 0))), (q13, .inl (G.2.2 0, 5, .inl (fun _ => 0))), (q14, .inl (G.2.2 0, 120, .inl (fun _ => 0))), (q15, .inl (G.2.2 0, 192, .inl (fun _ => 0))), (q16, .inl (G.2.2 0, 249792, .inl (fun _ => 0))), (q17, .inl (G.2.2 0, 5, .inl (fun _ => 0))), (q18, .inl (G.2.2 0, 5, .inl (fun _ => 0))), (q19, .inl (G.2.2 0, 24, .inl (fun _ => 0))), (q20, .inl (G.2.2 0, 24, .inl (fun _ => 0))), (q21, .inl (G.2.2 0, 18, .inl (fun _ => 0))), (q22, .inl (G.2.2 0, 10, .inl (fun _ => 0))), (q23, .inl (G.2.2 1, 4, .inl (fun _ => 0))), (q24, .inl (G.2.2 0, 4, .inl (fun _ => 0))), (q25, .inl (G.2.2 0, 4, .inl (fun _ => 0)))]) rfl ?_
  refine B_num (mc' := 25) (ms' := 251588) rfl rfl ?_
  refine B_aload C 0 dX8_init_209 rfl rfl ?_
  refine B_sipush C (v := 160) dX8_init_210 rfl ?_
  refine B_newa C (N := 160) 0 wa_int rfl rfl ra_int rfl (by decide) rfl (Nat.le_of_ble_eq_true rfl) ⟨Nat.le_of_ble_eq_true rfl, Nat.le_of_ble_eq_true rfl⟩ dX8_init_213 (fun q26 => ?_)
  refine B_putF C I ff_X8_97 (by exact Nat.le_of_ble_eq_true rfl) dX8_init_215 ?_
  refine B_weq (ws' := [(q, .inr (8, [.int 0, .ref q1, .ref q2, .int 0, .int 0, .ref q3, .int 0, .ref q4, .int 0, .int 2, .int 0, .ref q5, .ref q6, .ref q7, .ref q8, .int 0, .ref q9, .ref q10, .ref q11, .int 0, .int 0, .int 0, .int 0, .int 0, .int 0, .int 0, .int 0, .int 0, .int 0, .int 0, .int 0, .long 0, .int 0, .int 0, .int 0, .ref q12, .ref q13, .ref q14, .ref q15, .int 0, .int 0, .int 0, .int 0, .ref q16, .int 0, .ref q17, .int 0, .int 0, .ref q18, .int 0, .ref q19, .ref q20, .ref q21, .ref q22, .int (-1), .int 0, .int 0, .int 0, .int 0, .int 0, .ref q23, .ref q24, .ref q25, .ref q26])), (q1, .inl (G.2.2 0, 960, .inl (fun _ => 0))), (q2, .inl (G.2.2 0, 6, .inl (fun _ => 0))), (q3, .inl (G.2.2 0, 160, .inl (fun _ => 0))), (q4, .inl (G.2.2 0, 24, .inl (fun _ => 0))), (q5, .inl (G.2.2 0, 6, .inl (fun _ => 0))), (q6, .inl (G.2.2 0, 6, .inl (fun _ => 0))), (q7, .inl (G.2.2 0, 6, .inl (fun _ => 0))), (q8, .inl (G.2.2 0, 6, .inl (fun _ => 0))), (q9, .inl (G.2.2 0, 5, .inl (fun _ => 0))), (q10, .inl (G.2.2 0, 5, .inl (fun _ => 0))), (q11, .inl (G.2.2 0, 5, .inl (fun _ => 0))), (q12, .inl (G.2.2 0, 192, .inl (fun _ => 0))), (q13, .inl (G.2.2 0, 5, .inl (fun _ => 0))), (q14, .inl (G.2.2 0, 120, .inl (fun _ => 0))), (q15, .inl (G.2.2 0, 192, .inl (fun _ => 0))), (q16, .inl (G.2.2 0, 249792, .inl (fun _ => 0))), (q17, .inl (G.2.2 0, 5, .inl (fun _ => 0))), (q18, .inl (G.2.2 0, 5, .inl (fun _ => 0))), (q19, .inl (G.2.2 0, 24, .inl (fun _ => 0))), (q20, .inl (G.2.2 0, 24, .inl (fun _ => 0))), (q21, .inl (G.2.2 0, 18, .inl (fun _ => 0))), (q22, .inl (G.2.2 0, 10, .inl (fun _ => 0))), (q23, .inl (G.2.2 1, 4, .inl (fun _ => 0))), (q24, .inl (G.2.2 0, 4, .inl (fun _ => 0))), (q25, .inl (G.2.2 0, 4, .inl (fun _ => 0))), (q26, .inl (G.2.2 0, 160, .inl (fun _ => 0)))]) rfl ?_
  refine B_num (mc' := 26) (ms' := 251748) rfl rfl ?_
  have had : ∀ k, 100 ≤ k → (b_GM G ad0 [q, q1, q2, q3, q4, q5, q6, q7, q8, q9, q10, q11, q12, q13, q14, q15, q16, q17, q18, q19, q20, q21, q22, q23, q24, q25, q26]).1 k = ad0 k := fun k hk => by
    show b_adM ad0 [q, q1, q2, q3, q4, q5, q6, q7, q8, q9, q10, q11, q12, q13, q14, q15, q16, q17, q18, q19, q20, q21, q22, q23, q24, q25, q26] k = ad0 k
    unfold b_adM
    rw [if_neg (by omega), if_neg (by omega)]
  refine B_weq (ws' := g_wl (b_GM G ad0 [q, q1, q2, q3, q4, q5, q6, q7, q8, q9, q10, q11, q12, q13, q14, q15, q16, q17, q18, q19, q20, q21, q22, q23, q24, q25, q26]) b_KM b_sM) rfl ?_
  have p0 : ∀ i, i < 0 → b_sM 64 i = b_by.getD i 0 := fun i hi => absurd hi (by omega)
  generalize hGM : b_GM G ad0 [q, q1, q2, q3, q4, q5, q6, q7, q8, q9, q10, q11, q12, q13, q14, q15, q16, q17, q18, q19, q20, q21, q22, q23, q24, q25, q26] = GM at had ⊢
  have eq63 : GM.1 63 = q := by rw [← hGM]; rfl
  have C2 : bCC X GM.2.1 (g_tys GM) A 1 cX8_init (g_RX 8) (b_rm 8 26 251748) := by rw [← hGM]; exact C
  have e2 : GM.2 = G.2 := by rw [← hGM]; rfl
  rw [← e2]
  rw [← eq63]
  refine B_aload C2 0 dX8_init_218 rfl rfl ?_
  refine B_iconst C2 (v := 0) dX8_init_219 rfl ?_
  refine B_bipush C2 (v := 102) dX8_init_220 rfl ?_
  refine B_bipush C2 (v := 97) dX8_init_222 rfl ?_
  refine B_bipush C2 (v := 108) dX8_init_224 rfl ?_
  refine B_bipush C2 (v := 108) dX8_init_226 rfl ?_
  refine B_bipush C2 (v := 115) dX8_init_228 rfl ?_
  refine B_bipush C2 (v := 32) dX8_init_230 rfl ?_
  refine B_bipush C2 (v := 114) dX8_init_232 rfl ?_
  refine B_bipush C2 (v := 97) dX8_init_234 rfl ?_
  refine B_gV (ws := []) (G := GM) (K := b_KM) (σ := b_sM) C2 E had KM_nd (k := 63) (As := [.int (nI 0), .int 102, .int 97, .int 108, .int 108, .int 115, .int 32, .int 114, .int 97]) (rest := []) cv_X8_100 (k_spell (h := 6) (by decide) b_sM (p := 0) (by decide) 102 97 108 108 115 32 114 97) ⟨_, _, _, _, rfl, rfl⟩ (by decide) kM_in (Nat.le_of_ble_eq_true rfl) (Nat.le_of_ble_eq_true rfl) rfl rfl (Nat.le_of_ble_eq_true rfl) ⟨Nat.le_of_ble_eq_true rfl, Nat.le_of_ble_eq_true rfl⟩ dX8_init_236 (fun rv s1 h0 => ?_)
  obtain ⟨rfl, t0, f0, g0⟩ := h0
  have p1 : ∀ i, i < 8 → s1 64 i = b_by.getD i 0 := sp_step (p := 0) p0 t0 f0
  refine B_weq (ws' := g_wl GM b_KM s1) rfl ?_
  refine B_steq (st' := []) rfl ?_
  refine B_aload C2 0 dX8_init_239 rfl rfl ?_
  refine B_bipush C2 (v := 8) dX8_init_240 rfl ?_
  refine B_bipush C2 (v := 116) dX8_init_242 rfl ?_
  refine B_bipush C2 (v := 101) dX8_init_244 rfl ?_
  refine B_bipush C2 (v := 32) dX8_init_246 rfl ?_
  refine B_bipush C2 (v := 42) dX8_init_248 rfl ?_
  refine B_bipush C2 (v := 32) dX8_init_250 rfl ?_
  refine B_bipush C2 (v := 114) dX8_init_252 rfl ?_
  refine B_bipush C2 (v := 97) dX8_init_254 rfl ?_
  refine B_bipush C2 (v := 105) dX8_init_256 rfl ?_
  refine B_gV (ws := []) (G := GM) (K := b_KM) (σ := s1) C2 E had KM_nd (k := 63) (As := [.int (nI 8), .int 116, .int 101, .int 32, .int 42, .int 32, .int 114, .int 97, .int 105]) (rest := []) cv_X8_100 (k_spell (h := 6) (by decide) s1 (p := 8) (by decide) 116 101 32 42 32 114 97 105) ⟨_, _, _, _, rfl, rfl⟩ (by decide) kM_in (Nat.le_of_ble_eq_true rfl) (Nat.le_of_ble_eq_true rfl) rfl rfl (Nat.le_of_ble_eq_true rfl) ⟨Nat.le_of_ble_eq_true rfl, Nat.le_of_ble_eq_true rfl⟩ dX8_init_258 (fun rv s2 h1 => ?_)
  obtain ⟨rfl, t1, f1, g1⟩ := h1
  have p2 : ∀ i, i < 16 → s2 64 i = b_by.getD i 0 := sp_step (p := 8) p1 t1 f1
  refine B_weq (ws' := g_wl GM b_KM s2) rfl ?_
  refine B_steq (st' := []) rfl ?_
  refine B_aload C2 0 dX8_init_261 rfl rfl ?_
  refine B_bipush C2 (v := 16) dX8_init_262 rfl ?_
  refine B_bipush C2 (v := 110) dX8_init_264 rfl ?_
  refine B_bipush C2 (v := 32) dX8_init_266 rfl ?_
  refine B_bipush C2 (v := 59) dX8_init_268 rfl ?_
  refine B_bipush C2 (v := 32) dX8_init_270 rfl ?_
  refine B_bipush C2 (v := 104) dX8_init_272 rfl ?_
  refine B_bipush C2 (v := 97) dX8_init_274 rfl ?_
  refine B_bipush C2 (v := 114) dX8_init_276 rfl ?_
  refine B_bipush C2 (v := 109) dX8_init_278 rfl ?_
  refine B_gV (ws := []) (G := GM) (K := b_KM) (σ := s2) C2 E had KM_nd (k := 63) (As := [.int (nI 16), .int 110, .int 32, .int 59, .int 32, .int 104, .int 97, .int 114, .int 109]) (rest := []) cv_X8_100 (k_spell (h := 6) (by decide) s2 (p := 16) (by decide) 110 32 59 32 104 97 114 109) ⟨_, _, _, _, rfl, rfl⟩ (by decide) kM_in (Nat.le_of_ble_eq_true rfl) (Nat.le_of_ble_eq_true rfl) rfl rfl (Nat.le_of_ble_eq_true rfl) ⟨Nat.le_of_ble_eq_true rfl, Nat.le_of_ble_eq_true rfl⟩ dX8_init_280 (fun rv s3 h2 => ?_)
  obtain ⟨rfl, t2, f2, g2⟩ := h2
  have p3 : ∀ i, i < 24 → s3 64 i = b_by.getD i 0 := sp_step (p := 16) p2 t2 f2
  refine B_weq (ws' := g_wl GM b_KM s3) rfl ?_
  refine B_steq (st' := []) rfl ?_
  refine B_aload C2 0 dX8_init_283 rfl rfl ?_
  refine B_bipush C2 (v := 24) dX8_init_284 rfl ?_
  refine B_bipush C2 (v := 115) dX8_init_286 rfl ?_
  refine B_bipush C2 (v := 32) dX8_init_288 rfl ?_
  refine B_bipush C2 (v := 115) dX8_init_290 rfl ?_
  refine B_bipush C2 (v := 105) dX8_init_292 rfl ?_
  refine B_bipush C2 (v := 122) dX8_init_294 rfl ?_
  refine B_bipush C2 (v := 101) dX8_init_296 rfl ?_
  refine B_bipush C2 (v := 32) dX8_init_298 rfl ?_
  refine B_bipush C2 (v := 42) dX8_init_300 rfl ?_
  refine B_gV (ws := []) (G := GM) (K := b_KM) (σ := s3) C2 E had KM_nd (k := 63) (As := [.int (nI 24), .int 115, .int 32, .int 115, .int 105, .int 122, .int 101, .int 32, .int 42]) (rest := []) cv_X8_100 (k_spell (h := 6) (by decide) s3 (p := 24) (by decide) 115 32 115 105 122 101 32 42) ⟨_, _, _, _, rfl, rfl⟩ (by decide) kM_in (Nat.le_of_ble_eq_true rfl) (Nat.le_of_ble_eq_true rfl) rfl rfl (Nat.le_of_ble_eq_true rfl) ⟨Nat.le_of_ble_eq_true rfl, Nat.le_of_ble_eq_true rfl⟩ dX8_init_302 (fun rv s4 h3 => ?_)
  obtain ⟨rfl, t3, f3, g3⟩ := h3
  have p4 : ∀ i, i < 32 → s4 64 i = b_by.getD i 0 := sp_step (p := 24) p3 t3 f3
  refine B_weq (ws' := g_wl GM b_KM s4) rfl ?_
  refine B_steq (st' := []) rfl ?_
  refine B_aload C2 0 dX8_init_305 rfl rfl ?_
  refine B_bipush C2 (v := 32) dX8_init_306 rfl ?_
  refine B_bipush C2 (v := 32) dX8_init_308 rfl ?_
  refine B_bipush C2 (v := 50) dX8_init_310 rfl ?_
  refine B_bipush C2 (v := 32) dX8_init_312 rfl ?_
  refine B_bipush C2 (v := 59) dX8_init_314 rfl ?_
  refine B_bipush C2 (v := 32) dX8_init_316 rfl ?_
  refine B_bipush C2 (v := 119) dX8_init_318 rfl ?_
  refine B_bipush C2 (v := 97) dX8_init_320 rfl ?_
  refine B_bipush C2 (v := 107) dX8_init_322 rfl ?_
  refine B_gV (ws := []) (G := GM) (K := b_KM) (σ := s4) C2 E had KM_nd (k := 63) (As := [.int (nI 32), .int 32, .int 50, .int 32, .int 59, .int 32, .int 119, .int 97, .int 107]) (rest := []) cv_X8_100 (k_spell (h := 6) (by decide) s4 (p := 32) (by decide) 32 50 32 59 32 119 97 107) ⟨_, _, _, _, rfl, rfl⟩ (by decide) kM_in (Nat.le_of_ble_eq_true rfl) (Nat.le_of_ble_eq_true rfl) rfl rfl (Nat.le_of_ble_eq_true rfl) ⟨Nat.le_of_ble_eq_true rfl, Nat.le_of_ble_eq_true rfl⟩ dX8_init_324 (fun rv s5 h4 => ?_)
  obtain ⟨rfl, t4, f4, g4⟩ := h4
  have p5 : ∀ i, i < 40 → s5 64 i = b_by.getD i 0 := sp_step (p := 32) p4 t4 f4
  refine B_weq (ws' := g_wl GM b_KM s5) rfl ?_
  refine B_steq (st' := []) rfl ?_
  refine B_aload C2 0 dX8_init_327 rfl rfl ?_
  refine B_bipush C2 (v := 40) dX8_init_328 rfl ?_
  refine B_bipush C2 (v := 101) dX8_init_330 rfl ?_
  refine B_bipush C2 (v := 115) dX8_init_332 rfl ?_
  refine B_bipush C2 (v := 32) dX8_init_334 rfl ?_
  refine B_bipush C2 (v := 53) dX8_init_336 rfl ?_
  refine B_bipush C2 (v := 32) dX8_init_338 rfl ?_
  refine B_bipush C2 (v := 59) dX8_init_340 rfl ?_
  refine B_bipush C2 (v := 32) dX8_init_342 rfl ?_
  refine B_bipush C2 (v := 32) dX8_init_344 rfl ?_
  refine B_gV (ws := []) (G := GM) (K := b_KM) (σ := s5) C2 E had KM_nd (k := 63) (As := [.int (nI 40), .int 101, .int 115, .int 32, .int 53, .int 32, .int 59, .int 32, .int 32]) (rest := []) cv_X8_100 (k_spell (h := 6) (by decide) s5 (p := 40) (by decide) 101 115 32 53 32 59 32 32) ⟨_, _, _, _, rfl, rfl⟩ (by decide) kM_in (Nat.le_of_ble_eq_true rfl) (Nat.le_of_ble_eq_true rfl) rfl rfl (Nat.le_of_ble_eq_true rfl) ⟨Nat.le_of_ble_eq_true rfl, Nat.le_of_ble_eq_true rfl⟩ dX8_init_346 (fun rv s6 h5 => ?_)
  obtain ⟨rfl, t5, f5, g5⟩ := h5
  have p6 : ∀ i, i < 48 → s6 64 i = b_by.getD i 0 := sp_step (p := 40) p5 t5 f5
  refine B_weq (ws' := g_wl GM b_KM s6) rfl ?_
  refine B_steq (st' := []) rfl ?_
  refine B_aload C2 0 dX8_init_349 rfl rfl ?_
  refine B_Lget C2 (k := 63) fl_X8_17 rfl rfl (by decide) dX8_init_350 ?_
  refine B_iconst C2 (v := 0) dX8_init_353 rfl ?_
  refine B_bipush C2 (v := 48) dX8_init_354 rfl ?_
  refine B_Liast C2 KM_nd (k := 65) (n := 6) rfl (by decide) (pk_in 0 6 (by decide)) dX8_init_356 ?_
  refine B_aload C2 0 dX8_init_357 rfl rfl ?_
  refine B_iconst C2 (v := 1) dX8_init_358 rfl ?_
  refine B_Lput C2 KM_nd (k := 63) (ts := [0, 67, 68, 0, 0, 69, 0, 70, 0, 0, 0, 71, 72, 73, 74, 0, 75, 76, 77, 0, 0, 0, 0, 0, 0, 0, 0, 0, 0, 0, 0, 1, 0, 0, 0, 78, 79, 80, 81, 0, 0, 0, 0, 82, 0, 83, 0, 0, 84, 0, 85, 86, 87, 88, 0, 0, 0, 0, 0, 0, 89, 90, 91, 92]) fl_X8_104 rfl rfl (by decide) dX8_init_359 ?_
  refine B_vret C2 I dX8_init_362 ⟨GM.1, g_up (g_up s6 65 (Int32.toNatClampNeg 0) 48) 63 3 1, rfl, fun k hk => ?_, ⟨fun j z1 z2 z3 => ?_, u_eq _ _ _ _, ?_, ?_, fun i hi => ?_, ?_, fun a ha j => ?_⟩, rfl⟩
  · rw [← hGM]
    show b_adM ad0 [q, q1, q2, q3, q4, q5, q6, q7, q8, q9, q10, q11, q12, q13, q14, q15, q16, q17, q18, q19, q20, q21, q22, q23, q24, q25, q26] k = ad0 k
    unfold b_adM
    rw [if_neg (by omega), if_neg (by omega)]
  · rw [u_ne z1, g_up_ne (by decide), g5 63 (by omega), g4 63 (by omega), g3 63 (by omega), g2 63 (by omega), g1 63 (by omega), g0 63 (by omega)]
    show (if j = 9 then (2 : Int32) else if j = 54 then -1 else 0) = 0
    rw [if_neg z2, if_neg z3]
  · rw [u_ne (by decide), g_up_ne (by decide), g5 63 (by omega), g4 63 (by omega), g3 63 (by omega), g2 63 (by omega), g1 63 (by omega), g0 63 (by omega)]
    rfl
  · rw [u_ne (by decide), g_up_ne (by decide), g5 63 (by omega), g4 63 (by omega), g3 63 (by omega), g2 63 (by omega), g1 63 (by omega), g0 63 (by omega)]
    rfl
  · rw [g_up_ne (by decide), g_up_ne (by decide)]
    exact p6 i hi
  · rw [g_up_ne (by decide)]
    exact u_eq _ _ _ _
  · rw [g_up_ne (by omega), g_up_ne (by omega), g5 a (by omega), g4 a (by omega), g3 a (by omega), g2 a (by omega), g1 a (by omega), g0 a (by omega)]
    show (if a = 63 then _ else (0 : Int32)) = 0
    rw [if_neg (by omega)]
