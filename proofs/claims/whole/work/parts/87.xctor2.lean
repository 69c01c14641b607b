/-! worlds by their members -/
theorem va_P.zperm {D : va_G} {cl : List vw_C} {ws ws' : va_W} {H : Heap} (p : ws.Perm ws') (h : va_P D cl ws H) : va_P D cl ws' H := fun k q hk => by
  obtain ⟨i, hi⟩ := List.getElem?_of_mem (p.mem_iff.mpr (List.mem_of_getElem? hk))
  exact h i q hi
theorem va_D.znd {A : Nat → Prop} {ws : va_W} : va_D A ws ↔ (ws.map (fun z => z.1)).Nodup ∧ ∀ q ∈ ws, A q.1 := by
  constructor
  · rintro ⟨h1, h2⟩
    refine ⟨?_, fun q hq => ?_⟩
    · rw [List.Nodup, List.pairwise_iff_getElem]
      intro i j hi hj hij e
      have hi' : i < ws.length := by simpa using hi
      have hj' : j < ws.length := by simpa using hj
      rw [List.getElem_map, List.getElem_map] at e
      have := h1 i j ws[i] ws[j] (List.getElem?_eq_getElem hi') (List.getElem?_eq_getElem hj') e
      omega
    · obtain ⟨i, hi⟩ := List.getElem?_of_mem hq
      exact h2 i q hi
  · rintro ⟨h1, h2⟩
    refine ⟨fun i j p q hi hj e => ?_, fun k q hk => h2 q (List.mem_of_getElem? hk)⟩
    have li := (List.getElem?_eq_some_iff.mp hi).1
    have hi' : (ws.map (fun z => z.1))[i]? = some p.1 := by rw [List.getElem?_map, hi]; rfl
    have hj' : (ws.map (fun z => z.1))[j]? = some p.1 := by rw [List.getElem?_map, hj, e]; rfl
    exact (List.getElem?_inj (by simpa using li) h1).mp (hi'.trans hj'.symm)
theorem va_D.zperm {A : Nat → Prop} {ws ws' : va_W} (p : ws.Perm ws') (h : va_D A ws) : va_D A ws' := by
  rw [va_D.znd] at h ⊢
  exact ⟨(p.map _).nodup_iff.mp h.1, fun q hq => h.2 q (p.mem_iff.mpr hq)⟩
theorem va_D.zmap {A : Nat → Prop} {ws ws' : va_W} (e : ws'.map (fun z => z.1) = ws.map (fun z => z.1)) (h : va_D A ws) : va_D A ws' := by
  rw [va_D.znd] at h ⊢
  refine ⟨by rw [e]; exact h.1, fun q hq => ?_⟩
  have : q.1 ∈ ws.map (fun z => z.1) := by rw [← e]; exact List.mem_map.mpr ⟨q, hq, rfl⟩
  obtain ⟨z, hz, ez⟩ := List.mem_map.mp this
  rw [← ez]
  exact h.2 z hz
theorem b_perm {α : Type} (x : α) (a b r c d T S : List α) : (x :: (a ++ (b ++ (r ++ (c ++ (d ++ (T ++ S))))))).Perm ((x :: (((a ++ b) ++ (c ++ d)) ++ S)) ++ (r ++ T)) := by
  have e : (x :: (((a ++ b) ++ (c ++ d)) ++ S)) ++ (r ++ T) = x :: (a ++ (b ++ (c ++ (d ++ (S ++ (r ++ T)))))) := by simp only [List.cons_append, List.append_assoc]
  rw [e]
  refine List.Perm.cons x (List.Perm.append_left a (List.Perm.append_left b ?_))
  have e1 : (c ++ (d ++ (T ++ S))) ++ r = c ++ (d ++ (T ++ (S ++ r))) := by simp only [List.append_assoc]
  have e2 : (S ++ r) ++ T = S ++ (r ++ T) := by simp only [List.append_assoc]
  have h1 : (r ++ (c ++ (d ++ (T ++ S)))).Perm (c ++ (d ++ (T ++ (S ++ r)))) := by rw [← e1]; exact List.perm_append_comm
  have h2 : (T ++ (S ++ r)).Perm (S ++ (r ++ T)) := by rw [← e2]; exact List.perm_append_comm
  exact h1.trans (List.Perm.append_left c (List.Perm.append_left d h2))
theorem b_two {D : va_G} {H : Heap} {x : Nat × va_E} {l1 l2 l3 l4 l5 : va_W} {ta sa n1 n2 : Nat} {c1 c2 : ClassId} {f1 f2 g1 g2 : Nat → Option Nat} (hP : va_P D g_cl ((((x :: ((l1 ++ [(ta, .inl (c1, n1, .inr (.inr (.inr (.inr f1))))), (sa, .inl (c2, n2, .inr (.inr (.inr (.inr f2)))))]) ++ l2)) ++ l3) ++ l4) ++ l5) H) (e1 : ∀ j, j < n1 → f1 j = g1 j) (e2 : ∀ j, j < n2 → f2 j = g2 j) : va_P D g_cl ((((x :: ((l1 ++ [(ta, .inl (c1, n1, .inr (.inr (.inr (.inr g1))))), (sa, .inl (c2, n2, .inr (.inr (.inr (.inr g2)))))]) ++ l2)) ++ l3) ++ l4) ++ l5) H := by
  have mem : ∀ z, z ∈ ((((x :: ((l1 ++ [(ta, .inl (c1, n1, .inr (.inr (.inr (.inr f1))))), (sa, .inl (c2, n2, .inr (.inr (.inr (.inr f2)))))]) ++ l2)) ++ l3) ++ l4) ++ l5) → va_at D g_cl z H := fun z hz => by
    obtain ⟨i, hi⟩ := List.getElem?_of_mem hz
    exact hP i z hi
  intro k z hk
  have hz := List.mem_of_getElem? hk
  simp only [List.mem_append, List.mem_cons, List.not_mem_nil, or_false] at hz mem
  rcases hz with (((hz | ((hz | hz | hz) | hz)) | hz) | hz) | hz
  · exact mem z (Or.inl (Or.inl (Or.inl (Or.inl hz))))
  · exact mem z (Or.inl (Or.inl (Or.inl (Or.inr (Or.inl (Or.inl hz))))))
  · subst hz
    have := mem (ta, .inl (c1, n1, .inr (.inr (.inr (.inr f1))))) (Or.inl (Or.inl (Or.inl (Or.inr (Or.inl (Or.inr (Or.inl rfl)))))))
    show H[ta]? = some (vp_cell c1 (n1, .inr (.inr (.inr (.inr g1)))))
    rw [← b_cellq e1]
    exact this
  · subst hz
    have := mem (sa, .inl (c2, n2, .inr (.inr (.inr (.inr f2))))) (Or.inl (Or.inl (Or.inl (Or.inr (Or.inl (Or.inr (Or.inr rfl)))))))
    show H[sa]? = some (vp_cell c2 (n2, .inr (.inr (.inr (.inr g2)))))
    rw [← b_cellq e2]
    exact this
  · exact mem z (Or.inl (Or.inl (Or.inl (Or.inr (Or.inr hz)))))
  · exact mem z (Or.inl (Or.inl (Or.inr hz)))
  · exact mem z (Or.inl (Or.inr hz))
  · exact mem z (Or.inr hz)
/-! THE CLASS'S CONSTRUCTOR: from the first text on -/
set_option maxHeartbeats 16000000 in
set_option maxRecDepth 100000 in
theorem b7_end {X : gX} {A : Nat → Prop} (G : gG) (ad0 : Nat → Nat) (q h1 h2 rd ta sa t0 t1 t2 t3 t4 t5 s0 s1 s2 s3 : Nat) (v1 v2 vr ut0 ut1 ut2 ut3 ut4 ut5 us0 us1 us2 us3 : Nat → Nat) (C : bCC X G.2.1 (g_tys G) A 2 cX7_init (g_RX 7) (b_rm 50 62 2322)) (I : bI X) (E : bEX X ad0 A) : bV X G.2.1 A 2 (bQ X G.2.1 A (fun W => ∃ (vs : List Nat) (σ : gS), vs.getD 0 0 = q ∧ b_FX σ ∧ ∀ ad : Nat → Nat, (∀ H, va_P G.2.1 g_cl W H → va_P G.2.1 g_cl (g_wl (b_GX G ad vs) b_KX σ) H) ∧ ∀ B, va_D B W → va_D B (g_wl (b_GX G ad vs) b_KX σ)) 62 2322) ((q, .inr (7, [.ref h1, .ref h2, .int 0, .ref rd, .ref ta, .int 0, .null, .null, .ref sa])) :: (((((((((((((((wX1 G h1 v1) ++ wX1 G h2 v2) ++ wX2 G rd vr) ++ [(ta, .inl (G.2.2 2, 6, .inr (.inr (.inr (.inr (va_up (va_up (va_up (va_up (va_up (va_up (fun _ => none) 0 (some t0)) 1 (some t1)) 2 (some t2)) 3 (some t3)) 4 (some t4)) 5 (some t5)))))))]) ++ [(sa, .inl (G.2.2 3, 4, .inr (.inr (.inr (.inr (va_up (va_up (va_up (va_up (fun _ => none) 0 (some s0)) 1 (some s1)) 2 (some s2)) 3 (some s3)))))))]) ++ wX6 G t0 ut0) ++ wX6 G t1 ut1) ++ wX6 G t2 ut2) ++ wX6 G t3 ut3) ++ wX6 G t4 ut4) ++ wX6 G t5 ut5) ++ wX4 G s0 us0) ++ wX4 G s1 us1) ++ wX4 G s2 us2) ++ wX4 G s3 us3)) [(1, .int 4), (0, .ref q)] [] 48 1496 107 := by
  refine B_iconst C (v := 0) dX7_init_107 rfl ?_
  refine B_istore C [(1, .int 0), (0, .ref q)] dX7_init_108 rfl (by decide) rfl ?_
  have eK : g_wl (b_GX G ad0 [q, h1, v1 0, v1 1, v1 2, v1 3, v1 4, v1 5, v1 6, v1 7, h2, v2 0, v2 1, v2 2, v2 3, v2 4, v2 5, v2 6, v2 7, rd, vr 0, ta, sa, 0, 0, 0, 0, 0, 0, 0, 0, 0, 0, 0, 0, 0, 0, s0, us0 0, s1, us1 0, s2, us2 0, s3, us3 0, t0, ut0 0, ut0 1, t1, ut1 0, ut1 1, t2, ut2 0, ut2 1, t3, ut3 0, ut3 1, t4, ut4 0, ut4 1, t5, ut5 0, ut5 1]) b_KR b_s0 = wX2 G rd vr ++ (wX6 G t0 ut0 ++ (wX6 G t1 ut1 ++ (wX6 G t2 ut2 ++ (wX6 G t3 ut3 ++ (wX6 G t4 ut4 ++ wX6 G t5 ut5))))) := rfl
  have eW : (q, .inr (7, [.ref h1, .ref h2, .int 0, .ref rd, .ref ta, .int 0, .null, .null, .ref sa])) :: (((((((((((((((wX1 G h1 v1) ++ wX1 G h2 v2) ++ wX2 G rd vr) ++ [(ta, .inl (G.2.2 2, 6, .inr (.inr (.inr (.inr (va_up (va_up (va_up (va_up (va_up (va_up (fun _ => none) 0 (some t0)) 1 (some t1)) 2 (some t2)) 3 (some t3)) 4 (some t4)) 5 (some t5)))))))]) ++ [(sa, .inl (G.2.2 3, 4, .inr (.inr (.inr (.inr (va_up (va_up (va_up (va_up (fun _ => none) 0 (some s0)) 1 (some s1)) 2 (some s2)) 3 (some s3)))))))]) ++ wX6 G t0 ut0) ++ wX6 G t1 ut1) ++ wX6 G t2 ut2) ++ wX6 G t3 ut3) ++ wX6 G t4 ut4) ++ wX6 G t5 ut5) ++ wX4 G s0 us0) ++ wX4 G s1 us1) ++ wX4 G s2 us2) ++ wX4 G s3 us3) = (q, .inr (7, [.ref h1, .ref h2, .int 0, .ref rd, .ref ta, .int 0, .null, .null, .ref sa])) :: (wX1 G h1 v1 ++ (wX1 G h2 v2 ++ (wX2 G rd vr ++ ([(ta, .inl (G.2.2 2, 6, .inr (.inr (.inr (.inr (va_up (va_up (va_up (va_up (va_up (va_up (fun _ => none) 0 (some t0)) 1 (some t1)) 2 (some t2)) 3 (some t3)) 4 (some t4)) 5 (some t5)))))))] ++ ([(sa, .inl (G.2.2 3, 4, .inr (.inr (.inr (.inr (va_up (va_up (va_up (va_up (fun _ => none) 0 (some s0)) 1 (some s1)) 2 (some s2)) 3 (some s3)))))))] ++ ((wX6 G t0 ut0 ++ (wX6 G t1 ut1 ++ (wX6 G t2 ut2 ++ (wX6 G t3 ut3 ++ (wX6 G t4 ut4 ++ wX6 G t5 ut5))))) ++ (wX4 G s0 us0 ++ (wX4 G s1 us1 ++ (wX4 G s2 us2 ++ wX4 G s3 us3))))))))) := by simp only [List.append_assoc]
  refine B_weq eW ?_
  have pW : ((q, .inr (7, [.ref h1, .ref h2, .int 0, .ref rd, .ref ta, .int 0, .null, .null, .ref sa])) :: (wX1 G h1 v1 ++ (wX1 G h2 v2 ++ (wX2 G rd vr ++ ([(ta, .inl (G.2.2 2, 6, .inr (.inr (.inr (.inr (va_up (va_up (va_up (va_up (va_up (va_up (fun _ => none) 0 (some t0)) 1 (some t1)) 2 (some t2)) 3 (some t3)) 4 (some t4)) 5 (some t5)))))))] ++ ([(sa, .inl (G.2.2 3, 4, .inr (.inr (.inr (.inr (va_up (va_up (va_up (va_up (fun _ => none) 0 (some s0)) 1 (some s1)) 2 (some s2)) 3 (some s3)))))))] ++ ((wX6 G t0 ut0 ++ (wX6 G t1 ut1 ++ (wX6 G t2 ut2 ++ (wX6 G t3 ut3 ++ (wX6 G t4 ut4 ++ wX6 G t5 ut5))))) ++ (wX4 G s0 us0 ++ (wX4 G s1 us1 ++ (wX4 G s2 us2 ++ wX4 G s3 us3)))))))))).Perm (((q, .inr (7, [.ref h1, .ref h2, .int 0, .ref rd, .ref ta, .int 0, .null, .null, .ref sa])) :: (((wX1 G h1 v1 ++ wX1 G h2 v2) ++ [(ta, .inl (G.2.2 2, 6, .inr (.inr (.inr (.inr (va_up (va_up (va_up (va_up (va_up (va_up (fun _ => none) 0 (some t0)) 1 (some t1)) 2 (some t2)) 3 (some t3)) 4 (some t4)) 5 (some t5))))))), (sa, .inl (G.2.2 3, 4, .inr (.inr (.inr (.inr (va_up (va_up (va_up (va_up (fun _ => none) 0 (some s0)) 1 (some s1)) 2 (some s2)) 3 (some s3)))))))]) ++ (wX4 G s0 us0 ++ (wX4 G s1 us1 ++ (wX4 G s2 us2 ++ wX4 G s3 us3))))) ++ g_wl (b_GX G ad0 [q, h1, v1 0, v1 1, v1 2, v1 3, v1 4, v1 5, v1 6, v1 7, h2, v2 0, v2 1, v2 2, v2 3, v2 4, v2 5, v2 6, v2 7, rd, vr 0, ta, sa, 0, 0, 0, 0, 0, 0, 0, 0, 0, 0, 0, 0, 0, 0, s0, us0 0, s1, us1 0, s2, us2 0, s3, us3 0, t0, ut0 0, ut0 1, t1, ut1 0, ut1 1, t2, ut2 0, ut2 1, t3, ut3 0, ut3 1, t4, ut4 0, ut4 1, t5, ut5 0, ut5 1]) b_KR b_s0) := by
    rw [eK]
    exact b_perm (q, .inr (7, [.ref h1, .ref h2, .int 0, .ref rd, .ref ta, .int 0, .null, .null, .ref sa])) (wX1 G h1 v1) (wX1 G h2 v2) (wX2 G rd vr) [(ta, .inl (G.2.2 2, 6, .inr (.inr (.inr (.inr (va_up (va_up (va_up (va_up (va_up (va_up (fun _ => none) 0 (some t0)) 1 (some t1)) 2 (some t2)) 3 (some t3)) 4 (some t4)) 5 (some t5)))))))] [(sa, .inl (G.2.2 3, 4, .inr (.inr (.inr (.inr (va_up (va_up (va_up (va_up (fun _ => none) 0 (some s0)) 1 (some s1)) 2 (some s2)) 3 (some s3)))))))] (wX6 G t0 ut0 ++ (wX6 G t1 ut1 ++ (wX6 G t2 ut2 ++ (wX6 G t3 ut3 ++ (wX6 G t4 ut4 ++ wX6 G t5 ut5))))) (wX4 G s0 us0 ++ (wX4 G s1 us1 ++ (wX4 G s2 us2 ++ wX4 G s3 us3)))
  refine B_world (fun H hP => va_P.zperm pW hP) (fun hD => va_D.zperm pW hD) ?_
  refine tk_loop (mc := 48) (ms := 1496) G ad0 q [q, h1, v1 0, v1 1, v1 2, v1 3, v1 4, v1 5, v1 6, v1 7, h2, v2 0, v2 1, v2 2, v2 3, v2 4, v2 5, v2 6, v2 7, rd, vr 0, ta, sa, 0, 0, 0, 0, 0, 0, 0, 0, 0, 0, 0, 0, 0, 0, s0, us0 0, s1, us1 0, s2, us2 0, s3, us3 0, t0, ut0 0, ut0 1, t1, ut1 0, ut1 1, t2, ut2 0, ut2 1, t3, ut3 0, ut3 1, t4, ut4 0, ut4 1, t5, ut5 0, ut5 1] (((wX1 G h1 v1 ++ wX1 G h2 v2) ++ [(ta, .inl (G.2.2 2, 6, .inr (.inr (.inr (.inr (va_up (va_up (va_up (va_up (va_up (va_up (fun _ => none) 0 (some t0)) 1 (some t1)) 2 (some t2)) 3 (some t3)) 4 (some t4)) 5 (some t5))))))), (sa, .inl (G.2.2 3, 4, .inr (.inr (.inr (.inr (va_up (va_up (va_up (va_up (fun _ => none) 0 (some s0)) 1 (some s1)) 2 (some s2)) 3 (some s3)))))))]) ++ (wX4 G s0 us0 ++ (wX4 G s1 us1 ++ (wX4 G s2 us2 ++ wX4 G s3 us3)))) [.ref h1, .ref h2, .int 0, .ref rd, .ref ta, .int 0, .null, .null, .ref sa] C E rfl ⟨by exact Nat.le_of_ble_eq_true rfl, by exact Nat.le_of_ble_eq_true rfl⟩ ⟨by exact Nat.le_of_ble_eq_true rfl, by exact Nat.le_of_ble_eq_true rfl⟩ (fun σ w1 w2 w3 => ?_) 46 0 b_s0 rfl rfl (fun j hj => absurd hj (by omega)) (fun _ _ _ => rfl)
  have had : ∀ k, 100 ≤ k → (b_GX G ad0 [q, h1, v1 0, v1 1, v1 2, v1 3, v1 4, v1 5, v1 6, v1 7, h2, v2 0, v2 1, v2 2, v2 3, v2 4, v2 5, v2 6, v2 7, rd, vr 0, ta, sa, 0, 0, 0, 0, 0, 0, 0, 0, 0, 0, 0, 0, 0, 0, s0, us0 0, s1, us1 0, s2, us2 0, s3, us3 0, t0, ut0 0, ut0 1, t1, ut1 0, ut1 1, t2, ut2 0, ut2 1, t3, ut3 0, ut3 1, t4, ut4 0, ut4 1, t5, ut5 0, ut5 1]).1 k = ad0 k := fun k hk => if_neg (by omega)
  refine B_aload C 1 dX7_init_138 rfl rfl ?_
  refine B_get C 0 fl_X7_22 rfl rfl dX7_init_139 ?_
  refine B_aload C 1 dX7_init_142 rfl rfl ?_
  refine B_get C 0 fl_X7_28 rfl rfl dX7_init_143 ?_
  refine B_iconst C (v := 0) dX7_init_146 rfl ?_
  refine B_aald C (v := t0) 19 2 rfl rfl (pk_in 0 6 (by decide)) rfl dX7_init_147 ?_
  refine B_gV (mc := 48) (ms := 1496) (ws := ((q, .inr (7, [.ref h1, .ref h2, .int 0, .ref rd, .ref ta, .int 0, .null, .null, .ref sa])) :: (((wX1 G h1 v1 ++ wX1 G h2 v2) ++ [(ta, .inl (G.2.2 2, 6, .inr (.inr (.inr (.inr (va_up (va_up (va_up (va_up (va_up (va_up (fun _ => none) 0 (some t0)) 1 (some t1)) 2 (some t2)) 3 (some t3)) 4 (some t4)) 5 (some t5))))))), (sa, .inl (G.2.2 3, 4, .inr (.inr (.inr (.inr (va_up (va_up (va_up (va_up (fun _ => none) 0 (some s0)) 1 (some s1)) 2 (some s2)) 3 (some s3)))))))]) ++ (wX4 G s0 us0 ++ (wX4 G s1 us1 ++ (wX4 G s2 us2 ++ wX4 G s3 us3)))))) (G := b_GX G ad0 [q, h1, v1 0, v1 1, v1 2, v1 3, v1 4, v1 5, v1 6, v1 7, h2, v2 0, v2 1, v2 2, v2 3, v2 4, v2 5, v2 6, v2 7, rd, vr 0, ta, sa, 0, 0, 0, 0, 0, 0, 0, 0, 0, 0, 0, 0, 0, 0, s0, us0 0, s1, us1 0, s2, us2 0, s3, us3 0, t0, ut0 0, ut0 1, t1, ut1 0, ut1 1, t2, ut2 0, ut2 1, t3, ut3 0, ut3 1, t4, ut4 0, ut4 1, t5, ut5 0, ut5 1]) (K := b_KR) (σ := σ) (bC_new C rfl) E had KR_nd (k := 19) (As := [.ref (45 + 3 * 0)]) (rest := []) cv_X7_56 (k_X2_readT (h := 47) (by decide) σ (b := b_ch) (n := 46) (t := 0) (by decide) (by decide) w1 w2 ch_in) ⟨_, _, _, _, rfl, rfl⟩ (by decide) kR_in (Nat.le_of_ble_eq_true rfl) (Nat.le_of_ble_eq_true rfl) rfl rfl (Nat.le_of_ble_eq_true rfl) ⟨Nat.le_of_ble_eq_true rfl, Nat.le_of_ble_eq_true rfl⟩ dX7_init_148 (fun rv s hq => ?_)
  obtain ⟨x1, x2, x3, x4, -⟩ := hq
  obtain ⟨rfl, x5, x6⟩ := x4 ch_fa
  refine B_steq (st' := [.int (-1)]) rfl ?_
  refine B_pop C dX7_init_151 rfl ?_
  refine B_aload C 1 dX7_init_152 rfl rfl ?_
  refine B_iconst C (v := 1) dX7_init_153 rfl ?_
  refine B_put C fl_X7_60 (by decide) (by exact Nat.le_of_ble_eq_true rfl) rfl rfl dX7_init_154 ?_
  refine B_weq (ws' := ((q, .inr (7, [.ref h1, .ref h2, .int 0, .ref rd, .ref ta, .int 1, .null, .null, .ref sa])) :: (((wX1 G h1 v1 ++ wX1 G h2 v2) ++ [(ta, .inl (G.2.2 2, 6, .inr (.inr (.inr (.inr (va_up (va_up (va_up (va_up (va_up (va_up (fun _ => none) 0 (some t0)) 1 (some t1)) 2 (some t2)) 3 (some t3)) 4 (some t4)) 5 (some t5))))))), (sa, .inl (G.2.2 3, 4, .inr (.inr (.inr (.inr (va_up (va_up (va_up (va_up (fun _ => none) 0 (some s0)) 1 (some s1)) 2 (some s2)) 3 (some s3)))))))]) ++ (wX4 G s0 us0 ++ (wX4 G s1 us1 ++ (wX4 G s2 us2 ++ wX4 G s3 us3))))) ++ g_wl (b_GX G ad0 [q, h1, v1 0, v1 1, v1 2, v1 3, v1 4, v1 5, v1 6, v1 7, h2, v2 0, v2 1, v2 2, v2 3, v2 4, v2 5, v2 6, v2 7, rd, vr 0, ta, sa, 0, 0, 0, 0, 0, 0, 0, 0, 0, 0, 0, 0, 0, 0, s0, us0 0, s1, us1 0, s2, us2 0, s3, us3 0, t0, ut0 0, ut0 1, t1, ut1 0, ut1 1, t2, ut2 0, ut2 1, t3, ut3 0, ut3 1, t4, ut4 0, ut4 1, t5, ut5 0, ut5 1]) b_KR s) rfl ?_
  refine B_aload C 1 dX7_init_157 rfl rfl ?_
  refine B_new C nf_X7_64 ⟨Nat.le_of_ble_eq_true rfl, Nat.le_of_ble_eq_true rfl⟩ dX7_init_158 (fun ru => ?_)
  refine B_dup C dX7_init_161 rfl ?_
  refine B_aload C 1 dX7_init_162 rfl rfl ?_
  refine B_get C 0 fl_X7_28 rfl rfl dX7_init_163 ?_
  refine B_iconst C (v := 0) dX7_init_166 rfl ?_
  refine B_aald C (v := t0) 19 2 rfl rfl (pk_in 0 6 (by decide)) rfl dX7_init_167 ?_
  refine B_ctor C E (As := [.ref t0]) (rest := [.ref ru, .ref q]) ci_X7_66 (k_b3 G ad0 ru t0) (Nat.le_of_ble_eq_true rfl) (Nat.le_of_ble_eq_true rfl) rfl rfl (Nat.le_of_ble_eq_true rfl) ⟨Nat.le_of_ble_eq_true rfl, Nat.le_of_ble_eq_true rfl⟩ dX7_init_168 (fun W hW => ?_)
  obtain ⟨vu, rfl⟩ := hW
  refine B_putF C I ff_X7_69 (by exact Nat.le_of_ble_eq_true rfl) dX7_init_171 ?_
  refine B_weq (ws' := (((q, .inr (7, [.ref h1, .ref h2, .int 0, .ref rd, .ref ta, .int 1, .ref ru, .null, .ref sa])) :: (((wX1 G h1 v1 ++ wX1 G h2 v2) ++ [(ta, .inl (G.2.2 2, 6, .inr (.inr (.inr (.inr (va_up (va_up (va_up (va_up (va_up (va_up (fun _ => none) 0 (some t0)) 1 (some t1)) 2 (some t2)) 3 (some t3)) 4 (some t4)) 5 (some t5))))))), (sa, .inl (G.2.2 3, 4, .inr (.inr (.inr (.inr (va_up (va_up (va_up (va_up (fun _ => none) 0 (some s0)) 1 (some s1)) 2 (some s2)) 3 (some s3)))))))]) ++ (wX4 G s0 us0 ++ (wX4 G s1 us1 ++ (wX4 G s2 us2 ++ wX4 G s3 us3))))) ++ g_wl (b_GX G ad0 [q, h1, v1 0, v1 1, v1 2, v1 3, v1 4, v1 5, v1 6, v1 7, h2, v2 0, v2 1, v2 2, v2 3, v2 4, v2 5, v2 6, v2 7, rd, vr 0, ta, sa, 0, 0, 0, 0, 0, 0, 0, 0, 0, 0, 0, 0, 0, 0, s0, us0 0, s1, us1 0, s2, us2 0, s3, us3 0, t0, ut0 0, ut0 1, t1, ut1 0, ut1 1, t2, ut2 0, ut2 1, t3, ut3 0, ut3 1, t4, ut4 0, ut4 1, t5, ut5 0, ut5 1]) b_KR s) ++ wX3 G ru vu t0) rfl ?_
  refine B_num (mc' := 51) (ms' := 1665) rfl rfl ?_
  refine B_aload C 1 dX7_init_174 rfl rfl ?_
  refine B_new C nf_X7_73 ⟨Nat.le_of_ble_eq_true rfl, Nat.le_of_ble_eq_true rfl⟩ dX7_init_175 (fun dy => ?_)
  refine B_dup C dX7_init_178 rfl ?_
  refine B_aload C 1 dX7_init_179 rfl rfl ?_
  refine B_get C 0 fl_X7_12 rfl rfl dX7_init_180 ?_
  refine B_aload C 1 dX7_init_183 rfl rfl ?_
  refine B_get C 0 fl_X7_69 rfl rfl dX7_init_184 ?_
  refine B_ctor C E (As := [.ref h1, .ref ru]) (rest := [.ref dy, .ref q]) ci_X7_75 (k_b0 G ad0 dy h1 ru) (Nat.le_of_ble_eq_true rfl) (Nat.le_of_ble_eq_true rfl) rfl rfl (Nat.le_of_ble_eq_true rfl) ⟨Nat.le_of_ble_eq_true rfl, Nat.le_of_ble_eq_true rfl⟩ dX7_init_187 (fun W hW => ?_)
  obtain ⟨vd, ud, rfl⟩ := hW
  refine B_putF C I ff_X7_78 (by exact Nat.le_of_ble_eq_true rfl) dX7_init_190 ?_
  refine B_weq (ws' := ((((q, .inr (7, [.ref h1, .ref h2, .int 0, .ref rd, .ref ta, .int 1, .ref ru, .ref dy, .ref sa])) :: (((wX1 G h1 v1 ++ wX1 G h2 v2) ++ [(ta, .inl (G.2.2 2, 6, .inr (.inr (.inr (.inr (va_up (va_up (va_up (va_up (va_up (va_up (fun _ => none) 0 (some t0)) 1 (some t1)) 2 (some t2)) 3 (some t3)) 4 (some t4)) 5 (some t5))))))), (sa, .inl (G.2.2 3, 4, .inr (.inr (.inr (.inr (va_up (va_up (va_up (va_up (fun _ => none) 0 (some s0)) 1 (some s1)) 2 (some s2)) 3 (some s3)))))))]) ++ (wX4 G s0 us0 ++ (wX4 G s1 us1 ++ (wX4 G s2 us2 ++ wX4 G s3 us3))))) ++ g_wl (b_GX G ad0 [q, h1, v1 0, v1 1, v1 2, v1 3, v1 4, v1 5, v1 6, v1 7, h2, v2 0, v2 1, v2 2, v2 3, v2 4, v2 5, v2 6, v2 7, rd, vr 0, ta, sa, 0, 0, 0, 0, 0, 0, 0, 0, 0, 0, 0, 0, 0, 0, s0, us0 0, s1, us1 0, s2, us2 0, s3, us3 0, t0, ut0 0, ut0 1, t1, ut1 0, ut1 1, t2, ut2 0, ut2 1, t3, ut3 0, ut3 1, t4, ut4 0, ut4 1, t5, ut5 0, ut5 1]) b_KR s) ++ wX3 G ru vu t0) ++ wX0 G dy vd ud h1 ru) rfl ?_
  refine B_num (mc' := 62) (ms' := 2322) rfl rfl ?_
  refine B_vret C I dX7_init_193 ⟨[q, h1, v1 0, v1 1, v1 2, v1 3, v1 4, v1 5, v1 6, v1 7, h2, v2 0, v2 1, v2 2, v2 3, v2 4, v2 5, v2 6, v2 7, rd, vr 0, ta, sa, ru, vu 0, vu 1, dy, vd 0, vd 1, vd 2, vd 3, vd 4, vd 5, vd 6, ud 0, ud 1, ud 2, s0, us0 0, s1, us1 0, s2, us2 0, s3, us3 0, t0, ut0 0, ut0 1, t1, ut1 0, ut1 1, t2, ut2 0, ut2 1, t3, ut3 0, ut3 1, t4, ut4 0, ut4 1, t5, ut5 0, ut5 1], (b_sF s), rfl, fx_of x3 x5 x6, fun ad => ⟨fun H hP => ?_, fun B hD => ?_⟩⟩
  all_goals have hK : g_wl (b_GX G ad0 [q, h1, v1 0, v1 1, v1 2, v1 3, v1 4, v1 5, v1 6, v1 7, h2, v2 0, v2 1, v2 2, v2 3, v2 4, v2 5, v2 6, v2 7, rd, vr 0, ta, sa, 0, 0, 0, 0, 0, 0, 0, 0, 0, 0, 0, 0, 0, 0, s0, us0 0, s1, us1 0, s2, us2 0, s3, us3 0, t0, ut0 0, ut0 1, t1, ut1 0, ut1 1, t2, ut2 0, ut2 1, t3, ut3 0, ut3 1, t4, ut4 0, ut4 1, t5, ut5 0, ut5 1]) b_KR s = g_wl (b_GX G ad [q, h1, v1 0, v1 1, v1 2, v1 3, v1 4, v1 5, v1 6, v1 7, h2, v2 0, v2 1, v2 2, v2 3, v2 4, v2 5, v2 6, v2 7, rd, vr 0, ta, sa, ru, vu 0, vu 1, dy, vd 0, vd 1, vd 2, vd 3, vd 4, vd 5, vd 6, ud 0, ud 1, ud 2, s0, us0 0, s1, us1 0, s2, us2 0, s3, us3 0, t0, ut0 0, ut0 1, t1, ut1 0, ut1 1, t2, ut2 0, ut2 1, t3, ut3 0, ut3 1, t4, ut4 0, ut4 1, t5, ut5 0, ut5 1]) b_KR (b_sF s) := rd_same x1 (kR_all ⟨rfl, rfl, rfl, rfl, rfl, rfl, rfl, rfl, rfl, rfl, rfl, rfl, rfl, rfl, rfl, rfl, rfl, rfl, rfl, rfl⟩) (fun k hk => funext fun j => if_pos (kR_tr k hk))
  all_goals have e6 : (q, .inr (7, [.ref h1, .ref h2, .int 0, .ref rd, .ref ta, .int 1, .ref ru, .ref dy, .ref sa])) :: (((wX1 G h1 v1 ++ wX1 G h2 v2) ++ [(ta, .inl (G.2.2 2, 6, .inr (.inr (.inr (.inr (fun j => some (b_adX ad [q, h1, v1 0, v1 1, v1 2, v1 3, v1 4, v1 5, v1 6, v1 7, h2, v2 0, v2 1, v2 2, v2 3, v2 4, v2 5, v2 6, v2 7, rd, vr 0, ta, sa, ru, vu 0, vu 1, dy, vd 0, vd 1, vd 2, vd 3, vd 4, vd 5, vd 6, ud 0, ud 1, ud 2, s0, us0 0, s1, us1 0, s2, us2 0, s3, us3 0, t0, ut0 0, ut0 1, t1, ut1 0, ut1 1, t2, ut2 0, ut2 1, t3, ut3 0, ut3 1, t4, ut4 0, ut4 1, t5, ut5 0, ut5 1] (45 + 3 * j)))))))), (sa, .inl (G.2.2 3, 4, .inr (.inr (.inr (.inr (fun j => some (b_adX ad [q, h1, v1 0, v1 1, v1 2, v1 3, v1 4, v1 5, v1 6, v1 7, h2, v2 0, v2 1, v2 2, v2 3, v2 4, v2 5, v2 6, v2 7, rd, vr 0, ta, sa, ru, vu 0, vu 1, dy, vd 0, vd 1, vd 2, vd 3, vd 4, vd 5, vd 6, ud 0, ud 1, ud 2, s0, us0 0, s1, us1 0, s2, us2 0, s3, us3 0, t0, ut0 0, ut0 1, t1, ut1 0, ut1 1, t2, ut2 0, ut2 1, t3, ut3 0, ut3 1, t4, ut4 0, ut4 1, t5, ut5 0, ut5 1] (37 + 2 * j))))))))]) ++ (wX4 G s0 us0 ++ (wX4 G s1 us1 ++ (wX4 G s2 us2 ++ wX4 G s3 us3)))) = g_wl (b_GX G ad [q, h1, v1 0, v1 1, v1 2, v1 3, v1 4, v1 5, v1 6, v1 7, h2, v2 0, v2 1, v2 2, v2 3, v2 4, v2 5, v2 6, v2 7, rd, vr 0, ta, sa, ru, vu 0, vu 1, dy, vd 0, vd 1, vd 2, vd 3, vd 4, vd 5, vd 6, ud 0, ud 1, ud 2, s0, us0 0, s1, us1 0, s2, us2 0, s3, us3 0, t0, ut0 0, ut0 1, t1, ut1 0, ut1 1, t2, ut2 0, ut2 1, t3, ut3 0, ut3 1, t4, ut4 0, ut4 1, t5, ut5 0, ut5 1]) b_K1 (b_sF s) := rfl
  all_goals have e7 : wX3 G ru vu t0 = g_wl (b_GX G ad [q, h1, v1 0, v1 1, v1 2, v1 3, v1 4, v1 5, v1 6, v1 7, h2, v2 0, v2 1, v2 2, v2 3, v2 4, v2 5, v2 6, v2 7, rd, vr 0, ta, sa, ru, vu 0, vu 1, dy, vd 0, vd 1, vd 2, vd 3, vd 4, vd 5, vd 6, ud 0, ud 1, ud 2, s0, us0 0, s1, us1 0, s2, us2 0, s3, us3 0, t0, ut0 0, ut0 1, t1, ut1 0, ut1 1, t2, ut2 0, ut2 1, t3, ut3 0, ut3 1, t4, ut4 0, ut4 1, t5, ut5 0, ut5 1]) b_K3 (b_sF s) := rfl
  all_goals have e8 : wX0 G dy vd ud h1 ru = g_wl (b_GX G ad [q, h1, v1 0, v1 1, v1 2, v1 3, v1 4, v1 5, v1 6, v1 7, h2, v2 0, v2 1, v2 2, v2 3, v2 4, v2 5, v2 6, v2 7, rd, vr 0, ta, sa, ru, vu 0, vu 1, dy, vd 0, vd 1, vd 2, vd 3, vd 4, vd 5, vd 6, ud 0, ud 1, ud 2, s0, us0 0, s1, us1 0, s2, us2 0, s3, us3 0, t0, ut0 0, ut0 1, t1, ut1 0, ut1 1, t2, ut2 0, ut2 1, t3, ut3 0, ut3 1, t4, ut4 0, ut4 1, t5, ut5 0, ut5 1]) b_K4 (b_sF s) := rfl
  all_goals have e9 : g_wl (b_GX G ad [q, h1, v1 0, v1 1, v1 2, v1 3, v1 4, v1 5, v1 6, v1 7, h2, v2 0, v2 1, v2 2, v2 3, v2 4, v2 5, v2 6, v2 7, rd, vr 0, ta, sa, ru, vu 0, vu 1, dy, vd 0, vd 1, vd 2, vd 3, vd 4, vd 5, vd 6, ud 0, ud 1, ud 2, s0, us0 0, s1, us1 0, s2, us2 0, s3, us3 0, t0, ut0 0, ut0 1, t1, ut1 0, ut1 1, t2, ut2 0, ut2 1, t3, ut3 0, ut3 1, t4, ut4 0, ut4 1, t5, ut5 0, ut5 1]) b_KX (b_sF s) = ((((q, .inr (7, [.ref h1, .ref h2, .int 0, .ref rd, .ref ta, .int 1, .ref ru, .ref dy, .ref sa])) :: (((wX1 G h1 v1 ++ wX1 G h2 v2) ++ [(ta, .inl (G.2.2 2, 6, .inr (.inr (.inr (.inr (fun j => some (b_adX ad [q, h1, v1 0, v1 1, v1 2, v1 3, v1 4, v1 5, v1 6, v1 7, h2, v2 0, v2 1, v2 2, v2 3, v2 4, v2 5, v2 6, v2 7, rd, vr 0, ta, sa, ru, vu 0, vu 1, dy, vd 0, vd 1, vd 2, vd 3, vd 4, vd 5, vd 6, ud 0, ud 1, ud 2, s0, us0 0, s1, us1 0, s2, us2 0, s3, us3 0, t0, ut0 0, ut0 1, t1, ut1 0, ut1 1, t2, ut2 0, ut2 1, t3, ut3 0, ut3 1, t4, ut4 0, ut4 1, t5, ut5 0, ut5 1] (45 + 3 * j)))))))), (sa, .inl (G.2.2 3, 4, .inr (.inr (.inr (.inr (fun j => some (b_adX ad [q, h1, v1 0, v1 1, v1 2, v1 3, v1 4, v1 5, v1 6, v1 7, h2, v2 0, v2 1, v2 2, v2 3, v2 4, v2 5, v2 6, v2 7, rd, vr 0, ta, sa, ru, vu 0, vu 1, dy, vd 0, vd 1, vd 2, vd 3, vd 4, vd 5, vd 6, ud 0, ud 1, ud 2, s0, us0 0, s1, us1 0, s2, us2 0, s3, us3 0, t0, ut0 0, ut0 1, t1, ut1 0, ut1 1, t2, ut2 0, ut2 1, t3, ut3 0, ut3 1, t4, ut4 0, ut4 1, t5, ut5 0, ut5 1] (37 + 2 * j))))))))]) ++ (wX4 G s0 us0 ++ (wX4 G s1 us1 ++ (wX4 G s2 us2 ++ wX4 G s3 us3))))) ++ g_wl (b_GX G ad [q, h1, v1 0, v1 1, v1 2, v1 3, v1 4, v1 5, v1 6, v1 7, h2, v2 0, v2 1, v2 2, v2 3, v2 4, v2 5, v2 6, v2 7, rd, vr 0, ta, sa, ru, vu 0, vu 1, dy, vd 0, vd 1, vd 2, vd 3, vd 4, vd 5, vd 6, ud 0, ud 1, ud 2, s0, us0 0, s1, us1 0, s2, us2 0, s3, us3 0, t0, ut0 0, ut0 1, t1, ut1 0, ut1 1, t2, ut2 0, ut2 1, t3, ut3 0, ut3 1, t4, ut4 0, ut4 1, t5, ut5 0, ut5 1]) b_KR (b_sF s)) ++ wX3 G ru vu t0) ++ wX0 G dy vd ud h1 ru := by rw [b_KX, g_wl_app, g_wl_app, g_wl_app, ← e6, ← e7, ← e8]
  all_goals rw [e9]
  · rw [hK] at hP
    exact b_two hP (fun j hj => by rcases (show j = 0 ∨ j = 1 ∨ j = 2 ∨ j = 3 ∨ j = 4 ∨ j = 5 by omega) with rfl | rfl | rfl | rfl | rfl | rfl <;> rfl) (fun j hj => by rcases (show j = 0 ∨ j = 1 ∨ j = 2 ∨ j = 3 by omega) with rfl | rfl | rfl | rfl <;> rfl)
  · rw [hK] at hD
    exact va_D.zmap (by simp only [List.map_append, List.map_cons]) hD
