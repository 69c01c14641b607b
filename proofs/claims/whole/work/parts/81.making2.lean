/-! CALLS in raw worlds: constructors; the layer's methods -/
theorem b_gD {A : Nat → Prop} {ws : va_W} {G : gG} {K : List Nat} {σ : gS} (hD : va_D A (ws ++ g_wl G K σ)) (hK : K.Nodup) : g_D G K := by
  refine ⟨hK, fun i hi j hj e => ?_⟩
  obtain ⟨a, ha⟩ := List.getElem?_of_mem hi
  obtain ⟨b, hb⟩ := List.getElem?_of_mem hj
  have la : (ws ++ g_wl G K σ)[ws.length + a]? = some (G.1 i, g_en G σ i) := by
    rw [List.getElem?_append_right (by omega), Nat.add_sub_cancel_left]
    simp [g_wl, ha]
  have lb : (ws ++ g_wl G K σ)[ws.length + b]? = some (G.1 j, g_en G σ j) := by
    rw [List.getElem?_append_right (by omega), Nat.add_sub_cancel_left]
    simp [g_wl, hb]
  have := hD.1 _ _ _ _ la lb e
  have hab : a = b := by omega
  subst hab
  exact Option.some.inj (ha.symm.trans hb)
/-- the class of a nest's other member, by its private constructor -/
def b_CN (own : String) (ix : Nat) (y : MethodName) (b : ByteArray) (n na : Nat) : Prop := (own, ix, y, RX7) ∈ g_nest ∧ Cond.code y b n none ∈ g_B ∧ Cond.initialized y.cls ∈ g_B ∧ (y.cls ≠ "java/lang/invoke/MethodHandle" ∧ y.cls ≠ "java/lang/invoke/VarHandle" ∧ (parseMethodDescriptor y.desc).map (fun d => d.parameters.length) = some na)
section BS
variable {X : gX} {D : va_G} {tys : List (ClassId × FieldType)} {A : Nat → Prop} {nL : Nat} {cc : ByteArray} {own : Nat} {Rm : Room} {Q : State → Prop} {ws : va_W} {L : List (Nat × Value)} {st : List Value} {mc ms pc : Nat} {ad0 : Nat → Nat}
set_option maxHeartbeats 1000000 in
theorem B_ctor (C : bCC X D tys A nL cc (g_RX own) Rm) (E : bEX X ad0 A) {ix n' na h' mc' ms' q : Nat} {y : MethodName} {b : ByteArray} {As rest : List Value} {x : va_E} {W1 : va_W → Prop} (F : g_CB (g_RX own) ix y b n' none na ∧ y.name = "<init>" ∧ Cond.instanceMethod y ∈ g_B) (M : bM y b n' h' mc' ms' D tys ad0 As q x W1) (hh : h' + 1 ≤ Rm.frames) (hlo : 8 + (n' + 11) + 64 * h' ≤ Rm.locals) (hna : As.length = na) (hst : st = As.reverse ++ .ref q :: rest) (hcat : (rest.map fun v => v.category).sum ≤ 8) (hr : mc + mc' ≤ Rm.cells ∧ ms + ms' ≤ Rm.slots) (d : decode cc pc = .ok (.invokespecial ix, 3)) (kk : ∀ W, W1 W → bV X D A nL Q (ws ++ W) L rest (mc + mc') (ms + ms') (pc + 3)) : bV X D A nL Q (ws ++ [(q, x)]) L st mc ms pc := by
  obtain ⟨p, e0, R, s, m, args, below, meth, c, l⟩ := X
  obtain ⟨hx, hb, hml, hown, hts, hK, hA, rfl⟩ := C
  obtain ⟨⟨f1, f2, f3, f4⟩, hname, f5⟩ := F
  intro H locs ls hP hD hS h
  subst hst
  have hM := M l H.size
  have inr : ∀ (k : Nat) (z : Nat × va_E), [(q, x)][k]? = some z → (ws ++ [(q, x)])[ws.length + k]? = some z := fun k z hz => by
    rw [List.getElem?_append_right (by omega), Nat.add_sub_cancel_left]
    exact hz
  have hA1 : ∀ r, va_A [(q, x)] H.size r → A r := fun r z => by
    rcases z with ⟨k, e, hk⟩ | z
    · exact hD.2 _ (r, e) (inr k _ hk)
    · exact hA r (Nat.le_trans hS.1 z)
  have hPq : va_P D g_cl [(q, x)] H := fun k z hz => hP _ z (inr k z hz)
  have hpre : PreS s H (va_Pc (.ref q :: As) (fun U => U.heap.size = H.size ∧ va_P D g_cl [(q, x)] U.heap ∧ va_K D g_cl tys U ∧ bE ad0 (va_A [(q, x)] H.size) U U.heap)) (.ref q :: As) := by
    refine ⟨fun a U g mk z => ?_, fun U hU hW => ⟨rfl, by rw [hU], by rw [hU]; exact hPq, va_K.moved hW.alike hK, by rw [hU]; exact (bE.bkept E hS.2.1 hA1).bwarm hW⟩⟩
    obtain ⟨z0, z1, z2, z3, z4⟩ := z
    exact ⟨z0, z1, z2, va_K.moved (u := U) (U := U.calling g mk a) (Vm.Alike.refl U.vm) z3, bE.bsame (u := U) (U := U.calling g mk a) rfl z4⟩
  have run : va_Run p l e0 R s m args below meth c H locs mc ms mc' ms' (F0 m pc ls (As.reverse ++ .ref q :: rest)) rest _ _ := va_runI (As := As) (rest := rest) ⟨hx, hb, hml, hown, hts⟩ hM ⟨callB_of na hts (g_good f2) rfl rfl rfl (hts _ f3) (hts _ f1) f4 ⟨hh, hlo⟩, hname, hts _ f5⟩ hpre rfl hna h.1 rfl (lv_room hcat) d hr
  intro T hT XT
  obtain ⟨v, st₀, t, T', Lc, h0, X', hLc, e1, e2, ⟨⟨hv, W, hW1, hPW, hDW⟩, hz, hk⟩, stp⟩ := run T hT XT
  cases hv
  rw [h0] at hz hk
  obtain ⟨hP', hD'⟩ := b_join (A1 := va_A [(q, x)] H.size) hP hD (fun r z hr2 => by
    rcases z with ⟨k, e, hk2⟩ | z
    · exact ⟨(r, e), List.mem_of_getElem? hk2, rfl⟩
    · omega) hk hA1 hPW hDW
  have hS' : va_S A s.heap T'.heap (locs ++ Lc) := ⟨Nat.le_trans hS.1 (by rw [e1]; exact hz), fun r h1 h2 => by rw [e1, hk r (Nat.lt_of_lt_of_le h1 hS.1) (fun z => h2 (hA1 r z))]; exact hS.2.1 r h1 h2, fun r hr2 => by
      rcases List.mem_append.mp hr2 with z | z
      · exact hS.2.2 r z
      · exact hA1 _ (hLc r z)⟩
  obtain ⟨t2, a1, b1⟩ := kk W hW1 T'.heap (locs ++ Lc) ls (by rw [e1]; exact hP') hD' hS' h T' rfl X'
  exact ⟨t2, stp t2 a1, b1⟩
set_option maxHeartbeats 1000000 in
theorem B_ctorN (C : bCC X D tys A nL cc (g_RX own) Rm) (E : bEX X ad0 A) {ix n' na h' mc' ms' q : Nat} {y : MethodName} {b : ByteArray} {As rest : List Value} {x : va_E} {W1 : va_W → Prop} (F : b_CN (g_RX own) ix y b n' na ∧ y.name = "<init>" ∧ Cond.instanceMethod y ∈ g_B) (M : bM y b n' h' mc' ms' D tys ad0 As q x W1) (hh : h' + 1 ≤ Rm.frames) (hlo : 8 + (n' + 11) + 64 * h' ≤ Rm.locals) (hna : As.length = na) (hst : st = As.reverse ++ .ref q :: rest) (hcat : (rest.map fun v => v.category).sum ≤ 8) (hr : mc + mc' ≤ Rm.cells ∧ ms + ms' ≤ Rm.slots) (d : decode cc pc = .ok (.invokespecial ix, 3)) (kk : ∀ W, W1 W → bV X D A nL Q (ws ++ W) L rest (mc + mc') (ms + ms') (pc + 3)) : bV X D A nL Q (ws ++ [(q, x)]) L st mc ms pc := by
  obtain ⟨p, e0, R, s, m, args, below, meth, c, l⟩ := X
  obtain ⟨hx, hb, hml, hown, hts, hK, hA, rfl⟩ := C
  obtain ⟨⟨f1, f2, f3, f4⟩, hname, f5⟩ := F
  intro H locs ls hP hD hS h
  subst hst
  have hM := M l H.size
  have inr : ∀ (k : Nat) (z : Nat × va_E), [(q, x)][k]? = some z → (ws ++ [(q, x)])[ws.length + k]? = some z := fun k z hz => by
    rw [List.getElem?_append_right (by omega), Nat.add_sub_cancel_left]
    exact hz
  have hA1 : ∀ r, va_A [(q, x)] H.size r → A r := fun r z => by
    rcases z with ⟨k, e, hk⟩ | z
    · exact hD.2 _ (r, e) (inr k _ hk)
    · exact hA r (Nat.le_trans hS.1 z)
  have hPq : va_P D g_cl [(q, x)] H := fun k z hz => hP _ z (inr k z hz)
  have hpre : PreS s H (va_Pc (.ref q :: As) (fun U => U.heap.size = H.size ∧ va_P D g_cl [(q, x)] U.heap ∧ va_K D g_cl tys U ∧ bE ad0 (va_A [(q, x)] H.size) U U.heap)) (.ref q :: As) := by
    refine ⟨fun a U g mk z => ?_, fun U hU hW => ⟨rfl, by rw [hU], by rw [hU]; exact hPq, va_K.moved hW.alike hK, by rw [hU]; exact (bE.bkept E hS.2.1 hA1).bwarm hW⟩⟩
    obtain ⟨z0, z1, z2, z3, z4⟩ := z
    exact ⟨z0, z1, z2, va_K.moved (u := U) (U := U.calling g mk a) (Vm.Alike.refl U.vm) z3, bE.bsame (u := U) (U := U.calling g mk a) rfl z4⟩
  have run : va_Run p l e0 R s m args below meth c H locs mc ms mc' ms' (F0 m pc ls (As.reverse ++ .ref q :: rest)) rest _ _ := va_runIN (As := As) (rest := rest) ⟨hx, hb, hml, hown, hts⟩ hM ⟨va_cnB na hts (g_good f2) rfl rfl rfl (E.1.1 _ f1) (hts _ f3) f4 ⟨hh, hlo⟩, hname, hts _ f5⟩ hpre rfl hna h.1 rfl (lv_room hcat) d hr
  intro T hT XT
  obtain ⟨v, st₀, t, T', Lc, h0, X', hLc, e1, e2, ⟨⟨hv, W, hW1, hPW, hDW⟩, hz, hk⟩, stp⟩ := run T hT XT
  cases hv
  rw [h0] at hz hk
  obtain ⟨hP', hD'⟩ := b_join (A1 := va_A [(q, x)] H.size) hP hD (fun r z hr2 => by
    rcases z with ⟨k, e, hk2⟩ | z
    · exact ⟨(r, e), List.mem_of_getElem? hk2, rfl⟩
    · omega) hk hA1 hPW hDW
  have hS' : va_S A s.heap T'.heap (locs ++ Lc) := ⟨Nat.le_trans hS.1 (by rw [e1]; exact hz), fun r h1 h2 => by rw [e1, hk r (Nat.lt_of_lt_of_le h1 hS.1) (fun z => h2 (hA1 r z))]; exact hS.2.1 r h1 h2, fun r hr2 => by
      rcases List.mem_append.mp hr2 with z | z
      · exact hS.2.2 r z
      · exact hA1 _ (hLc r z)⟩
  obtain ⟨t2, a1, b1⟩ := kk W hW1 T'.heap (locs ++ Lc) ls (by rw [e1]; exact hP') hD' hS' h T' rfl X'
  exact ⟨t2, stp t2 a1, b1⟩
set_option maxHeartbeats 1000000 in
theorem B_gV {G : gG} {K : List Nat} {σ : gS} (C : bCC X G.2.1 (g_tys G) A nL cc (g_RX own) Rm) (E : bEX X ad0 A) (had : ∀ k, 100 ≤ k → G.1 k = ad0 k) (hKn : K.Nodup) {ix k n' na h' : Nat} {y : MethodName} {b : ByteArray} {ret' : Option FieldType} {KR' : Nat → Bool} {As rest : List Value} {Qp' : Option Value → gS → Prop} (F : g_CV (g_RX own) ix y b n' ret' na) (M : g_Met y b n' ret' h' KR' (.ref k :: As) σ Qp') (hrc : ∃ ci ts T N, g_sh k = .inl (ci, ts) ∧ g_cl[ci]? = some (y.cls, T, N)) (hk : k ∈ K) (hKR : ∀ k, KR' k = true → k ∈ K) (hh : h' + 1 ≤ Rm.frames) (hlo : 8 + (n' + 11) + 64 * h' ≤ Rm.locals) (hna : As.length = na) (hst : st = (As.map (g_tr G.1)).reverse ++ .ref (G.1 k) :: rest) (hcat : (rest.map fun v => v.category).sum ≤ 8) (hr : mc ≤ Rm.cells ∧ ms ≤ Rm.slots) (d : decode cc pc = .ok (.invokevirtual ix, 3)) (kk : ∀ (rv : Option Value) (σ' : gS), Qp' rv σ' → bV X G.2.1 A nL Q (ws ++ g_wl G K σ') L ((rv.map (g_tr G.1)).toList ++ rest) mc ms (pc + 3)) : bV X G.2.1 A nL Q (ws ++ g_wl G K σ) L st mc ms pc := by
  obtain ⟨p, e0, R, s, m, args, below, meth, c, l⟩ := X
  obtain ⟨hx, hb, hml, hown, hts, hK, hA, rfl⟩ := C
  obtain ⟨⟨f1, f2, f3, f4⟩, f5, f6⟩ := F
  intro H locs ls hP hD hS h
  subst hst
  have inr : ∀ (i : Nat) (z : Nat × va_E), (g_wl G K σ)[i]? = some z → (ws ++ g_wl G K σ)[ws.length + i]? = some z := fun i z hz => by
    rw [List.getElem?_append_right (by omega), Nat.add_sub_cancel_left]
    exact hz
  have hP2 : va_P G.2.1 g_cl (g_wl G K σ) H := fun i z hz => hP _ z (inr i z hz)
  have hGD := b_gD hD hKn
  have hA1 : ∀ r, g_A G K H.size r → A r := fun r z => by
    rcases z with ⟨i, hi, e⟩ | z
    · obtain ⟨q0, g1, g2⟩ := g_at (G := G) (σ := σ) hi
      rw [← e]
      exact hD.2 _ _ (inr q0 _ g2)
    · exact hA r (Nat.le_trans hS.1 z)
  have hE0 : g_E G.1 (g_A G K H.size) s H := (E.1.zad had).kept hS.2.1 hA1
  have hM := M l G K H.size hGD hKR
  obtain ⟨ci, ts, Tc, N, r1, r2⟩ := hrc
  obtain ⟨q0, g1, g2⟩ := g_at (G := G) (σ := σ) hk
  have g3 : (g_wl G K σ)[q0]? = some (G.1 k, .inr (ci, g_fs G.1 σ k 0 ts)) := by rw [g2, g_en, r1]
  have hrecv : ∃ cell : Cell, H[G.1 k]? = some cell ∧ cell.vm.isStatics = false ∧ s.vm.findClass y.cls = some cell.cls := va_recv hK hP2 (ci := ci) (q0 := q0) r2 g3
  have cw : CallW R s args (g_RX own) y.cls ix y b n' ret' (.code y b n' ret' :: g_B) (g_rm h') 0 0 na :=
    ⟨callB_of na hts (g_good f2) rfl rfl rfl (hts _ f3) (hts _ f1) f4 ⟨hh, hlo⟩, hts _ f5, hts _ f6⟩
  have run : va_Run p l e0 R s m args below meth c H locs mc ms 0 0 (F0 m pc ls ((As.map (g_tr G.1)).reverse ++ .ref (G.1 k) :: rest)) rest _ _ := va_runV (As := As.map (g_tr G.1)) (rest := rest) ⟨hx, hb, hml, hown, hts⟩ hM cw ⟨g_blind, hrecv, fun U hU hW => ⟨rfl, by rw [hU], by rw [hU]; exact hP2, va_K.moved hW.alike hK, by rw [hU]; exact hE0.warm hW⟩⟩ rfl (by simpa using hna) h.1 rfl (lv_room hcat) d hr
  intro T hT XT
  obtain ⟨v, st₀, t, T', Lc, h0, X', hLc, e1, e2, ⟨⟨rv, σ', hv, hq, hp⟩, hz, hk⟩, stp⟩ := run T hT XT
  cases hv
  rw [h0] at hz hk
  obtain ⟨hP', hD'⟩ := b_join (W := g_wl G K σ') (A1 := g_A G K H.size) hP hD (fun r z hr2 => by
    rcases z with ⟨i, hi, e⟩ | z
    · obtain ⟨q0, g1, g2⟩ := g_at (G := G) (σ := σ) hi
      exact ⟨_, List.mem_of_getElem? g2, e⟩
    · omega) hk hA1 hp (hGD.vD σ' H.size)
  have hS' : va_S A s.heap T'.heap (locs ++ Lc) := ⟨Nat.le_trans hS.1 (by rw [e1]; exact hz), fun r h1 h2 => by rw [e1, hk r (Nat.lt_of_lt_of_le h1 hS.1) (fun z => h2 (hA1 r z))]; exact hS.2.1 r h1 h2, fun r hr2 => by
      rcases List.mem_append.mp hr2 with z | z
      · exact hS.2.2 r z
      · exact hA1 _ (hLc r z)⟩
  obtain ⟨t2, a1, b1⟩ := kk rv σ' hq T'.heap (locs ++ Lc) ls (by rw [e1]; exact hP') hD' hS' h T' rfl X'
  exact ⟨t2, stp t2 a1, b1⟩
set_option maxHeartbeats 1000000 in
theorem B_gS {G : gG} {K : List Nat} {σ : gS} (C : bCC X G.2.1 (g_tys G) A nL cc (g_RX own) Rm) (E : bEX X ad0 A) (had : ∀ k, 100 ≤ k → G.1 k = ad0 k) (hKn : K.Nodup) {ix k n' na h' : Nat} {y : MethodName} {b : ByteArray} {ret' : Option FieldType} {KR' : Nat → Bool} {As rest : List Value} {Qp' : Option Value → gS → Prop} (F : g_CV (g_RX own) ix y b n' ret' na) (M : g_Met y b n' ret' h' KR' (.ref (100 + k) :: As) σ Qp') (hi : k < 3) (hy : y.cls = "java/lang/String") (hKR : ∀ k, KR' k = true → k ∈ K) (hh : h' + 1 ≤ Rm.frames) (hlo : 8 + (n' + 11) + 64 * h' ≤ Rm.locals) (hna : As.length = na) (hst : st = (As.map (g_tr G.1)).reverse ++ .ref (G.1 (100 + k)) :: rest) (hcat : (rest.map fun v => v.category).sum ≤ 8) (hr : mc ≤ Rm.cells ∧ ms ≤ Rm.slots) (d : decode cc pc = .ok (.invokevirtual ix, 3)) (kk : ∀ (rv : Option Value) (σ' : gS), Qp' rv σ' → bV X G.2.1 A nL Q (ws ++ g_wl G K σ') L ((rv.map (g_tr G.1)).toList ++ rest) mc ms (pc + 3)) : bV X G.2.1 A nL Q (ws ++ g_wl G K σ) L st mc ms pc := by
  obtain ⟨p, e0, R, s, m, args, below, meth, c, l⟩ := X
  obtain ⟨hx, hb, hml, hown, hts, hK, hA, rfl⟩ := C
  obtain ⟨⟨f1, f2, f3, f4⟩, f5, f6⟩ := F
  intro H locs ls hP hD hS h
  subst hst
  have inr : ∀ (i : Nat) (z : Nat × va_E), (g_wl G K σ)[i]? = some z → (ws ++ g_wl G K σ)[ws.length + i]? = some z := fun i z hz => by
    rw [List.getElem?_append_right (by omega), Nat.add_sub_cancel_left]
    exact hz
  have hP2 : va_P G.2.1 g_cl (g_wl G K σ) H := fun i z hz => hP _ z (inr i z hz)
  have hGD := b_gD hD hKn
  have hA1 : ∀ r, g_A G K H.size r → A r := fun r z => by
    rcases z with ⟨i, hi, e⟩ | z
    · obtain ⟨q0, g1, g2⟩ := g_at (G := G) (σ := σ) hi
      rw [← e]
      exact hD.2 _ _ (inr q0 _ g2)
    · exact hA r (Nat.le_trans hS.1 z)
  have hE0 : g_E G.1 (g_A G K H.size) s H := (E.1.zad had).kept hS.2.1 hA1
  have hM := M l G K H.size hGD hKR
  have hrecv : ∃ cell : Cell, H[G.1 (100 + k)]? = some cell ∧ cell.vm.isStatics = false ∧ s.vm.findClass y.cls = some cell.cls := by
    rw [hy, had (100 + k) (by omega)]
    exact vk_recv (i := k) (adK := fun i => ad0 (100 + i)) E.1.2.1.1 hi hS
  have cw : CallW R s args (g_RX own) y.cls ix y b n' ret' (.code y b n' ret' :: g_B) (g_rm h') 0 0 na :=
    ⟨callB_of na hts (g_good f2) rfl rfl rfl (hts _ f3) (hts _ f1) f4 ⟨hh, hlo⟩, hts _ f5, hts _ f6⟩
  have run : va_Run p l e0 R s m args below meth c H locs mc ms 0 0 (F0 m pc ls ((As.map (g_tr G.1)).reverse ++ .ref (G.1 (100 + k)) :: rest)) rest _ _ := va_runV (As := As.map (g_tr G.1)) (rest := rest) ⟨hx, hb, hml, hown, hts⟩ hM cw ⟨g_blind, hrecv, fun U hU hW => ⟨rfl, by rw [hU], by rw [hU]; exact hP2, va_K.moved hW.alike hK, by rw [hU]; exact hE0.warm hW⟩⟩ rfl (by simpa using hna) h.1 rfl (lv_room hcat) d hr
  intro T hT XT
  obtain ⟨v, st₀, t, T', Lc, h0, X', hLc, e1, e2, ⟨⟨rv, σ', hv, hq, hp⟩, hz, hk⟩, stp⟩ := run T hT XT
  cases hv
  rw [h0] at hz hk
  obtain ⟨hP', hD'⟩ := b_join (W := g_wl G K σ') (A1 := g_A G K H.size) hP hD (fun r z hr2 => by
    rcases z with ⟨i, hi, e⟩ | z
    · obtain ⟨q0, g1, g2⟩ := g_at (G := G) (σ := σ) hi
      exact ⟨_, List.mem_of_getElem? g2, e⟩
    · omega) hk hA1 hp (hGD.vD σ' H.size)
  have hS' : va_S A s.heap T'.heap (locs ++ Lc) := ⟨Nat.le_trans hS.1 (by rw [e1]; exact hz), fun r h1 h2 => by rw [e1, hk r (Nat.lt_of_lt_of_le h1 hS.1) (fun z => h2 (hA1 r z))]; exact hS.2.1 r h1 h2, fun r hr2 => by
      rcases List.mem_append.mp hr2 with z | z
      · exact hS.2.2 r z
      · exact hA1 _ (hLc r z)⟩
  obtain ⟨t2, a1, b1⟩ := kk rv σ' hq T'.heap (locs ++ Lc) ls (by rw [e1]; exact hP') hD' hS' h T' rfl X'
  exact ⟨t2, stp t2 a1, b1⟩
theorem B_ldcS (C : bCC X D tys A nL cc (g_RX 7) Rm) (E : bEX X ad0 A) (d : decode cc pc = .ok (.ldc 40, 2)) (kk : bV X D A nL Q ws L (.ref (ad0 100) :: st) mc ms (pc + 2)) : bV X D A nL Q ws L st mc ms pc := by
  obtain ⟨p, e0, R, s, m, args, below, meth, c, l⟩ := X
  obtain ⟨hx, hb, hml, hown, hts, hK, hA, hR⟩ := C
  exact fun H locs ls hP hD hS h => va_ldcS hx hb hown E.1.2.1.2.1 d (kk H locs ls hP hD hS h)
end BS
