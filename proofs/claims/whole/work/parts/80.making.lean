/-! THE MAKING: a judgement over raw worlds, in which cells are made; its rows -/
def b_rm (h mc ms : Nat) : Room := { frames := h, cells := mc, slots := ms, locals := 64 * h }
/-- a method at work, in the class 'own', with room Rm -/
def bCC : gX → va_G → List (ClassId × FieldType) → (Nat → Prop) → Nat → ByteArray → String → Room → Prop
  | (p, _, R, s, m, args, _, _, c, _), D, tys, A, nL, cc, own, Rm => p.tables.exec = Jvm.exec ∧ c.code = cc ∧ c.maxLocals = nL ∧ s.vm.findClass own = some m.cls ∧ (∀ w ∈ g_B, w.before args s = true) ∧ va_K D g_cl tys s ∧ (∀ q, s.heap.size ≤ q → A q) ∧ R = Rm
/-- the machine in this method, in the world ws, with these locals, this stack, so many cells and slots made, at pc: it comes to Q -/
def bV : gX → va_G → (Nat → Prop) → Nat → (State → Prop) → va_W → List (Nat × Value) → List Value → Nat → Nat → Nat → Prop
  | (p, e, R, s, m, args, below, meth, c, l), D, A, nL, Q, ws, L, st, mc, ms, pc => ∀ (H : Heap) (locs : List Loc) (ls : Array Slot), va_P D g_cl ws H → va_D A ws → va_S A s.heap H locs → lv_has ls nL L → W p l e R s m args below meth c H locs mc ms Q (F0 m pc ls st)
/-- a constructor -/
def bI : gX → Prop
  | (_, _, _, _, _, _, _, meth, _, _) => meth.name = "<init>" ∧ meth.sig.returnType = none ∧ meth.locks = false
/-- what lies outside -/
def bE (ad : Nat → Nat) (A : Nat → Prop) (U : State) (H : Heap) : Prop := g_E ad A U H ∧ va_AO "UnderTheRoof$Text" U ∧ va_AO "UnderTheRoof$Sheet" U
def bEX : gX → (Nat → Nat) → (Nat → Prop) → Prop
  | (_, _, _, s, _, _, _, _, _, _), ad, A => bE ad A s s.heap
/-- a constructor's end: a world of W1 -/
def bQ : gX → va_G → (Nat → Prop) → (va_W → Prop) → Nat → Nat → State → Prop
  | (_, _, _, s, _, args, below, _, _, _), D, A, W1, mc, ms => MQ below (fun _ st oc t => (oc = .returned none ∧ ∃ W, W1 W ∧ va_P D g_cl W t.heap ∧ va_D A W) ∧ va_F A st t) args s mc ms A
/-- a constructor's contract: from the object q alone, all its fields at their defaults -/
def bM (y : MethodName) (b : ByteArray) (n h mc ms : Nat) (D : va_G) (tys : List (ClassId × FieldType)) (ad0 : Nat → Nat) (As : List Value) (q : Nat) (x : va_E) (W1 : va_W → Prop) : Prop := ∀ (l : Launch) (sz : Nat), Met l y (.code y b n none :: g_B) (b_rm h mc ms) (va_Pc (.ref q :: As) (fun U => U.heap.size = sz ∧ va_P D g_cl [(q, x)] U.heap ∧ va_K D g_cl tys U ∧ bE ad0 (va_A [(q, x)] sz) U U.heap)) (fun _ st oc t => (oc = .returned none ∧ ∃ W, W1 W ∧ va_P D g_cl W t.heap ∧ va_D (va_A [(q, x)] sz) W) ∧ va_F (va_A [(q, x)] sz) st t) mc ms (va_A [(q, x)] sz)
theorem bE.bwarm {ad : Nat → Nat} {A : Nat → Prop} {u U : State} {H : Heap} (hW : u.WarmedH U.vm) (h : bE ad A u H) : bE ad A U H := ⟨h.1.warm hW, h.2.1.moved hW.alike, h.2.2.moved hW.alike⟩
theorem bE.bsame {ad : Nat → Nat} {A : Nat → Prop} {u U : State} {H : Heap} (hv : U.vm = u.vm) (h : bE ad A u H) : bE ad A U H := by
  have hal : u.vm.Alike U.vm := by rw [hv]; exact Vm.Alike.refl _
  exact ⟨h.1.same hv, h.2.1.moved hal, h.2.2.moved hal⟩
theorem bE.bkept {ad : Nat → Nat} {A B : Nat → Prop} {U : State} {H H1 : Heap} (h : bE ad A U H) (hq : ∀ a : Nat, a < H.size → ¬ A a → H1[a]? = H[a]?) (hAB : ∀ q, B q → A q) : bE ad B U H1 := ⟨h.1.kept hq hAB, h.2.1, h.2.2⟩
theorem g_E.zad {ad ad' : Nat → Nat} {A : Nat → Prop} {U : State} {H : Heap} (h : g_E ad A U H) (e : ∀ k, 100 ≤ k → ad' k = ad k) : g_E ad' A U H := by
  have e1 : (fun i => ad' (100 + i)) = fun i => ad (100 + i) := funext fun i => e _ (by omega)
  have e2 : (fun i => ad' (103 + i)) = fun i => ad (103 + i) := funext fun i => e _ (by omega)
  unfold g_E
  rw [e1, e2, e 100 (by decide), e 101 (by decide), e 102 (by decide), e 106 (by decide), e 107 (by decide)]
  exact h
/-- behind a call: what was beside the callee's world stays -/
theorem b_join {A A1 : Nat → Prop} {D : va_G} {ws wc W : va_W} {H H1 : Heap} (hP : va_P D g_cl (ws ++ wc) H) (hD : va_D A (ws ++ wc)) (hA1 : ∀ r, A1 r → r < H.size → ∃ x ∈ wc, x.1 = r) (hk : ∀ r : Nat, r < H.size → ¬ A1 r → H1[r]? = H[r]?) (hF : ∀ r, A1 r → A r) (hPW : va_P D g_cl W H1) (hDW : va_D A1 W) : va_P D g_cl (ws ++ W) H1 ∧ va_D A (ws ++ W) := by
  have left : ∀ (i : Nat) (x : Nat × va_E), ws[i]? = some x → (ws ++ wc)[i]? = some x := fun i x hx => by
    rw [List.getElem?_append_left (List.getElem?_eq_some_iff.mp hx).1]
    exact hx
  have apart : ∀ (i : Nat) (x : Nat × va_E), ws[i]? = some x → x.1 < H.size ∧ ¬ A1 x.1 := fun i x hx => by
    have hl := (hP i x (left i x hx)).lt
    refine ⟨hl, fun h => ?_⟩
    obtain ⟨y, hy, e⟩ := hA1 _ h hl
    obtain ⟨j, hj⟩ := List.getElem?_of_mem hy
    have hj' : (ws ++ wc)[ws.length + j]? = some y := by
      rw [List.getElem?_append_right (by omega), Nat.add_sub_cancel_left]
      exact hj
    have := hD.1 i (ws.length + j) x y (left i x hx) hj' e.symm
    have hi := (List.getElem?_eq_some_iff.mp hx).1
    omega
  refine ⟨va_P.app (fun i x hx => (hP i x (left i x hx)).kept (hk x.1 (apart i x hx).1 (apart i x hx).2)) hPW, va_D.app ⟨fun i j x y hi hj e => hD.1 i j x y (left i x hi) (left j y hj) e, fun i x hi => hD.2 i x (left i x hi)⟩ (hDW.weaken (fun _ x _ h => hF x.1 h)) (fun i j x y hx hy e => (apart i x hx).2 (by rw [e]; exact hDW.2 j y hy))⟩
theorem bM.bof {y : MethodName} {b : ByteArray} {n h mc ms own : Nat} {D : va_G} {tys : List (ClassId × FieldType)} {ad0 : Nat → Nat} {As : List Value} {q : Nat} {x : va_E} {W1 : va_W → Prop} {L : List (Nat × Value)} (hy : plainName y.cls = true) (hc : y.cls = g_RX own) (hn : y.name = "<init>") (hav : (lg_sl (.ref q :: As)).length ≤ n) (hL : lv_args 0 (.ref q :: As) = L)
    (body : ∀ (X : gX) (A : Nat → Prop), bCC X D tys A n b (g_RX own) (b_rm h mc ms) → bI X → bEX X ad0 A → bV X D A n (bQ X D A W1 mc ms) [(q, x)] L [] 0 0 0) : bM y b n h mc ms D tys ad0 As q x W1 := by
  intro l sz
  refine Met.ofW (cc := b) (maxL := n) (ret := none) hy rfl ?_
  intro p e s m args below meth c s₁ B hml hv
  obtain ⟨rfl, hsz, hP, hK, hE⟩ := hv
  have hts := atoms_spec (ws := .code y b n none :: g_B) B.pre
  have hown : s.vm.findClass (g_RX own) = some m.cls := by rw [← hc]; exact findClass_of_methodNamed B.named
  have hin : meth.name = "<init>" := by rw [← hn]; exact (name_of_methodNamed B.named B.method).1
  subst hsz
  have hl := lv_entry (.ref q :: As) (n := n) hav
  rw [lg_entry_eq]
  have hD : va_D (va_A [(q, x)] s.heap.size) [(q, x)] := by
    refine ⟨fun i j a b hi hj _ => ?_, fun i a hi => va_A.in hi⟩
    have h1 := (List.getElem?_eq_some_iff.mp hi).1
    have h2 := (List.getElem?_eq_some_iff.mp hj).1
    simp at h1 h2
    omega
  exact body (p, e, b_rm h mc ms, s, m, (Value.ref q :: As).toArray, below, meth, c, l) (va_A [(q, x)] s.heap.size) ⟨B.exec, B.bytes, hml, hown, fun w hw => hts w (List.mem_cons_of_mem _ hw), hK, fun r h => Or.inr h, rfl⟩ ⟨hin, B.returns, B.notSynchronized⟩ hE s.heap [] _ hP hD va_S.rf (by rw [hL] at hl; exact hl)
section BR
variable {X : gX} {D : va_G} {tys : List (ClassId × FieldType)} {A : Nat → Prop} {nL : Nat} {cc : ByteArray} {own : Nat} {Rm : Room} {Q : State → Prop} {ws : va_W} {L : List (Nat × Value)} {st : List Value} {mc ms pc : Nat}
theorem B_aload (C : bCC X D tys A nL cc (g_RX own) Rm) {k : Fin 4} {i x : Nat} (j : Nat) (d : decode cc pc = .ok (.aload_n k, 1)) (hi : (k : Nat) = i) (hl : L[j]? = some (i, .ref x)) (kk : bV X D A nL Q ws L (.ref x :: st) mc ms (pc + 1)) : bV X D A nL Q ws L st mc ms pc := by
  obtain ⟨p, e0, R, s, m, args, below, meth, c, l⟩ := X
  obtain ⟨hx, hb, hml, hown, hts, hK, hA, hR⟩ := C
  exact fun H locs ls hP hD hS hv => lv_aload_n hx hb d hi (lv_at hv j hl) (kk H locs ls hP hD hS hv)
theorem B_iload (C : bCC X D tys A nL cc (g_RX own) Rm) {k : Fin 4} {i : Nat} {x : Int32} (j : Nat) (d : decode cc pc = .ok (.iload_n k, 1)) (hi : (k : Nat) = i) (hl : L[j]? = some (i, .int x)) (kk : bV X D A nL Q ws L (.int x :: st) mc ms (pc + 1)) : bV X D A nL Q ws L st mc ms pc := by
  obtain ⟨p, e0, R, s, m, args, below, meth, c, l⟩ := X
  obtain ⟨hx, hb, hml, hown, hts, hK, hA, hR⟩ := C
  exact fun H locs ls hP hD hS hv => lv_iload_n hx hb d hi (lv_at hv j hl) (kk H locs ls hP hD hS hv)
theorem B_iconst (C : bCC X D tys A nL cc (g_RX own) Rm) {n : Int} {v : Int32} (d : decode cc pc = .ok (.iconst n, 1)) (hv : Int32.ofInt n = v) (kk : bV X D A nL Q ws L (.int v :: st) mc ms (pc + 1)) : bV X D A nL Q ws L st mc ms pc := by
  obtain ⟨p, e0, R, s, m, args, below, meth, c, l⟩ := X
  obtain ⟨hx, hb, hml, hown, hts, hK, hA, hR⟩ := C
  exact fun H locs ls hP hD hS h => lv_iconst hx hb d hv (kk H locs ls hP hD hS h)
theorem B_bipush (C : bCC X D tys A nL cc (g_RX own) Rm) {n : Int} {v : Int32} (d : decode cc pc = .ok (.bipush n, 2)) (hv : (Int8.ofInt n).toInt32 = v) (kk : bV X D A nL Q ws L (.int v :: st) mc ms (pc + 2)) : bV X D A nL Q ws L st mc ms pc := by
  obtain ⟨p, e0, R, s, m, args, below, meth, c, l⟩ := X
  obtain ⟨hx, hb, hml, hown, hts, hK, hA, hR⟩ := C
  exact fun H locs ls hP hD hS h => lv_bipush hx hb d hv (kk H locs ls hP hD hS h)
theorem B_sipush (C : bCC X D tys A nL cc (g_RX own) Rm) {n : Int} {v : Int32} (d : decode cc pc = .ok (.sipush n, 3)) (hv : (Int16.ofInt n).toInt32 = v) (kk : bV X D A nL Q ws L (.int v :: st) mc ms (pc + 3)) : bV X D A nL Q ws L st mc ms pc := by
  obtain ⟨p, e0, R, s, m, args, below, meth, c, l⟩ := X
  obtain ⟨hx, hb, hml, hown, hts, hK, hA, hR⟩ := C
  exact fun H locs ls hP hD hS h => lv_sipush hx hb d hv (kk H locs ls hP hD hS h)
theorem B_ldc (C : bCC X D tys A nL cc (g_RX own) Rm) {k : Nat} {v : Int32} (d : decode cc pc = .ok (.ldc k, 2)) (hv : Cond.constant (g_RX own) k v ∈ g_B) (kk : bV X D A nL Q ws L (.int v :: st) mc ms (pc + 2)) : bV X D A nL Q ws L st mc ms pc := by
  obtain ⟨p, e0, R, s, m, args, below, meth, c, l⟩ := X
  obtain ⟨hx, hb, hml, hown, hts, hK, hA, hR⟩ := C
  exact fun H locs ls hP hD hS h => lv_ldc hx hb hown (hts _ hv) d (kk H locs ls hP hD hS h)
theorem B_dup (C : bCC X D tys A nL cc (g_RX own) Rm) {v : Value} (d : decode cc pc = .ok (.dup, 1)) (hv : v.category = 1) (kk : bV X D A nL Q ws L (v :: v :: st) mc ms (pc + 1)) : bV X D A nL Q ws L (v :: st) mc ms pc := by
  obtain ⟨p, e0, R, s, m, args, below, meth, c, l⟩ := X
  obtain ⟨hx, hb, hml, hown, hts, hK, hA, hR⟩ := C
  exact fun H locs ls hP hD hS h => lv_dup hx hb d hv (kk H locs ls hP hD hS h)
theorem B_pop (C : bCC X D tys A nL cc (g_RX own) Rm) {v : Value} (d : decode cc pc = .ok (.pop, 1)) (hv : v.category = 1) (kk : bV X D A nL Q ws L st mc ms (pc + 1)) : bV X D A nL Q ws L (v :: st) mc ms pc := by
  obtain ⟨p, e0, R, s, m, args, below, meth, c, l⟩ := X
  obtain ⟨hx, hb, hml, hown, hts, hK, hA, hR⟩ := C
  exact fun H locs ls hP hD hS h => lv_pop hx hb d hv (kk H locs ls hP hD hS h)
theorem B_istore (C : bCC X D tys A nL cc (g_RX own) Rm) {k : Fin 4} {i : Nat} {x : Int32} (L' : List (Nat × Value)) (d : decode cc pc = .ok (.istore_n k, 1)) (hi : (k : Nat) = i) (hn : i < nL) (hl : (i, Value.int x) :: L.filter (fun q => !(q.1 == i) && !(q.1 + 1 == i && q.2.category == 2)) = L') (kk : bV X D A nL Q ws L' st mc ms (pc + 1)) : bV X D A nL Q ws L (.int x :: st) mc ms pc := by
  obtain ⟨p, e0, R, s, m, args, below, meth, c, l⟩ := X
  obtain ⟨hx, hb, hml, hown, hts, hK, hA, hR⟩ := C
  exact fun H locs ls hP hD hS h => lv_istore_n hx hb d hi h hn hl (fun ls2 h2 => kk H locs ls2 hP hD hS h2)
theorem B_astore (C : bCC X D tys A nL cc (g_RX own) Rm) {k : Fin 4} {i : Nat} {x : Nat} (L' : List (Nat × Value)) (d : decode cc pc = .ok (.astore_n k, 1)) (hi : (k : Nat) = i) (hn : i < nL) (hl : (i, Value.ref x) :: L.filter (fun q => !(q.1 == i) && !(q.1 + 1 == i && q.2.category == 2)) = L') (kk : bV X D A nL Q ws L' st mc ms (pc + 1)) : bV X D A nL Q ws L (.ref x :: st) mc ms pc := by
  obtain ⟨p, e0, R, s, m, args, below, meth, c, l⟩ := X
  obtain ⟨hx, hb, hml, hown, hts, hK, hA, hR⟩ := C
  exact fun H locs ls hP hD hS h => lv_astore_n hx hb d hi h hn hl (fun ls2 h2 => kk H locs ls2 hP hD hS h2)
theorem B_iinc (C : bCC X D tys A nL cc (g_RX own) Rm) {i k : Nat} {n : Int} {x v : Int32} (L' : List (Nat × Value)) (d : decode cc pc = .ok (.iinc i n, 3)) (hk : L[k]? = some (i, .int x)) (hv : x + Int32.ofInt n = v) (hn : i < nL) (hl : (i, Value.int v) :: L.filter (fun q => !(q.1 == i) && !(q.1 + 1 == i && q.2.category == 2)) = L') (kk : bV X D A nL Q ws L' st mc ms (pc + 3)) : bV X D A nL Q ws L st mc ms pc := by
  obtain ⟨p, e0, R, s, m, args, below, meth, c, l⟩ := X
  obtain ⟨hx, hb, hml, hown, hts, hK, hA, hR⟩ := C
  exact fun H locs ls hP hD hS h => lv_iinc hx hb d h hk hv hn hl (fun ls2 h2 => kk H locs ls2 hP hD hS h2)
theorem B_goto (C : bCC X D tys A nL cc (g_RX own) Rm) {off : Int} {tgt : Nat} (d : decode cc pc = .ok (.goto off, 3)) (ht : (pc : Int) + off = (tgt : Int)) (kk : bV X D A nL Q ws L st mc ms tgt) : bV X D A nL Q ws L st mc ms pc := by
  obtain ⟨p, e0, R, s, m, args, below, meth, c, l⟩ := X
  obtain ⟨hx, hb, hml, hown, hts, hK, hA, hR⟩ := C
  exact fun H locs ls hP hD hS h => lv_goto hx hb d ht (kk H locs ls hP hD hS h)
theorem B_icmpge (C : bCC X D tys A nL cc (g_RX own) Rm) {x y : Int32} {off : Int} {tgt : Nat} (d : decode cc pc = .ok (.if_icmp .ge off, 3)) (ht : (pc : Int) + off = (tgt : Int)) (kt : ¬ x < y → bV X D A nL Q ws L st mc ms tgt) (kf : x < y → bV X D A nL Q ws L st mc ms (pc + 3)) : bV X D A nL Q ws L (.int y :: .int x :: st) mc ms pc := by
  obtain ⟨p, e0, R, s, m, args, below, meth, c, l⟩ := X
  obtain ⟨hx, hb, hml, hown, hts, hK, hA, hR⟩ := C
  exact fun H locs ls hP hD hS h => lv_icmp_ge hx hb d ht (fun z => kt (Int32.not_lt.mpr z) H locs ls hP hD hS h) (fun z => kf (Int32.not_le.mp z) H locs ls hP hD hS h)
theorem B_obj (C : bCC X D tys A nL cc (g_RX own) Rm) {k x : Nat} (d : decode cc pc = .ok (.invokespecial k, 3)) (w1 : Cond.methodLink (g_RX own) k objectInit ∈ g_B) (w2 : Cond.instanceMethod objectInit ∈ g_B) (w3 : Cond.code objectInit ⟨#[0xb1]⟩ 1 none ∈ g_B) (hf : 1 ≤ Rm.frames) (hlo : (st.map fun v => v.category).sum + 12 ≤ Rm.locals) (kk : bV X D A nL Q ws L st mc ms (pc + 3)) : bV X D A nL Q ws L (.ref x :: st) mc ms pc := by
  obtain ⟨p, e0, R, s, m, args, below, meth, c, l⟩ := X
  obtain ⟨hx, hb, hml, hown, hts, hK, hA, rfl⟩ := C
  exact fun H locs ls hP hD hS h => W.objInit hx hb hown (hts _ w1) (hts _ w2) (hts _ w3) rfl (by rw [hml]; exact h.1) rfl d hf (by show 2 * 0 + _ + 12 ≤ _; omega) (W.eq (g2 := F0 m (pc + 3) ls st) rfl (kk H locs ls hP hD hS h))
theorem B_vret (C : bCC X D tys A nL cc (g_RX own) Rm) (I : bI X) {W1 : va_W → Prop} (d : decode cc pc = .ok (.return_, 1)) (hq : W1 ws) : bV X D A nL (bQ X D A W1 mc ms) ws L [] mc ms pc := by
  obtain ⟨p, e0, R, s, m, args, below, meth, c, l⟩ := X
  obtain ⟨hx, hb, hml, hown, hts, hK, hA, hR⟩ := C
  obtain ⟨i1, i2, i3⟩ := I
  intro H locs ls hP hD hS h
  show W p l e0 R s m args below meth c H locs mc ms (MQ below (fun _ st oc t => (oc = .returned none ∧ ∃ W, W1 W ∧ va_P D g_cl W t.heap ∧ va_D A W) ∧ va_F A st t) args s mc ms A) (F0 m pc ls [])
  exact W.vret hx hb i2 (fun t ht hW => ⟨⟨rfl, ws, hq, by rw [ht]; exact hP, hD⟩, hS.F ht⟩) hS.2.2 d i3
theorem B_widen {mc' ms' : Nat} (h1 : mc ≤ mc') (h2 : ms ≤ ms') (kk : bV X D A nL Q ws L st mc' ms' pc) : bV X D A nL Q ws L st mc ms pc := by
  obtain ⟨p, e0, R, s, m, args, below, meth, c, l⟩ := X
  exact fun H locs ls hP hD hS h => W.widen h1 h2 (kk H locs ls hP hD hS h)
/-- the same world, otherwise written or ordered -/
theorem B_world {ws' : va_W} (hw : ∀ H, va_P D g_cl ws H → va_P D g_cl ws' H) (hd : va_D A ws → va_D A ws') (kk : bV X D A nL Q ws' L st mc ms pc) : bV X D A nL Q ws L st mc ms pc := by
  obtain ⟨p, e0, R, s, m, args, below, meth, c, l⟩ := X
  exact fun H locs ls hP hD hS h => kk H locs ls (hw H hP) (hd hD) hS h
theorem B_weq {ws' : va_W} (hw : ws = ws') (kk : bV X D A nL Q ws' L st mc ms pc) : bV X D A nL Q ws L st mc ms pc := by
  rw [hw]
  exact kk
theorem B_newa (C : bCC X D tys A nL cc (g_RX own) Rm) {atype : ArrayType} {ty : FieldType} {cA : ClassId} {n : Int32} {N : Nat} (t0 : Nat) (w1 : Cond.arrayClass (newarray.typeOf atype) ∈ g_B) (hty : newarray.typeOf atype = ty) (ht : tys[t0]? = some (cA, ty)) (hpr : ∀ c1 c2 (U : State), va_RA U c1 ty → va_RA U c2 ty → c1 = c2) (hdv : defaultValue ty = .int 0) (hn : ¬ n < 0) (hN : n.toNatClampNeg = N) (hby : N * componentBytes ty ≤ 536870912) (hr : mc + 1 ≤ Rm.cells ∧ ms + N ≤ Rm.slots) (d : decode cc pc = .ok (.newarray atype, 2)) (kk : ∀ q : Nat, bV X D A nL Q (ws ++ [(q, .inl (cA, N, .inl (fun _ => 0)))]) L (.ref q :: st) (mc + 1) (ms + N) (pc + 2)) : bV X D A nL Q ws L (.int n :: st) mc ms pc := by
  obtain ⟨p, e0, R, s, m, args, below, meth, c, l⟩ := X
  obtain ⟨hx, hb, hml, hown, hts, hK, hA, rfl⟩ := C
  refine fun H locs ls hP hD hS h => va_newa (ty := ty) (a0 := (N, .inl (fun _ => 0))) hx hb (hts _ w1) hty hK hP hD hS hA (fun cA => by rw [vp_cell_i, hdv]) hn hN hby hr.1 hr.2 d (fun q c2 H1 hK1 hP1 hD1 hS1 => ?_)
  have e : c2 = cA := hpr c2 cA s (hK1.2 tys.length (c2, ty) (by simp)).2 (hK.2 t0 _ ht).2
  subst e
  exact kk q H1 locs ls hP1 hD1 hS1 h
theorem ra_int : ∀ c1 c2 (U : State), va_RA U c1 .int → va_RA U c2 .int → c1 = c2 := fun _ _ _ h1 h2 => Option.some.inj (h1.symm.trans h2)
theorem ra_bool : ∀ c1 c2 (U : State), va_RA U c1 .boolean → va_RA U c2 .boolean → c1 = c2 := fun _ _ _ h1 h2 => Option.some.inj (h1.symm.trans h2)
theorem B_newq (C : bCC X D tys A nL cc (g_RX own) Rm) {Cn : String} {cA : ClassId} {n : Int32} {N k : Nat} (t0 : Nat) (w1 : Cond.classLink (g_RX own) k Cn ∈ g_B) (hao : ∀ p e R s m args below meth c l, X = (p, e, R, s, m, args, below, meth, c, l) → va_AO Cn s) (ht : tys[t0]? = some (cA, .object Cn)) (hn : ¬ n < 0) (hN : n.toNatClampNeg = N) (hby : N * 4 ≤ 536870912) (hr : mc + 1 ≤ Rm.cells ∧ ms + N ≤ Rm.slots) (d : decode cc pc = .ok (.anewarray k, 3)) (kk : ∀ q : Nat, bV X D A nL Q (ws ++ [(q, .inl (cA, N, .inr (.inr (.inr (.inr (fun _ => none))))))]) L (.ref q :: st) (mc + 1) (ms + N) (pc + 3)) : bV X D A nL Q ws L (.int n :: st) mc ms pc := by
  obtain ⟨p, e0, R, s, m, args, below, meth, c, l⟩ := X
  obtain ⟨hx, hb, hml, hown, hts, hK, hA, rfl⟩ := C
  refine fun H locs ls hP hD hS h => va_newq hx hb hown (hts _ w1) (hao _ _ _ _ _ _ _ _ _ _ rfl) hK hP hD hS hA hn hN hby hr.1 hr.2 d (fun q c2 H1 hK1 hP1 hD1 hS1 => ?_)
  have e : c2 = cA := by
    obtain ⟨_, _, -, -, -, h1⟩ := (hK1.2 tys.length (c2, .object Cn) (by simp)).2
    obtain ⟨_, _, -, -, -, h2⟩ := (hK.2 t0 _ ht).2
    exact Option.some.inj (h1.symm.trans h2)
  subst e
  exact kk q H1 locs ls hP1 hD1 hS1 h
/-- a class that can be made: its words -/
def b_NF (own : String) (k ci : Nat) (fs : List Value) : Prop := ∃ (C : String) (T : u_T) (N : Nat) (ty : Nat → FieldType), g_cl[ci]? = some (C, T, N) ∧ fs.length = N ∧ (∀ w ∈ u_ws C T N, w ∈ g_B) ∧ (∀ k, k < N → parseFieldDescriptor (T k).2.2.1 = some (ty k)) ∧ Cond.classLink own k C ∈ g_B ∧ Cond.instantiable C N ∈ g_B ∧ Cond.initialized C ∈ g_B ∧ ∀ j, j < N → defaultValue (ty j) = vp_V fs j
theorem B_new (C : bCC X D tys A nL cc (g_RX own) Rm) {k ci : Nat} {fs : List Value} (F : b_NF (g_RX own) k ci fs) (hr : mc + 1 ≤ Rm.cells ∧ ms + fs.length ≤ Rm.slots) (d : decode cc pc = .ok (.new k, 3)) (kk : ∀ q : Nat, bV X D A nL Q (ws ++ [(q, .inr (ci, fs))]) L (.ref q :: st) (mc + 1) (ms + fs.length) (pc + 3)) : bV X D A nL Q ws L st mc ms pc := by
  obtain ⟨p, e0, R, s, m, args, below, meth, c, l⟩ := X
  obtain ⟨hx, hb, hml, hown, hts, hK, hA, rfl⟩ := C
  obtain ⟨Cn, T, N, ty, f1, f2, f3, f4, f5, f6, f7, f8⟩ := F
  subst f2
  exact fun H locs ls hP hD hS h => va_new (ci := ci) (fs := fs) hx hb hts f3 ty f4 hown (hts _ f5) (hts _ f6) (hts _ f7) hK hP hD hS hA f1 f8 hr.1 hr.2 d (fun q H1 hP1 hD1 hS1 => kk q H1 locs ls hP1 hD1 hS1 h)
/-- a final field, put by its own class's constructor -/
def b_FF (own : String) (ix ci k : Nat) : Prop := ∃ (C : String) (T : u_T) (N : Nat) (ty0 : Nat → FieldType), g_cl[ci]? = some (C, T, N) ∧ k < N ∧ (∀ w ∈ u_ws C T N, w ∈ g_B) ∧ Cond.fieldLink own ix C (T k).2.1 (T k).2.2.1 ∈ g_B ∧ (T k).1 = C ∧ (∀ k, k < N → parseFieldDescriptor (T k).2.2.1 = some (ty0 k)) ∧ (∀ a, a < N → ∀ b, b < N → a ≠ b → (T a).2.1 ≠ (T b).2.1) ∧ (T k).2.2.2 = true ∧ C = own ∧ ∀ q : Nat, narrow (ty0 k) (.ref q) = .ref q ∧ fits (ty0 k) (.ref q) = true
theorem B_putF (C : bCC X D tys A nL cc (g_RX own) Rm) (I : bI X) {ix ci k a v : Nat} {fs : List Value} {tl : va_W} (F : b_FF (g_RX own) ix ci k) (hl : k < fs.length) (d : decode cc pc = .ok (.putfield ix, 3)) (kk : bV X D A nL Q ((a, .inr (ci, fs.set k (.ref v))) :: tl) L st mc ms (pc + 3)) : bV X D A nL Q ((a, .inr (ci, fs)) :: tl) L (.ref v :: .ref a :: st) mc ms pc := by
  obtain ⟨p, e0, R, s, m, args, below, meth, c, l⟩ := X
  obtain ⟨hx, hb, hml, hown, hts, hK, hA, hR⟩ := C
  obtain ⟨i1, i2, i3⟩ := I
  obtain ⟨Cn, T, N, ty0, f1, f2, f3, f4, f5, f6, f7, f8, f9, f10⟩ := F
  exact fun H locs ls hP hD hS h => va_putF (D := D) (ci := ci) (v := .ref v) (ty := ty0 k) (C := Cn) (T := T) (N := N) (ref := Cn) hx hb hts f3 ty0 f6 f7 hown hK hP hD hS 0 rfl f1 k f2 (hts _ f4) (by rw [f5]; exact fun _ h9 => h9) f8 i1 (f5.trans f9) (f6 k f2) (f10 v).1 (f10 v).2 hl d (fun H1 locs1 hP1 hD1 hS1 => kk H1 locs1 ls hP1 hD1 hS1 h)
/-- another field of the object at the head -/
theorem B_put (C : bCC X D tys A nL cc (g_RX own) Rm) {ix a : Nat} {e : Nat × Nat × Nat} {v : Value} {fs : List Value} {tl : va_W} (F : g_FL (g_RX own) (ix, e)) (hc : e.2.2 ≠ 4) (hl : e.2.1 < fs.length) (hn : narrow (g_cty e.2.2) v = v) (hfit : fits (g_cty e.2.2) v = true) (d : decode cc pc = .ok (.putfield ix, 3)) (kk : bV X D A nL Q ((a, .inr (e.1, fs.set e.2.1 v)) :: tl) L st mc ms (pc + 3)) : bV X D A nL Q ((a, .inr (e.1, fs)) :: tl) L (v :: .ref a :: st) mc ms pc := by
  obtain ⟨p, e0, R, s, m, args, below, meth, c, l⟩ := X
  obtain ⟨hx, hb, hml, hown, hts, hK, hA, hR⟩ := C
  obtain ⟨Cn, T, N, ty0, f1, f2, f3, f4, f5, f6, f7, f8⟩ := F
  obtain ⟨f9, f10⟩ := f8.resolve_left hc
  exact fun H locs ls hP hD hS h => va_put (D := D) (ci := e.1) (v := v) (ty := g_cty e.2.2) (C := Cn) (T := T) (N := N) (ref := Cn) hx hb hts f3 ty0 f6 f7 hown hK hP hD hS 0 rfl f1 e.2.1 f2 (hts _ f4) (by rw [f5]; exact fun _ h9 => h9) f9 (by rw [f6 _ f2, f10]) hn hfit hl d (fun H1 locs1 hP1 hD1 hS1 => kk H1 locs1 ls hP1 hD1 hS1 h)
theorem B_get (C : bCC X D tys A nL cc (g_RX own) Rm) {ix a : Nat} {e : Nat × Nat × Nat} {v : Value} {fs : List Value} (q0 : Nat) (F : g_FL (g_RX own) (ix, e)) (he : ws[q0]? = some (a, .inr (e.1, fs))) (hv : fs[e.2.1]? = some v) (d : decode cc pc = .ok (.getfield ix, 3)) (kk : bV X D A nL Q ws L (v :: st) mc ms (pc + 3)) : bV X D A nL Q ws L (.ref a :: st) mc ms pc := by
  obtain ⟨p, e0, R, s, m, args, below, meth, c, l⟩ := X
  obtain ⟨hx, hb, hml, hown, hts, hK, hA, hR⟩ := C
  obtain ⟨Cn, T, N, ty0, f1, f2, f3, f4, f5, f6, f7, f8⟩ := F
  exact fun H locs ls hP hD hS h => va_get (D := D) (v := v) (C := Cn) (T := T) (N := N) (ref := Cn) (index := ix) hx hb hts f3 hown hK hP q0 he f1 e.2.1 f2 (hts _ f4) (by rw [f5]; exact fun _ h9 => h9) hv d (kk H locs ls hP hD hS h)
theorem B_aald (C : bCC X D tys A nL cc (g_RX own) Rm) {Cn : String} {cA : ClassId} {n a v : Nat} {f : Nat → Option Nat} {i : Int32} (q0 t0 : Nat) (ha : ws[q0]? = some (a, .inl (cA, n, .inr (.inr (.inr (.inr f)))))) (ht : tys[t0]? = some (cA, .object Cn)) (hin : vp_in i n) (hv : f i.toNatClampNeg = some v) (d : decode cc pc = .ok (.aaload, 1)) (kk : bV X D A nL Q ws L (.ref v :: st) mc ms (pc + 1)) : bV X D A nL Q ws L (.int i :: .ref a :: st) mc ms pc := by
  obtain ⟨p, e0, R, s, m, args, below, meth, c, l⟩ := X
  obtain ⟨hx, hb, hml, hown, hts, hK, hA, hR⟩ := C
  exact fun H locs ls hP hD hS h => va_aldq hx hb hK hP q0 t0 ha ht hin d (by rw [hv]; exact kk H locs ls hP hD hS h)
theorem B_aast (C : bCC X D tys A nL cc (g_RX own) Rm) {cA : ClassId} {r : vw_C} {n a v ci : Nat} {vs : List Value} {f : Nat → Option Nat} {i : Int32} (q0 t0 qk : Nat) (ws' : va_W) (ha : ws[q0]? = some (a, .inl (cA, n, .inr (.inr (.inr (.inr f)))))) (ht : tys[t0]? = some (cA, .object r.1)) (hv : ws[qk]? = some (v, .inr (ci, vs))) (hc : g_cl[ci]? = some r) (hin : vp_in i n) (hw : ws.set q0 (a, .inl (cA, n, .inr (.inr (.inr (.inr (va_up f i.toNatClampNeg (some v))))))) = ws') (d : decode cc pc = .ok (.aastore, 1)) (kk : bV X D A nL Q ws' L st mc ms (pc + 1)) : bV X D A nL Q ws L (.ref v :: .int i :: .ref a :: st) mc ms pc := by
  obtain ⟨p, e0, R, s, m, args, below, meth, c, l⟩ := X
  obtain ⟨hx, hb, hml, hown, hts, hK, hA, hR⟩ := C
  subst hw
  exact fun H locs ls hP hD hS h => va_astq hx hb hK hP hD hS q0 t0 qk ci ha ht hv hc hin d (fun H1 locs1 hP1 hD1 hS1 => kk H1 locs1 ls hP1 hD1 hS1 h)
end BR
