/-! THE CLAIM OUT OF ONE WALK OF THE LAW'S BODY. Your part is whole_start (and what it stands on); all else here is the same for every law, but numbers. -/
def R_law : String := "UnderTheRoofLaw"
def lw_P (b : Addr) (xs : List Int32) (args : Array Value) (s : State) : Prop := args = #[.ref b] ∧ s.IntsAt b xs ∧ xs.length ≤ 3072 ∧ (Jvm.Cond.and given_1 narrow_1).before args s = true
def lw_Q (_ : Array Value) (s : State) (o : Outcome) (t : State) : Prop := o = .returned (some (.int 1)) ∧ Framed s o t [] 600000 7302250
def lw_Z (below : List Frame) (a : Array Value) (s : State) : State → Prop := fun t => ∃ o, t.status = .running ∧ Ended t below o ∧ lw_Q a s o t
/-- the law's own end, with 1 on the stack, nothing written that was there before, its room as the claim has it -/
theorem lw_ret {p : Program} {l : Launch} {e : Env} {s : State} {m : MethodId} {below : List Frame} {meth : Method} {c : Code} {b : Nat} (hx : p.tables.exec = Jvm.exec) (hb : c.code = code) (hr : meth.sig.returnType = ret) (hlocks : meth.locks = false) {pc : Nat} {H : Heap} {ls : Array Slot} (hdg : decode code pc = .ok (.ireturn, 1)) : W p l e room_1 s m #[Value.ref b] below meth c H [] 600000 7302250 (lw_Z below #[Value.ref b] s) (F0 m pc ls [.int 1]) := by
  intro T hT X
  obtain ⟨fs, hret, hrun, hended, hW, hframe⟩ := X.leave (v := some (.int 1)) (hlocks := hlocks) (fun h => by rw [hr] at h; cases h)
  have hmeth' : T.vm.method? m = some meth := X.method'
  refine ⟨T.setFrames fs, ?_, .returned (some (.int 1)), hrun, hended, rfl, ⟨_, rfl⟩, hW, hframe⟩
  jvm_step X.here [X.here.top, hx, hb, hdg, hmeth', hr, ret, narrow_b1]
  (try refine ⟨rfl, ?_⟩); (try refine ⟨rfl, ?_⟩)
  first | (intro acts; rw [hret _ acts rfl rfl rfl]) | rw [hret _ _ rfl rfl rfl]
  exact Steps.refl _
/-- what holds at the law's entry: the machine, the code, the tables' words (any of lw_tbl by 'hts w (by decide +kernel)'), the script of L ints xs at the cell b, what the Statement gives of the start (any of its parts by flat_of_before) -/
def lw_At (p : Program) (s : State) (m : MethodId) (meth : Method) (c : Code) (b L : Nat) (xs : Nat → Int32) : Prop :=
  p.tables.exec = Jvm.exec ∧ c.code = code ∧ meth.sig.returnType = ret ∧ c.maxLocals = 4 ∧ s.vm.findClass R_law = some m.cls ∧ (∀ w ∈ lw_tbl, w.before #[Value.ref b] s = true) ∧ va_X b L xs s s.heap ∧ b < s.heap.size ∧ meth.locks = false ∧ (Jvm.Cond.and given_1 narrow_1).before #[Value.ref b] s = true
-- ===== YOUR PART BEGINS =====
/-! THE LAW: from its entry to its loop -/
theorem g_fs_eq {ad : Nat → Nat} {σ μ : gS} {k : Nat} (h : σ k = μ k) : ∀ (ts : List Nat) (j : Nat), g_fs ad σ k j ts = g_fs ad μ k j ts := by
  intro ts
  induction ts with
  | nil => intro j; rfl
  | cons t ts ih =>
    intro j
    have e : g_lv σ k j t = g_lv μ k j t := by
      match t with
      | 0 => show Value.int (σ k j) = .int (μ k j); rw [h]
      | 1 => show Value.long (σ k j).toInt64 = .long (μ k j).toInt64; rw [h]
      | 2 => show (if σ k j = -1 then Value.null else .ref (45 + 3 * (σ k j).toNatClampNeg)) = (if μ k j = -1 then Value.null else .ref (45 + 3 * (μ k j).toNatClampNeg)); rw [h]
      | n + 3 => rfl
    rw [g_fs, g_fs, ih (j + 1), e]
theorem g_en_eq {G : gG} {σ μ : gS} {k : Nat} (h : σ k = μ k) : g_en G σ k = g_en G μ k := by
  unfold g_en
  cases g_sh k with
  | inl q => show Sum.inr (q.1, g_fs G.1 σ k 0 q.2) = Sum.inr (q.1, g_fs G.1 μ k 0 q.2); rw [g_fs_eq h]
  | inr q => show Sum.inl (G.2.2 q.1, q.2, g_el G.1 q.1 (σ k)) = Sum.inl (G.2.2 q.1, q.2, g_el G.1 q.1 (μ k)); rw [h]
theorem g_wl_eq {G : gG} {K : List Nat} {σ μ : gS} (h : ∀ k ∈ K, σ k = μ k) : g_wl G K σ = g_wl G K μ := List.map_congr_left fun k hk => by rw [g_en_eq (h k hk)]
theorem b_KXlt : ∀ k, k ∈ b_KX → k < 63 := by decide +kernel
theorem b_KMge : ∀ k, k ∈ b_KM → ¬ k < 63 := by decide +kernel
theorem b_KMtr (G : gG) (ad : Nat → Nat) (vs : List Nat) (s : gS) : g_wl (ad, G.2) b_KM s = g_wl (b_GX G ad vs) b_KM s := rfl
theorem va_P.zl {D : va_G} {cl : List vw_C} {w1 w2 : va_W} {H : Heap} (h : va_P D cl (w1 ++ w2) H) : va_P D cl w1 H := fun k q hk => h k q (by rw [List.getElem?_append_left (List.getElem?_eq_some_iff.mp hk).1]; exact hk)
theorem va_P.zr {D : va_G} {cl : List vw_C} {w1 w2 : va_W} {H : Heap} (h : va_P D cl (w1 ++ w2) H) : va_P D cl w2 H := fun k q hk => h (w1.length + k) q (by rw [List.getElem?_append_right (by omega), Nat.add_sub_cancel_left]; exact hk)
/-- the first half of a world, by another world at the same addresses -/
theorem va_D.zhalf {A : Nat → Prop} {w1 w2 w : va_W} (h : va_D A (w1 ++ w2)) (t : ∀ B, va_D B w1 → va_D B w) : va_D A (w ++ w2) := by
  have l : ∀ (k : Nat) (q : Nat × va_E), w1[k]? = some q → (w1 ++ w2)[k]? = some q := fun k q hk => by
    rw [List.getElem?_append_left (List.getElem?_eq_some_iff.mp hk).1]
    exact hk
  have r : ∀ (k : Nat) (q : Nat × va_E), w2[k]? = some q → (w1 ++ w2)[w1.length + k]? = some q := fun k q hk => by
    rw [List.getElem?_append_right (by omega), Nat.add_sub_cancel_left]
    exact hk
  have d1 : va_D (fun a => A a ∧ ∃ (k : Nat) (q : Nat × va_E), w1[k]? = some q ∧ q.1 = a) w1 := ⟨fun i j p q hi hj e => h.1 i j p q (l i p hi) (l j q hj) e, fun k q hk => ⟨h.2 k q (l k q hk), k, q, hk, rfl⟩⟩
  have d := t _ d1
  refine va_D.app (d.weaken fun _ _ _ z => z.1) ⟨fun i j p q hi hj e => ?_, fun k q hk => h.2 _ q (r k q hk)⟩ (fun i j p q hi hj e => ?_)
  · have := h.1 _ _ p q (r i p hi) (r j q hj) e
    omega
  · obtain ⟨-, k, z, hk, hz⟩ := d.2 i p hi
    have := h.1 _ _ z q (l k z hk) (r j q hj) (hz.trans e)
    have := (List.getElem?_eq_some_iff.mp hk).1
    omega
set_option maxHeartbeats 4000000 in
set_option maxRecDepth 100000 in
theorem law_main {p : Program} {e : Env} {s : State} {m : MethodId} {below : List Frame} {meth : Method} {c : Code} {l : Launch} {b Ln : Nat} {xs : Nat → Int32} {ad0 : Nat → Nat} {G : gG} {A : Nat → Prop} (hA0 : ∀ q, A q → s.heap.size ≤ q) (hL : Ln ≤ 3072) (hr : meth.sig.returnType = ret) (hlk : meth.locks = false) (C : bCC (p, e, room_1, s, m, #[Value.ref b], below, meth, c, l) G.2.1 (g_tys G) A 4 cL_law (g_RX 9) room_1) (E : bEX (p, e, room_1, s, m, #[Value.ref b], below, meth, c, l) ad0 A) (S : bS (p, e, room_1, s, m, #[Value.ref b], below, meth, c, l) A b Ln xs) : bV (p, e, room_1, s, m, #[Value.ref b], below, meth, c, l) G.2.1 A 4 (lw_Z below #[Value.ref b] s) [] [(0, .ref b)] [] 0 0 0 := by
  have fin : ∀ (G' : gG) (i : Nat) (σ : gS), G'.2 = G.2 → bV (p, e, room_1, s, m, #[Value.ref b], below, meth, c, l) G'.2.1 A 4 (lw_Z below #[Value.ref b] s) (g_wl G' b_KK σ) (b_L b i G') [] 90 254143 1179 := by
    intro G' i σ e1
    refine B_iconst (bC_new C e1) (v := 1) dL_law_1179 rfl ?_
    obtain ⟨hx, hb, -⟩ := C
    exact fun H locs ls hP hD hS h => va_forget (fun q hq => hA0 _ (hS.2.2 q hq)) (W.widen (Nat.le_of_ble_eq_true rfl) (Nat.le_of_ble_eq_true rfl) (lw_ret hx hb hr hlk dL_law_1180))
  refine B_new C nf_X9_7 ⟨Nat.le_of_ble_eq_true rfl, Nat.le_of_ble_eq_true rfl⟩ dL_law_0 (fun q1 => ?_)
  refine B_dup C dL_law_3 rfl ?_
  refine B_num (mc' := 1) (ms' := 9) rfl rfl ?_
  refine B_ctor (ws := []) (rest := [.ref q1]) (As := []) C E ci_X9_9 (k_b7 G ad0 q1) (by decide) (by decide) rfl rfl (Nat.le_of_ble_eq_true rfl) ⟨Nat.le_of_ble_eq_true rfl, Nat.le_of_ble_eq_true rfl⟩ dL_law_4 (fun W1 hW1 => ?_)
  refine B_num (mc' := 63) (ms' := 2331) rfl rfl ?_
  refine B_astore C [(1, .ref q1), (0, .ref b)] dL_law_7 rfl (by decide) rfl ?_
  refine B_new C nf_X9_10 ⟨Nat.le_of_ble_eq_true rfl, Nat.le_of_ble_eq_true rfl⟩ dL_law_8 (fun q2 => ?_)
  refine B_dup C dL_law_11 rfl ?_
  refine B_num (mc' := 64) (ms' := 2395) rfl rfl ?_
  refine B_ctor (rest := [.ref q2]) (As := []) C E ci_X9_12 (k_b8 G ad0 q2) (by decide) (by decide) rfl rfl (Nat.le_of_ble_eq_true rfl) ⟨Nat.le_of_ble_eq_true rfl, Nat.le_of_ble_eq_true rfl⟩ dL_law_12 (fun W2 hW2 => ?_)
  refine B_num (mc' := 90) (ms' := 254143) rfl rfl ?_
  refine B_astore C [(2, .ref q2), (1, .ref q1), (0, .ref b)] dL_law_15 rfl (by decide) rfl ?_
  refine B_iconst C (v := nI 0) dL_law_16 rfl ?_
  refine B_istore C [(3, .int (nI 0)), (2, .ref q2), (1, .ref q1), (0, .ref b)] dL_law_17 rfl (by decide) rfl ?_
  obtain ⟨vs, σ, hv0, hFX, hw⟩ := hW1
  obtain ⟨ad', μ, h63, h90, hFM, rfl⟩ := hW2
  obtain ⟨w1, w2⟩ := hw ad'
  subst hv0
  subst h63
  have eM : g_wl (ad', G.2) b_KM μ = g_wl (b_GX G ad' vs) b_KM (b_two2 σ μ) := (g_wl_eq (fun k hk => (if_neg (b_KMge k hk)).symm)).trans (b_KMtr G ad' vs _)
  have eX : g_wl (b_GX G ad' vs) b_KX σ = g_wl (b_GX G ad' vs) b_KX (b_two2 σ μ) := g_wl_eq (fun k hk => (if_pos (b_KXlt k hk)).symm)
  have eA : g_wl (b_GX G ad' vs) b_KK (b_two2 σ μ) = g_wl (b_GX G ad' vs) b_KX σ ++ g_wl (ad', G.2) b_KM μ := by
    rw [eM, eX]
    exact g_wl_app _ _ _ _
  refine B_num (mc' := 90) (ms' := 254143) rfl rfl ?_
  refine B_world (ws' := g_wl (b_GX G ad' vs) b_KK (b_two2 σ μ)) (fun H hP => ?_) (fun hD => ?_) ?_
  · rw [eA]
    exact va_P.app (w1 H hP.zl) hP.zr
  · rw [eA]
    exact va_D.zhalf hD w2
  · exact law_loop (G := b_GX G ad' vs) (b := b) ⟨bC_new C rfl, E, fun k hk => by
      show (if k < 63 then vs.getD k 0 else ad' k) = ad0 k
      rw [if_neg (by omega)]
      exact h90 k (by omega), S, hL, Nat.le_of_ble_eq_true rfl, Nat.le_of_ble_eq_true rfl⟩ (fun i σ => fin (b_GX G ad' vs) i σ rfl) (Ln + 1) 0 (b_two2 σ μ) (by omega) (by omega) (IV0 hFX hFM)
/-- YOUR PART: from the entry, for every script of at most 3072 ints, the law comes to its end with true ('hflags': the launch's flags, for a law that throws: no stack traces) -/
theorem whole_start {p : Program} {e : Env} {s : State} {m : MethodId} {below : List Frame} {meth : Method} {c : Code} (l : Launch) (hflags : l.flags = flags0) {b L : Nat} {xs : Nat → Int32} (hL : L ≤ 3072) (C0 : lw_At p s m meth c b L xs) : W p l e room_1 s m #[Value.ref b] below meth c s.heap [] 0 0 (lw_Z below #[Value.ref b] s) (entryFrame m ([Value.ref b] : List Value).toArray 4) := by
  obtain ⟨hx, hb, hr, hml, hown, hts, hX, hbl, hlk, hgv⟩ := C0
  obtain ⟨ad0, G, hK, hE⟩ := law_start hts hgv
  have hl := lv_entry [Value.ref b] (n := 4) (Nat.le_of_ble_eq_true rfl)
  rw [lg_entry_eq]
  exact law_main (G := G) (ad0 := ad0) (A := fun q => s.heap.size ≤ q) (fun q h => h) hL hr hlk ⟨hx, hb, hml, hown, fun w hw => hts w (g_B_sub w hw), hK, fun q h => h, rfl⟩ hE ⟨hX, hbl, Nat.not_le.mpr hbl⟩ s.heap [] _ (fun k q h => by simp at h) ⟨fun i j p q h => by simp at h, fun k q h => by simp at h⟩ va_S.rf hl
-- ===== YOUR PART ENDS =====
set_option maxHeartbeats 4000000 in
theorem lw_walk (l : Launch) (hflags : l.flags = flags0) (b : Addr) (xs : List Int32) : MetFree l x (headSpec (Jvm.Cond.code x code maxLocals ret :: tables_1) room_1) (lw_P b xs) (fun _ _ _ _ _ => True) lw_Q := by
  refine MetFree.of_bodyS (code := code) (maxLocals := maxLocals) (ret := ret) (by decide) ?_ ?_
  · intro args s m h hn
    obtain ⟨meth, c, h1, h2, h3, h4, h5, h6, -, -⟩ := Cond.code_spec hn (atoms_spec (ws := Jvm.Cond.code x code maxLocals ret :: tables_1) h _ List.mem_cons_self)
    exact ⟨meth, c, h1, h2, h3, h4, h5, h6⟩
  · intro p e s m args below meth c s₁ B hml0 hP _
    obtain ⟨rfl, hx, hbd, hgv⟩ := hP
    obtain ⟨scr, harrAt, hlist, hof, hsmall⟩ := hx
    obtain ⟨hcb, hkn, -, -⟩ := State.arrayAt?_spec harrAt
    have hown : s.vm.findClass R_law = some m.cls := findClass_of_methodNamed B.named
    have hts0 : ∀ c ∈ (Jvm.Cond.code x code maxLocals ret :: tables_1), c.before #[Value.ref b] s = true := atoms_spec (ws := Jvm.Cond.code x code maxLocals ret :: tables_1) B.pre
    have hts : ∀ w ∈ lw_tbl, w.before #[Value.ref b] s = true := k2_hts_sels lw_privs (fun w hw => hts0 w (List.mem_cons_of_mem _ hw)) lw_privs_ok
    have hml : c.maxLocals = 4 := B.maxLocals_eq (hts0 _ List.mem_cons_self)
    have X₀ : Stand p l e room_1 s m #[Value.ref b] below meth c s₁ [] 0 0 := Stand.of_body B
    have hh0 : s₁.heap = s.heap := by rw [B.state]; rfl
    have hsz : scr.slots.size = xs.length := by rw [← Array.length_toList, hlist, List.length_map]
    have hval : ∀ j : Nat, j < xs.length → scr.slots[j]? = some (.int (xs.getD j 0)) := fun j hj => by
      rw [← Array.getElem?_toList, hlist]
      simp [hj]
    have hbl : b < s.heap.size := (Array.getElem?_eq_some_iff.mp hcb).1
    have hX : va_X b xs.length (fun j => xs.getD j 0) s s.heap := ⟨scr, hcb, hof, hkn, hsz, hval⟩
    have K : W p l e room_1 s m #[Value.ref b] below meth c s₁.heap [] 0 0 (lw_Z below #[Value.ref b] s) (entryFrame m ([Value.ref b] : List Value).toArray 4) := by
      rw [hh0]
      exact whole_start l hflags hbd ⟨B.exec, B.bytes, B.returns, hml, hown, hts, hX, hbl, B.notSynchronized, hgv⟩
    obtain ⟨t, a1, o, b1, b2, b3⟩ := K s₁ rfl X₀
    exact ⟨t, o, a1, b1, b2, b3⟩
theorem lw_pre_spec {args : Array Value} {s : State} (h : (Jvm.Cond.and given_1 narrow_1).before args s = true) (hr : rest_1_c.before args s = true) : ∃ (b : Addr) (xs : List Int32), lw_P b xs args s := by
  have hs := flat_of_before _ h
  have hq := flat_of_before _ hr
  have hc : (Cond.count 1).before args s = true := hs _ (by decide +kernel)
  have harr : (Cond.arrayOf (.arg 0) .int).before args s = true := hs _ (by decide +kernel)
  have hle : (Cond.le (.length (.arg 0)) (.int 3072)).before args s = true := hs _ (by decide +kernel)
  have hlen : (Cond.isInt (.length (.arg 0))).before args s = true := hq _ (by decide +kernel)
  have hall : (Cond.all (.arg 0) (.isInt (.elem (.arg 0) (.index 0)))).before args s = true := hq _ (by decide +kernel)
  obtain ⟨b, xs, hb, hx⟩ := State.ints_of_pre rfl harr hlen hall
  have hsm : xs.length < 2 ^ 31 := hx.choose_spec.2.2.2
  have hev : (Term.length (.arg 0)).eval args s none [] s = some (.int xs.length.toInt32) := hx.length_eval hb
  have hv := Cond.le_ints hev (show (Term.int 3072).eval args s none [] s = some (.int 3072) from rfl)
  have hd : xs.length.toInt32 ≤ 3072 := by
    simpa [Cond.before, Cond.holds, hv] using hle
  have hN : xs.length ≤ 3072 := (Int32.ofNat_le_ofNat hsm (by decide)).mp (show Int32.ofNat xs.length ≤ Int32.ofNat 3072 from hd)
  exact ⟨b, xs, Cond.one_arg hc (show args[0]? = some (.ref b) from hb), hx, hN, h⟩
theorem lw_comes (l : Launch) (hflags : l.flags = flags0) : Comes l x (Jvm.Cond.code x code maxLocals ret :: tables_1) room_1 (fun tb e args s => Calls_1 tb e args s ∧ rest_1 tb e args s ∧ Pre_1 tb e args s)
    (fun _ _ args s o t => lw_Q args s o t) := by
  intro p e ha hc hk s m args below hf hfit hheap happ hpre
  obtain ⟨b, xs, hP⟩ := lw_pre_spec hpre.2.2 hpre.2.1
  obtain ⟨k, o, h1, h2, h3, hQ⟩ := lw_walk l hflags b xs p e ha hc hk s m args below hf ((Spec.applies_iff_loose hf).mp happ).1 hP trivial
  exact ⟨k, o, h1, h2, h3, hQ⟩
theorem lw_frame {s t : State} {o : Outcome} {args : Array Value} (h : Framed s o t [] 600000 7302250) :
    Framed s o t (fieldLocs frame_1_writes args s ++ arrayLocs frame_1_arrays args s ++ staticLocs frame_1_statics s) 600000 7302250 := h
theorem lw_limb (L : Cond) (hL : ∀ (args : Array Value) (s t : State), L.after args s (.returned (some (.int 1))) t = true) :
    ArmFor flags0 classFile x code maxLocals ret World_1 tables_1 room_1 Calls_1 rest_1 Pre_1
      (fun tb e a s o t => postC L tb e a s o t ∧ Framed s o t (fieldLocs frame_1_writes a s ++ arrayLocs frame_1_arrays a s ++ staticLocs frame_1_statics s) 600000 7302250) := by
  intro l hflags _ _ p e ha hc hk s m args below hf hfit hheap happ hpre
  obtain ⟨k, o, h1, h2, h3, rfl, hF⟩ := lw_comes l hflags p e ha hc hk s m args below hf hfit hheap happ hpre
  exact ⟨k, _, h1, h2, h3, hL args s _, lw_frame hF⟩
theorem i_vc : Claimed_1_1 ∧ Claimed_1_2 := ⟨lw_limb limb_1_1 (fun args s t => by simp [limb_1_1, Cond.after, Cond.holds, Cond.value]), lw_limb limb_1_2 (fun args s t => Cond.after_iff.mpr (by
  first | (rw [show limb_1_2 = Cond.eq .result (.int 1) from rfl, Cond.eq_ints (x := 1) (y := 1) rfl rfl]; simp; done) | (simp [limb_1_2, Cond.value, Term.eval]; done)))⟩
