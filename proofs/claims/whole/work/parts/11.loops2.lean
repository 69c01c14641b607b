/-! COPY, RAINS, TAKEN, COUNT 8, IMAGE, BACK -/
def g_subL : gL → gL → Prop
  | [], [] => True
  | none :: a, _ :: b => g_subL a b
  | some v :: a, x :: b => x = some v ∧ g_subL a b
  | _, _ => False
theorem g_subL_spec : ∀ {L' L : gL}, g_subL L' L → L'.length = L.length ∧ ∀ (i : Nat) (v : Value), L'[i]? = some (some v) → L[i]? = some (some v) := by
  intro L'
  induction L' with
  | nil =>
    intro L h
    cases L with
    | nil => exact ⟨rfl, fun i v h => by simp at h⟩
    | cons x b => exact h.elim
  | cons y a ih =>
    intro L h
    cases L with
    | nil => cases y <;> exact h.elim
    | cons x b =>
      cases y with
      | none =>
        obtain ⟨h1, h2⟩ := ih (show g_subL a b from h)
        refine ⟨by simp [h1], fun i v hv => ?_⟩
        cases i with
        | zero => simp at hv
        | succ i => simpa using h2 i v (by simpa using hv)
      | some w =>
        obtain ⟨hx, h⟩ : x = some w ∧ g_subL a b := h
        obtain ⟨h1, h2⟩ := ih h
        refine ⟨by simp [h1], fun i v hv => ?_⟩
        cases i with
        | zero => simp at hv; simp [hx, hv]
        | succ i => simpa using h2 i v (by simpa using hv)
/-- some locals are forgotten -/
theorem V_less {X : gX} {G : gG} {K : List Nat} {nL : Nat} {Qp : Option Value → gS → Prop} {σ : gS} {L L' : gL} {st : List Value} {pc : Nat} (hs : g_subL L' L) (kk : gV X G K nL Qp σ L' st pc) : gV X G K nL Qp σ L st pc := by
  obtain ⟨h1, h2⟩ := g_subL_spec hs
  obtain ⟨p, e0, R, s, m, args, below, meth, c, l⟩ := X
  exact fun H locs ls hP hS hl => kk H locs ls hP hS ⟨h1.trans hl.1, hl.2.1, hl.2.2.1, fun q hq => hl.2.2.2 q (by
    obtain ⟨j, w⟩ := q
    obtain ⟨k, v, e1, e2, e3⟩ := g_lf_mem.mp hq
    exact g_lf_mem.mpr ⟨k, v, h2 k v e1, e2, e3⟩)⟩
set_option maxHeartbeats 4000000 in
set_option maxRecDepth 100000 in
theorem c_X4_hasAll (σ : gS) {t : Nat} (ht : t < 4) (i n : Int32) : g_Met yX4_hasAll cX4_hasAll 3 (some .boolean) 2 kX [.ref (37 + 2 * t), .int i, .int n] σ (fun rv s => rv = some (.int (if g_in i 0 (σ (37 + 2 * t) 1) ∧ g_in n 0 ((σ (37 + 2 * t) 1) - i) then 1 else 0)) ∧ s = σ) := by
  refine g_Met.of (own := 4) (L := [some (.ref (37 + 2 * t)), some (.int i), some (.int n)]) (by decide) rfl rfl (fun ad => Nat.le_of_ble_eq_true rfl) (fun ad => rfl) (fun X G K C => ?_)
  refine V_blk C (pc' := 3) (σ' := σ) (L' := [some (.ref (37 + 2 * t)), some (.int i), some (.int n)]) (st' := [.ref (37 + 2 * t), .int 0, .int i]) (g_c dX4_hasAll_0 (g_c dX4_hasAll_1 (g_c dX4_hasAll_2 g_n))) rfl rfl ?_
  refine V_get4i C (t := t) (j := 1) ht (by decide) fl_X4_19 (kX_lt (by omega)) dX4_hasAll_3 ?_
  refine V_callNI C cn_X4_22 (c_X7_isIn σ i 0 (σ (37 + 2 * t) 1)) (by decide) (by decide) (fun _ h => h) (As := [.int i, .int 0, .int (σ (37 + 2 * t) 1)]) (rest := []) rfl rfl (Nat.le_of_ble_eq_true rfl) dX4_hasAll_6 ?_
  refine V_if_eq_b C (tgt := 30) dX4_hasAll_9 (by decide) (fun h9 => ?_) (fun h9 => ?_)
  · skip
    refine V_blk C (pc' := 31) (σ' := σ) (L' := [some (.ref (37 + 2 * t)), some (.int i), some (.int n)]) (st' := [.int 0]) (g_c dX4_hasAll_30 g_n) rfl rfl ?_
    refine V_zret C (by decide) dX4_hasAll_31 ?_
    exact ⟨by rw [if_neg (fun z => h9 z.1)], rfl⟩
  · skip
    refine V_blk C (pc' := 15) (σ' := σ) (L' := [some (.ref (37 + 2 * t)), some (.int i), some (.int n)]) (st' := [.ref (37 + 2 * t), .int 0, .int n]) (g_c dX4_hasAll_12 (g_c dX4_hasAll_13 (g_c dX4_hasAll_14 g_n))) rfl rfl ?_
    refine V_get4i C (t := t) (j := 1) ht (by decide) fl_X4_19 (kX_lt (by omega)) dX4_hasAll_15 ?_
    refine V_blk C (pc' := 20) (σ' := σ) (L' := [some (.ref (37 + 2 * t)), some (.int i), some (.int n)]) (st' := [.int ((σ (37 + 2 * t) 1) - i), .int 0, .int n]) (g_c dX4_hasAll_18 (g_c dX4_hasAll_19 g_n)) rfl rfl ?_
    refine V_callNI C cn_X4_22 (c_X7_isIn σ n 0 ((σ (37 + 2 * t) 1) - i)) (by decide) (by decide) (fun _ h => h) (As := [.int n, .int 0, .int ((σ (37 + 2 * t) 1) - i)]) (rest := []) rfl rfl (Nat.le_of_ble_eq_true rfl) dX4_hasAll_20 ?_
    refine V_if_eq_b C (tgt := 30) dX4_hasAll_23 (by decide) (fun h23 => ?_) (fun h23 => ?_)
    · skip
      refine V_blk C (pc' := 31) (σ' := σ) (L' := [some (.ref (37 + 2 * t)), some (.int i), some (.int n)]) (st' := [.int 0]) (g_c dX4_hasAll_30 g_n) rfl rfl ?_
      refine V_zret C (by decide) dX4_hasAll_31 ?_
      exact ⟨by rw [if_neg (fun z => h23 z.2)], rfl⟩
    · skip
      refine V_blk C (pc' := 27) (σ' := σ) (L' := [some (.ref (37 + 2 * t)), some (.int i), some (.int n)]) (st' := [.int 1]) (g_c dX4_hasAll_26 g_n) rfl rfl ?_
      refine V_goto C (tgt := 31) dX4_hasAll_27 (by decide) ?_
      refine V_zret C (by decide) dX4_hasAll_31 ?_
      exact ⟨by rw [if_pos ⟨h9, h23⟩], rfl⟩
set_option maxHeartbeats 4000000 in
set_option maxRecDepth 100000 in
theorem c_X7_copy (σ : gS) {t u : Nat} (ht : t < 4) (hu : u < 4) (i j n : Int32) {zt zu : Nat} (hzt : σ (37 + 2 * t) 1 = nI zt) (hzt40 : zt ≤ 40) (hzu : σ (37 + 2 * u) 1 = nI zu) (hzu40 : zu ≤ 40) : g_Met yX7_copy cX7_copy 8 (some .int) 4 kX [.ref 0, .int (nI t), .int i, .int (nI u), .int j, .int n] σ (fun rv s => rv = some (.int (if (σ (37 + 2 * t) 0) = (-1) then (-11) else (if (σ (37 + 2 * u) 0) = (-1) then (-11) else (if (σ (37 + 2 * t) 0) = (σ (37 + 2 * u) 0) then (if g_in i 0 (σ (37 + 2 * t) 1) ∧ g_in n 0 ((σ (37 + 2 * t) 1) - i) then (if g_in j 0 (σ (37 + 2 * u) 1) ∧ g_in n 0 ((σ (37 + 2 * u) 1) - j) then n else (-12)) else (-12)) else (-13))))) ∧ s = (if (σ (37 + 2 * t) 0) = (-1) then σ else (if (σ (37 + 2 * u) 0) = (-1) then σ else (if (σ (37 + 2 * t) 0) = (σ (37 + 2 * u) 0) then (if g_in i 0 (σ (37 + 2 * t) 1) ∧ g_in n 0 ((σ (37 + 2 * t) 1) - i) then (if g_in j 0 (σ (37 + 2 * u) 1) ∧ g_in n 0 ((σ (37 + 2 * u) 1) - j) then (g_cp σ (38 + 2 * t) (38 + 2 * u) (ix i) (ix j) (ix n)) else σ) else σ) else σ)))) := by
  have hin : g_in (nI t) 0 3 := g_inI (by have h3 : (3 : Int32).toInt = 3 := rfl; omega) (by omega)
  have hin2 : g_in (nI u) 0 3 := g_inI (by have h3 : (3 : Int32).toInt = 3 := rfl; omega) (by omega)
  refine g_Met.of (own := 7) (L := [some (.ref 0), some (.int (nI t)), some (.int i), some (.int (nI u)), some (.int j), some (.int n), none, none]) (by decide) rfl rfl (fun ad => Nat.le_of_ble_eq_true rfl) (fun ad => rfl) (fun X G K C => ?_)
  refine V_blk C (pc' := 1) (σ' := σ) (L' := [some (.ref 0), some (.int (nI t)), some (.int i), some (.int (nI u)), some (.int j), some (.int n), none, none]) (st' := [.int (nI t)]) (g_c dX7_copy_0 g_n) rfl rfl ?_
  refine V_callSI C cs_X7_262 (c_X7_isSheet σ (nI t)) (by decide) (by decide) (fun _ h => h) (As := [.int (nI t)]) (rest := []) rfl rfl (Nat.le_of_ble_eq_true rfl) dX7_copy_1 ?_
  refine V_if_eq_b C (tgt := 14) dX7_copy_4 (by decide) (fun h4 => absurd hin h4) (fun h4 => ?_)
  refine V_blk C (pc' := 8) (σ' := σ) (L' := [some (.ref 0), some (.int (nI t)), some (.int i), some (.int (nI u)), some (.int j), some (.int n), none, none]) (st' := [.int (nI u)]) (g_c dX7_copy_7 g_n) rfl rfl ?_
  refine V_callSI C cs_X7_262 (c_X7_isSheet σ (nI u)) (by decide) (by decide) (fun _ h => h) (As := [.int (nI u)]) (rest := []) rfl rfl (Nat.le_of_ble_eq_true rfl) dX7_copy_8 ?_
  refine V_if_ne_b C (tgt := 17) dX7_copy_11 (by decide) (fun h11 => ?_) (fun h11 => absurd hin2 h11)
  refine V_blk C (pc' := 22) (σ' := σ) (L' := [some (.ref 0), some (.int (nI t)), some (.int i), some (.int (nI u)), some (.int j), some (.int n), none, none]) (st' := [.int (nI t), .ref 22]) (g_c dX7_copy_17 (g_c dX7_copy_18 (g_c dX7_copy_21 g_n))) rfl rfl ?_
  refine V_aldS C (i := t) (by omega) (by rfl) dX7_copy_22 ?_
  refine V_blk C (pc' := 30) (σ' := σ) (L' := [some (.ref 0), some (.int (nI t)), some (.int i), some (.int (nI u)), some (.int j), some (.int n), some (.ref (37 + 2 * t)), none]) (st' := [.int (nI u), .ref 22]) (g_c dX7_copy_23 (g_c dX7_copy_25 (g_c dX7_copy_26 (g_c dX7_copy_29 g_n)))) rfl rfl ?_
  refine V_aldS C (i := u) (by omega) (by rfl) dX7_copy_30 ?_
  refine V_blk C (pc' := 35) (σ' := σ) (L' := [some (.ref 0), some (.int (nI t)), some (.int i), some (.int (nI u)), some (.int j), some (.int n), some (.ref (37 + 2 * t)), some (.ref (37 + 2 * u))]) (st' := [.ref (37 + 2 * t)]) (g_c dX7_copy_31 (g_c dX7_copy_33 g_n)) rfl rfl ?_
  refine V_get4i C (t := t) (j := 0) ht (by decide) fl_X7_267 (kX_lt (by omega)) dX7_copy_35 ?_
  refine V_blk C (pc' := 39) (σ' := σ) (L' := [some (.ref 0), some (.int (nI t)), some (.int i), some (.int (nI u)), some (.int j), some (.int n), some (.ref (37 + 2 * t)), some (.ref (37 + 2 * u))]) (st' := [.int (-1), .int (σ (37 + 2 * t) 0)]) (g_c dX7_copy_38 g_n) rfl rfl ?_
  refine V_icmp_eq C (tgt := 51) dX7_copy_39 (by decide) (fun h39 => ?_) (fun h39 => ?_)
  · skip
    refine V_blk C (pc' := 53) (σ' := σ) (L' := [some (.ref 0), some (.int (nI t)), some (.int i), some (.int (nI u)), some (.int j), some (.int n), some (.ref (37 + 2 * t)), some (.ref (37 + 2 * u))]) (st' := [.int (-11)]) (g_c dX7_copy_51 g_n) rfl rfl ?_
    refine V_iret C dX7_copy_53 ?_
    exact ⟨by rw [if_pos h39], by rw [if_pos h39]⟩
  · skip
    refine V_blk C (pc' := 44) (σ' := σ) (L' := [some (.ref 0), some (.int (nI t)), some (.int i), some (.int (nI u)), some (.int j), some (.int n), some (.ref (37 + 2 * t)), some (.ref (37 + 2 * u))]) (st' := [.ref (37 + 2 * u)]) (g_c dX7_copy_42 g_n) rfl rfl ?_
    refine V_get4i C (t := u) (j := 0) hu (by decide) fl_X7_267 (kX_lt (by omega)) dX7_copy_44 ?_
    refine V_blk C (pc' := 48) (σ' := σ) (L' := [some (.ref 0), some (.int (nI t)), some (.int i), some (.int (nI u)), some (.int j), some (.int n), some (.ref (37 + 2 * t)), some (.ref (37 + 2 * u))]) (st' := [.int (-1), .int (σ (37 + 2 * u) 0)]) (g_c dX7_copy_47 g_n) rfl rfl ?_
    refine V_icmp_ne C (tgt := 54) dX7_copy_48 (by decide) (fun h48 => ?_) (fun h48 => ?_)
    · skip
      refine V_blk C (pc' := 56) (σ' := σ) (L' := [some (.ref 0), some (.int (nI t)), some (.int i), some (.int (nI u)), some (.int j), some (.int n), some (.ref (37 + 2 * t)), some (.ref (37 + 2 * u))]) (st' := [.ref (37 + 2 * t)]) (g_c dX7_copy_54 g_n) rfl rfl ?_
      refine V_get4i C (t := t) (j := 0) ht (by decide) fl_X7_267 (kX_lt (by omega)) dX7_copy_56 ?_
      refine V_blk C (pc' := 61) (σ' := σ) (L' := [some (.ref 0), some (.int (nI t)), some (.int i), some (.int (nI u)), some (.int j), some (.int n), some (.ref (37 + 2 * t)), some (.ref (37 + 2 * u))]) (st' := [.ref (37 + 2 * u), .int (σ (37 + 2 * t) 0)]) (g_c dX7_copy_59 g_n) rfl rfl ?_
      refine V_get4i C (t := u) (j := 0) hu (by decide) fl_X7_267 (kX_lt (by omega)) dX7_copy_61 ?_
      refine V_icmp_eq C (tgt := 70) dX7_copy_64 (by decide) (fun h64 => ?_) (fun h64 => ?_)
      · skip
        refine V_blk C (pc' := 75) (σ' := σ) (L' := [some (.ref 0), some (.int (nI t)), some (.int i), some (.int (nI u)), some (.int j), some (.int n), some (.ref (37 + 2 * t)), some (.ref (37 + 2 * u))]) (st' := [.int n, .int i, .ref (37 + 2 * t)]) (g_c dX7_copy_70 (g_c dX7_copy_72 (g_c dX7_copy_73 g_n))) rfl rfl ?_
        refine V_callVI C cv_X7_271 (c_X4_hasAll σ ht i n) ⟨4, _, _, _, sh_sheet ht, rfl⟩ (kX_lt (by omega)) (by decide) (by decide) (fun _ h => h) (As := [.int i, .int n]) (rest := []) rfl rfl (Nat.le_of_ble_eq_true rfl) dX7_copy_75 ?_
        refine V_if_eq_b C (tgt := 93) dX7_copy_78 (by decide) (fun h78 => ?_) (fun h78 => ?_)
        · skip
          refine V_blk C (pc' := 95) (σ' := σ) (L' := [some (.ref 0), some (.int (nI t)), some (.int i), some (.int (nI u)), some (.int j), some (.int n), some (.ref (37 + 2 * t)), some (.ref (37 + 2 * u))]) (st' := [.int (-12)]) (g_c dX7_copy_93 g_n) rfl rfl ?_
          refine V_iret C dX7_copy_95 ?_
          exact ⟨by rw [if_neg (fun z => h39 z), if_neg (fun z => h48 z), if_pos h64, if_neg (fun z => h78 z)], by rw [if_neg (fun z => h39 z), if_neg (fun z => h48 z), if_pos h64, if_neg (fun z => h78 z)]⟩
        · skip
          refine V_blk C (pc' := 87) (σ' := σ) (L' := [some (.ref 0), some (.int (nI t)), some (.int i), some (.int (nI u)), some (.int j), some (.int n), some (.ref (37 + 2 * t)), some (.ref (37 + 2 * u))]) (st' := [.int n, .int j, .ref (37 + 2 * u)]) (g_c dX7_copy_81 (g_c dX7_copy_83 (g_c dX7_copy_85 g_n))) rfl rfl ?_
          refine V_callVI C cv_X7_271 (c_X4_hasAll σ hu j n) ⟨4, _, _, _, sh_sheet hu, rfl⟩ (kX_lt (by omega)) (by decide) (by decide) (fun _ h => h) (As := [.int j, .int n]) (rest := []) rfl rfl (Nat.le_of_ble_eq_true rfl) dX7_copy_87 ?_
          refine V_if_ne_b C (tgt := 96) dX7_copy_90 (by decide) (fun h90 => ?_) (fun h90 => ?_)
          · skip
            refine V_blk C (pc' := 98) (σ' := σ) (L' := [some (.ref 0), some (.int (nI t)), some (.int i), some (.int (nI u)), some (.int j), some (.int n), some (.ref (37 + 2 * t)), some (.ref (37 + 2 * u))]) (st' := [.ref (37 + 2 * t)]) (g_c dX7_copy_96 g_n) rfl rfl ?_
            refine V_get4r C (t := t) ht fl_X7_274 (kX_lt (by omega)) dX7_copy_98 ?_
            refine V_blk C (pc' := 104) (σ' := σ) (L' := [some (.ref 0), some (.int (nI t)), some (.int i), some (.int (nI u)), some (.int j), some (.int n), some (.ref (37 + 2 * t)), some (.ref (37 + 2 * u))]) (st' := [.ref (37 + 2 * u), .int i, .ref (38 + 2 * t)]) (g_c dX7_copy_101 (g_c dX7_copy_102 g_n)) rfl rfl ?_
            refine V_get4r C (t := u) hu fl_X7_274 (kX_lt (by omega)) dX7_copy_104 ?_
            refine V_blk C (pc' := 111) (σ' := σ) (L' := [some (.ref 0), some (.int (nI t)), some (.int i), some (.int (nI u)), some (.int j), some (.int n), some (.ref (37 + 2 * t)), some (.ref (37 + 2 * u))]) (st' := [.int n, .int j, .ref (38 + 2 * u), .int i, .ref (38 + 2 * t)]) (g_c dX7_copy_107 (g_c dX7_copy_109 g_n)) rfl rfl ?_
            refine V_copy C (ks := (38 + 2 * t)) (kd := (38 + 2 * u)) (ns := 40) (nd := 40) (sp := (ix i)) (dp := (ix j)) (n := (ix n)) ca_X7_277 (sh_items ht) (sh_items hu) (kX_lt (by omega)) (kX_lt (by omega)) (g_ixe h78.1) (g_ixe h90.1) (g_ixe h90.2) (g_hb h78.1 h78.2 hzt hzt40) (g_hb h90.1 h90.2 hzu hzu40) (by decide) (by decide) dX7_copy_111 ?_
            refine V_blk C (pc' := 116) (σ' := (g_cp σ (38 + 2 * t) (38 + 2 * u) (ix i) (ix j) (ix n))) (L' := [some (.ref 0), some (.int (nI t)), some (.int i), some (.int (nI u)), some (.int j), some (.int n), some (.ref (37 + 2 * t)), some (.ref (37 + 2 * u))]) (st' := [.int n]) (g_c dX7_copy_114 g_n) rfl rfl ?_
            refine V_iret C dX7_copy_116 ?_
            exact ⟨by rw [if_neg (fun z => h39 z), if_neg (fun z => h48 z), if_pos h64, if_pos h78, if_pos h90], by rw [if_neg (fun z => h39 z), if_neg (fun z => h48 z), if_pos h64, if_pos h78, if_pos h90]⟩
          · skip
            refine V_blk C (pc' := 95) (σ' := σ) (L' := [some (.ref 0), some (.int (nI t)), some (.int i), some (.int (nI u)), some (.int j), some (.int n), some (.ref (37 + 2 * t)), some (.ref (37 + 2 * u))]) (st' := [.int (-12)]) (g_c dX7_copy_93 g_n) rfl rfl ?_
            refine V_iret C dX7_copy_95 ?_
            exact ⟨by rw [if_neg (fun z => h39 z), if_neg (fun z => h48 z), if_pos h64, if_pos h78, if_neg (fun z => h90 z)], by rw [if_neg (fun z => h39 z), if_neg (fun z => h48 z), if_pos h64, if_pos h78, if_neg (fun z => h90 z)]⟩
      · skip
        refine V_blk C (pc' := 69) (σ' := σ) (L' := [some (.ref 0), some (.int (nI t)), some (.int i), some (.int (nI u)), some (.int j), some (.int n), some (.ref (37 + 2 * t)), some (.ref (37 + 2 * u))]) (st' := [.int (-13)]) (g_c dX7_copy_67 g_n) rfl rfl ?_
        refine V_iret C dX7_copy_69 ?_
        exact ⟨by rw [if_neg (fun z => h39 z), if_neg (fun z => h48 z), if_neg (fun z => h64 z)], by rw [if_neg (fun z => h39 z), if_neg (fun z => h48 z), if_neg (fun z => h64 z)]⟩
    · skip
      refine V_blk C (pc' := 53) (σ' := σ) (L' := [some (.ref 0), some (.int (nI t)), some (.int i), some (.int (nI u)), some (.int j), some (.int n), some (.ref (37 + 2 * t)), some (.ref (37 + 2 * u))]) (st' := [.int (-11)]) (g_c dX7_copy_51 g_n) rfl rfl ?_
      refine V_iret C dX7_copy_53 ?_
      exact ⟨by rw [if_neg (fun z => h39 z), if_pos h48], by rw [if_neg (fun z => h39 z), if_pos h48]⟩
set_option maxHeartbeats 4000000 in
set_option maxRecDepth 100000 in
theorem c_X7_copyOut (σ : gS) (t i u j n : Int32) (hin : ¬ (g_in t 0 3 ∧ g_in u 0 3)) : g_Met yX7_copy cX7_copy 8 (some .int) 4 kX [.ref 0, .int t, .int i, .int u, .int j, .int n] σ (fun rv s => rv = some (.int (-2)) ∧ s = σ) := by
  refine g_Met.of (own := 7) (L := [some (.ref 0), some (.int t), some (.int i), some (.int u), some (.int j), some (.int n), none, none]) (by decide) rfl rfl (fun ad => Nat.le_of_ble_eq_true rfl) (fun ad => rfl) (fun X G K C => ?_)
  refine V_blk C (pc' := 1) (σ' := σ) (L' := [some (.ref 0), some (.int t), some (.int i), some (.int u), some (.int j), some (.int n), none, none]) (st' := [.int t]) (g_c dX7_copy_0 g_n) rfl rfl ?_
  refine V_callSI C cs_X7_262 (c_X7_isSheet σ t) (by decide) (by decide) (fun _ h => h) (As := [.int t]) (rest := []) rfl rfl (Nat.le_of_ble_eq_true rfl) dX7_copy_1 ?_
  refine V_if_eq_b C (tgt := 14) dX7_copy_4 (by decide) (fun h4 => ?_) (fun h4 => ?_)
  · skip
    refine V_blk C (pc' := 16) (σ' := σ) (L' := [some (.ref 0), some (.int t), some (.int i), some (.int u), some (.int j), some (.int n), none, none]) (st' := [.int (-2)]) (g_c dX7_copy_14 g_n) rfl rfl ?_
    refine V_iret C dX7_copy_16 ?_
    exact ⟨rfl, rfl⟩
  · skip
    refine V_blk C (pc' := 8) (σ' := σ) (L' := [some (.ref 0), some (.int t), some (.int i), some (.int u), some (.int j), some (.int n), none, none]) (st' := [.int u]) (g_c dX7_copy_7 g_n) rfl rfl ?_
    refine V_callSI C cs_X7_262 (c_X7_isSheet σ u) (by decide) (by decide) (fun _ h => h) (As := [.int u]) (rest := []) rfl rfl (Nat.le_of_ble_eq_true rfl) dX7_copy_8 ?_
    refine V_if_ne_b C (tgt := 17) dX7_copy_11 (by decide) (fun h11 => ?_) (fun h11 => ?_)
    · skip
      exact absurd ⟨h4, h11⟩ hin
    · skip
      refine V_blk C (pc' := 16) (σ' := σ) (L' := [some (.ref 0), some (.int t), some (.int i), some (.int u), some (.int j), some (.int n), none, none]) (st' := [.int (-2)]) (g_c dX7_copy_14 g_n) rfl rfl ?_
      refine V_iret C dX7_copy_16 ?_
      exact ⟨rfl, rfl⟩
set_option maxHeartbeats 4000000 in
set_option maxRecDepth 100000 in
theorem c_X8_copyOut (σ : gS) (t i u j n : Int32) (hin : ¬ (g_in t 0 3 ∧ g_in u 0 3)) : g_Met yX8_copy cX8_copy 9 (some .int) 4 kM [.ref 63, .int t, .int i, .int u, .int j, .int n] σ (fun rv s => rv = some (.int (-2)) ∧ s = σ) := by
  refine g_Met.of (own := 8) (L := [some (.ref 63), some (.int t), some (.int i), some (.int u), some (.int j), some (.int n), none, none, none]) (by decide) rfl rfl (fun ad => Nat.le_of_ble_eq_true rfl) (fun ad => rfl) (fun X G K C => ?_)
  refine V_blk C (pc' := 1) (σ' := σ) (L' := [some (.ref 63), some (.int t), some (.int i), some (.int u), some (.int j), some (.int n), none, none, none]) (st' := [.int t]) (g_c dX8_copy_0 g_n) rfl rfl ?_
  refine V_callSI C cs_X8_354 (c_X8_isSheet σ t) (by decide) (by decide) (fun _ h => h) (As := [.int t]) (rest := []) rfl rfl (Nat.le_of_ble_eq_true rfl) dX8_copy_1 ?_
  refine V_if_eq_b C (tgt := 14) dX8_copy_4 (by decide) (fun h4 => ?_) (fun h4 => ?_)
  · skip
    refine V_blk C (pc' := 16) (σ' := σ) (L' := [some (.ref 63), some (.int t), some (.int i), some (.int u), some (.int j), some (.int n), none, none, none]) (st' := [.int (-2)]) (g_c dX8_copy_14 g_n) rfl rfl ?_
    refine V_iret C dX8_copy_16 ?_
    exact ⟨rfl, rfl⟩
  · skip
    refine V_blk C (pc' := 8) (σ' := σ) (L' := [some (.ref 63), some (.int t), some (.int i), some (.int u), some (.int j), some (.int n), none, none, none]) (st' := [.int u]) (g_c dX8_copy_7 g_n) rfl rfl ?_
    refine V_callSI C cs_X8_354 (c_X8_isSheet σ u) (by decide) (by decide) (fun _ h => h) (As := [.int u]) (rest := []) rfl rfl (Nat.le_of_ble_eq_true rfl) dX8_copy_8 ?_
    refine V_if_ne_b C (tgt := 17) dX8_copy_11 (by decide) (fun h11 => ?_) (fun h11 => ?_)
    · skip
      exact absurd ⟨h4, h11⟩ hin
    · skip
      refine V_blk C (pc' := 16) (σ' := σ) (L' := [some (.ref 63), some (.int t), some (.int i), some (.int u), some (.int j), some (.int n), none, none, none]) (st' := [.int (-2)]) (g_c dX8_copy_14 g_n) rfl rfl ?_
      refine V_iret C dX8_copy_16 ?_
      exact ⟨rfl, rfl⟩
set_option maxHeartbeats 4000000 in
set_option maxRecDepth 100000 in
theorem c_X8_copyBad (σ : gS) {t u : Nat} (ht : t < 4) (hu : u < 4) (i j n : Int32) (hbad : n < 0 ∨ i < 0 ∨ j < 0 ∨ σ 88 t - n < i ∨ σ 88 u - n < j) : g_Met yX8_copy cX8_copy 9 (some .int) 4 kM [.ref 63, .int (nI t), .int i, .int (nI u), .int j, .int n] σ (fun rv s => rv = some (.int (if (σ 86 t) = 0 then (-11) else (if (σ 86 u) = 0 then (-11) else (if (σ 87 t) = (σ 87 u) then (-12) else (-13))))) ∧ s = σ) := by
  have hin : g_in (nI t) 0 3 := g_inI (by have h3 : (3 : Int32).toInt = 3 := rfl; omega) (by omega)
  have hin2 : g_in (nI u) 0 3 := g_inI (by have h3 : (3 : Int32).toInt = 3 := rfl; omega) (by omega)
  refine g_Met.of (own := 8) (L := [some (.ref 63), some (.int (nI t)), some (.int i), some (.int (nI u)), some (.int j), some (.int n), none, none, none]) (by decide) rfl rfl (fun ad => Nat.le_of_ble_eq_true rfl) (fun ad => rfl) (fun X G K C => ?_)
  refine V_blk C (pc' := 1) (σ' := σ) (L' := [some (.ref 63), some (.int (nI t)), some (.int i), some (.int (nI u)), some (.int j), some (.int n), none, none, none]) (st' := [.int (nI t)]) (g_c dX8_copy_0 g_n) rfl rfl ?_
  refine V_callSI C cs_X8_354 (c_X8_isSheet σ (nI t)) (by decide) (by decide) (fun _ h => h) (As := [.int (nI t)]) (rest := []) rfl rfl (Nat.le_of_ble_eq_true rfl) dX8_copy_1 ?_
  refine V_if_eq_b C (tgt := 14) dX8_copy_4 (by decide) (fun h4 => absurd hin h4) (fun h4 => ?_)
  refine V_blk C (pc' := 8) (σ' := σ) (L' := [some (.ref 63), some (.int (nI t)), some (.int i), some (.int (nI u)), some (.int j), some (.int n), none, none, none]) (st' := [.int (nI u)]) (g_c dX8_copy_7 g_n) rfl rfl ?_
  refine V_callSI C cs_X8_354 (c_X8_isSheet σ (nI u)) (by decide) (by decide) (fun _ h => h) (As := [.int (nI u)]) (rest := []) rfl rfl (Nat.le_of_ble_eq_true rfl) dX8_copy_8 ?_
  refine V_if_ne_b C (tgt := 17) dX8_copy_11 (by decide) (fun h11 => ?_) (fun h11 => absurd hin2 h11)
  refine V_blk C (pc' := 22) (σ' := σ) (L' := [some (.ref 63), some (.int (nI t)), some (.int i), some (.int (nI u)), some (.int j), some (.int n), none, none, none]) (st' := [.int (nI t), .ref 86]) (g_c dX8_copy_17 (g_c dX8_copy_18 (g_c dX8_copy_21 g_n))) rfl rfl ?_
  refine V_zaldJ C (j := t) (k := 86) (n := 4) (by rfl) (by rfl) rfl (by omega) dX8_copy_22 ?_
  refine V_if_eq C (tgt := 35) dX8_copy_23 (by decide) (fun h23 => ?_) (fun h23 => ?_)
  · skip
    refine V_blk C (pc' := 37) (σ' := σ) (L' := [some (.ref 63), some (.int (nI t)), some (.int i), some (.int (nI u)), some (.int j), some (.int n), none, none, none]) (st' := [.int (-11)]) (g_c dX8_copy_35 g_n) rfl rfl ?_
    refine V_iret C dX8_copy_37 ?_
    exact ⟨by rw [if_pos h23], rfl⟩
  · skip
    refine V_blk C (pc' := 31) (σ' := σ) (L' := [some (.ref 63), some (.int (nI t)), some (.int i), some (.int (nI u)), some (.int j), some (.int n), none, none, none]) (st' := [.int (nI u), .ref 86]) (g_c dX8_copy_26 (g_c dX8_copy_27 (g_c dX8_copy_30 g_n))) rfl rfl ?_
    refine V_zaldJ C (j := u) (k := 86) (n := 4) (by rfl) (by rfl) rfl (by omega) dX8_copy_31 ?_
    refine V_if_ne C (tgt := 38) dX8_copy_32 (by decide) (fun h32 => ?_) (fun h32 => ?_)
    · skip
      refine V_blk C (pc' := 43) (σ' := σ) (L' := [some (.ref 63), some (.int (nI t)), some (.int i), some (.int (nI u)), some (.int j), some (.int n), none, none, none]) (st' := [.int (nI t), .ref 87]) (g_c dX8_copy_38 (g_c dX8_copy_39 (g_c dX8_copy_42 g_n))) rfl rfl ?_
      refine V_ialdJ C (j := t) (k := 87) (n := 4) (by rfl) (by rfl) rfl (by omega) dX8_copy_43 ?_
      refine V_blk C (pc' := 49) (σ' := σ) (L' := [some (.ref 63), some (.int (nI t)), some (.int i), some (.int (nI u)), some (.int j), some (.int n), none, none, none]) (st' := [.int (nI u), .ref 87, .int (σ 87 t)]) (g_c dX8_copy_44 (g_c dX8_copy_45 (g_c dX8_copy_48 g_n))) rfl rfl ?_
      refine V_ialdJ C (j := u) (k := 87) (n := 4) (by rfl) (by rfl) rfl (by omega) dX8_copy_49 ?_
      refine V_icmp_eq C (tgt := 56) dX8_copy_50 (by decide) (fun h50 => ?_) (fun h50 => ?_)
      · skip
        refine V_blk C (pc' := 58) (σ' := σ) (L' := [some (.ref 63), some (.int (nI t)), some (.int i), some (.int (nI u)), some (.int j), some (.int n), none, none, none]) (st' := [.int n]) (g_c dX8_copy_56 g_n) rfl rfl ?_
        refine V_if_lt C (tgt := 97) dX8_copy_58 (by decide) (fun h58 => ?_) (fun h58 => ?_)
        · skip
          refine V_blk C (pc' := 99) (σ' := σ) (L' := [some (.ref 63), some (.int (nI t)), some (.int i), some (.int (nI u)), some (.int j), some (.int n), none, none, none]) (st' := [.int (-12)]) (g_c dX8_copy_97 g_n) rfl rfl ?_
          refine V_iret C dX8_copy_99 ?_
          exact ⟨by rw [if_neg (fun z => h23 z), if_neg (fun z => h32 z), if_pos h50], rfl⟩
        · skip
          refine V_blk C (pc' := 62) (σ' := σ) (L' := [some (.ref 63), some (.int (nI t)), some (.int i), some (.int (nI u)), some (.int j), some (.int n), none, none, none]) (st' := [.int i]) (g_c dX8_copy_61 g_n) rfl rfl ?_
          refine V_if_lt C (tgt := 97) dX8_copy_62 (by decide) (fun h62 => ?_) (fun h62 => ?_)
          · skip
            refine V_blk C (pc' := 99) (σ' := σ) (L' := [some (.ref 63), some (.int (nI t)), some (.int i), some (.int (nI u)), some (.int j), some (.int n), none, none, none]) (st' := [.int (-12)]) (g_c dX8_copy_97 g_n) rfl rfl ?_
            refine V_iret C dX8_copy_99 ?_
            exact ⟨by rw [if_neg (fun z => h23 z), if_neg (fun z => h32 z), if_pos h50], rfl⟩
          · skip
            refine V_blk C (pc' := 67) (σ' := σ) (L' := [some (.ref 63), some (.int (nI t)), some (.int i), some (.int (nI u)), some (.int j), some (.int n), none, none, none]) (st' := [.int j]) (g_c dX8_copy_65 g_n) rfl rfl ?_
            refine V_if_lt C (tgt := 97) dX8_copy_67 (by decide) (fun h67 => ?_) (fun h67 => ?_)
            · skip
              refine V_blk C (pc' := 99) (σ' := σ) (L' := [some (.ref 63), some (.int (nI t)), some (.int i), some (.int (nI u)), some (.int j), some (.int n), none, none, none]) (st' := [.int (-12)]) (g_c dX8_copy_97 g_n) rfl rfl ?_
              refine V_iret C dX8_copy_99 ?_
              exact ⟨by rw [if_neg (fun z => h23 z), if_neg (fun z => h32 z), if_pos h50], rfl⟩
            · skip
              refine V_blk C (pc' := 76) (σ' := σ) (L' := [some (.ref 63), some (.int (nI t)), some (.int i), some (.int (nI u)), some (.int j), some (.int n), none, none, none]) (st' := [.int (nI t), .ref 88, .int i]) (g_c dX8_copy_70 (g_c dX8_copy_71 (g_c dX8_copy_72 (g_c dX8_copy_75 g_n)))) rfl rfl ?_
              refine V_ialdJ C (j := t) (k := 88) (n := 4) (by rfl) (by rfl) rfl (by omega) dX8_copy_76 ?_
              refine V_blk C (pc' := 80) (σ' := σ) (L' := [some (.ref 63), some (.int (nI t)), some (.int i), some (.int (nI u)), some (.int j), some (.int n), none, none, none]) (st' := [.int ((σ 88 t) - n), .int i]) (g_c dX8_copy_77 (g_c dX8_copy_79 g_n)) rfl rfl ?_
              refine V_icmp_gt C (tgt := 97) dX8_copy_80 (by decide) (fun h80 => ?_) (fun h80 => ?_)
              · skip
                refine V_blk C (pc' := 99) (σ' := σ) (L' := [some (.ref 63), some (.int (nI t)), some (.int i), some (.int (nI u)), some (.int j), some (.int n), none, none, none]) (st' := [.int (-12)]) (g_c dX8_copy_97 g_n) rfl rfl ?_
                refine V_iret C dX8_copy_99 ?_
                exact ⟨by rw [if_neg (fun z => h23 z), if_neg (fun z => h32 z), if_pos h50], rfl⟩
              · skip
                refine V_blk C (pc' := 90) (σ' := σ) (L' := [some (.ref 63), some (.int (nI t)), some (.int i), some (.int (nI u)), some (.int j), some (.int n), none, none, none]) (st' := [.int (nI u), .ref 88, .int j]) (g_c dX8_copy_83 (g_c dX8_copy_85 (g_c dX8_copy_86 (g_c dX8_copy_89 g_n)))) rfl rfl ?_
                refine V_ialdJ C (j := u) (k := 88) (n := 4) (by rfl) (by rfl) rfl (by omega) dX8_copy_90 ?_
                refine V_blk C (pc' := 94) (σ' := σ) (L' := [some (.ref 63), some (.int (nI t)), some (.int i), some (.int (nI u)), some (.int j), some (.int n), none, none, none]) (st' := [.int ((σ 88 u) - n), .int j]) (g_c dX8_copy_91 (g_c dX8_copy_93 g_n)) rfl rfl ?_
                refine V_icmp_le2 C (tgt := 100) dX8_copy_94 (by decide) (fun h94 => ?_) (fun h94 => ?_)
                · skip
                  exact absurd hbad (fun z => z.elim h58 (fun z => z.elim h62 (fun z => z.elim h67 (fun z => z.elim h80 h94))))
                · skip
                  refine V_blk C (pc' := 99) (σ' := σ) (L' := [some (.ref 63), some (.int (nI t)), some (.int i), some (.int (nI u)), some (.int j), some (.int n), none, none, none]) (st' := [.int (-12)]) (g_c dX8_copy_97 g_n) rfl rfl ?_
                  refine V_iret C dX8_copy_99 ?_
                  exact ⟨by rw [if_neg (fun z => h23 z), if_neg (fun z => h32 z), if_pos h50], rfl⟩
      · skip
        refine V_blk C (pc' := 55) (σ' := σ) (L' := [some (.ref 63), some (.int (nI t)), some (.int i), some (.int (nI u)), some (.int j), some (.int n), none, none, none]) (st' := [.int (-13)]) (g_c dX8_copy_53 g_n) rfl rfl ?_
        refine V_iret C dX8_copy_55 ?_
        exact ⟨by rw [if_neg (fun z => h23 z), if_neg (fun z => h32 z), if_neg (fun z => h50 z)], rfl⟩
    · skip
      refine V_blk C (pc' := 37) (σ' := σ) (L' := [some (.ref 63), some (.int (nI t)), some (.int i), some (.int (nI u)), some (.int j), some (.int n), none, none, none]) (st' := [.int (-11)]) (g_c dX8_copy_35 g_n) rfl rfl ?_
      refine V_iret C dX8_copy_37 ?_
      exact ⟨by rw [if_neg (fun z => h23 z), if_pos h32], rfl⟩
set_option maxHeartbeats 4000000 in
set_option maxRecDepth 100000 in
theorem c_X8_copyNo (σ : gS) {t u : Nat} (ht : t < 4) (hu : u < 4) (i j n : Int32) (hno : σ 86 t = 0 ∨ σ 86 u = 0 ∨ ¬ σ 87 t = σ 87 u) : g_Met yX8_copy cX8_copy 9 (some .int) 4 kM [.ref 63, .int (nI t), .int i, .int (nI u), .int j, .int n] σ (fun rv s => rv = some (.int (if (σ 86 t) = 0 then (-11) else (if (σ 86 u) = 0 then (-11) else (if (σ 87 t) = (σ 87 u) then (-12) else (-13))))) ∧ s = σ) := by
  have hin : g_in (nI t) 0 3 := g_inI (by have h3 : (3 : Int32).toInt = 3 := rfl; omega) (by omega)
  have hin2 : g_in (nI u) 0 3 := g_inI (by have h3 : (3 : Int32).toInt = 3 := rfl; omega) (by omega)
  refine g_Met.of (own := 8) (L := [some (.ref 63), some (.int (nI t)), some (.int i), some (.int (nI u)), some (.int j), some (.int n), none, none, none]) (by decide) rfl rfl (fun ad => Nat.le_of_ble_eq_true rfl) (fun ad => rfl) (fun X G K C => ?_)
  refine V_blk C (pc' := 1) (σ' := σ) (L' := [some (.ref 63), some (.int (nI t)), some (.int i), some (.int (nI u)), some (.int j), some (.int n), none, none, none]) (st' := [.int (nI t)]) (g_c dX8_copy_0 g_n) rfl rfl ?_
  refine V_callSI C cs_X8_354 (c_X8_isSheet σ (nI t)) (by decide) (by decide) (fun _ h => h) (As := [.int (nI t)]) (rest := []) rfl rfl (Nat.le_of_ble_eq_true rfl) dX8_copy_1 ?_
  refine V_if_eq_b C (tgt := 14) dX8_copy_4 (by decide) (fun h4 => absurd hin h4) (fun h4 => ?_)
  refine V_blk C (pc' := 8) (σ' := σ) (L' := [some (.ref 63), some (.int (nI t)), some (.int i), some (.int (nI u)), some (.int j), some (.int n), none, none, none]) (st' := [.int (nI u)]) (g_c dX8_copy_7 g_n) rfl rfl ?_
  refine V_callSI C cs_X8_354 (c_X8_isSheet σ (nI u)) (by decide) (by decide) (fun _ h => h) (As := [.int (nI u)]) (rest := []) rfl rfl (Nat.le_of_ble_eq_true rfl) dX8_copy_8 ?_
  refine V_if_ne_b C (tgt := 17) dX8_copy_11 (by decide) (fun h11 => ?_) (fun h11 => absurd hin2 h11)
  refine V_blk C (pc' := 22) (σ' := σ) (L' := [some (.ref 63), some (.int (nI t)), some (.int i), some (.int (nI u)), some (.int j), some (.int n), none, none, none]) (st' := [.int (nI t), .ref 86]) (g_c dX8_copy_17 (g_c dX8_copy_18 (g_c dX8_copy_21 g_n))) rfl rfl ?_
  refine V_zaldJ C (j := t) (k := 86) (n := 4) (by rfl) (by rfl) rfl (by omega) dX8_copy_22 ?_
  refine V_if_eq C (tgt := 35) dX8_copy_23 (by decide) (fun h23 => ?_) (fun h23 => ?_)
  · skip
    refine V_blk C (pc' := 37) (σ' := σ) (L' := [some (.ref 63), some (.int (nI t)), some (.int i), some (.int (nI u)), some (.int j), some (.int n), none, none, none]) (st' := [.int (-11)]) (g_c dX8_copy_35 g_n) rfl rfl ?_
    refine V_iret C dX8_copy_37 ?_
    exact ⟨by rw [if_pos h23], rfl⟩
  · skip
    refine V_blk C (pc' := 31) (σ' := σ) (L' := [some (.ref 63), some (.int (nI t)), some (.int i), some (.int (nI u)), some (.int j), some (.int n), none, none, none]) (st' := [.int (nI u), .ref 86]) (g_c dX8_copy_26 (g_c dX8_copy_27 (g_c dX8_copy_30 g_n))) rfl rfl ?_
    refine V_zaldJ C (j := u) (k := 86) (n := 4) (by rfl) (by rfl) rfl (by omega) dX8_copy_31 ?_
    refine V_if_ne C (tgt := 38) dX8_copy_32 (by decide) (fun h32 => ?_) (fun h32 => ?_)
    · skip
      refine V_blk C (pc' := 43) (σ' := σ) (L' := [some (.ref 63), some (.int (nI t)), some (.int i), some (.int (nI u)), some (.int j), some (.int n), none, none, none]) (st' := [.int (nI t), .ref 87]) (g_c dX8_copy_38 (g_c dX8_copy_39 (g_c dX8_copy_42 g_n))) rfl rfl ?_
      refine V_ialdJ C (j := t) (k := 87) (n := 4) (by rfl) (by rfl) rfl (by omega) dX8_copy_43 ?_
      refine V_blk C (pc' := 49) (σ' := σ) (L' := [some (.ref 63), some (.int (nI t)), some (.int i), some (.int (nI u)), some (.int j), some (.int n), none, none, none]) (st' := [.int (nI u), .ref 87, .int (σ 87 t)]) (g_c dX8_copy_44 (g_c dX8_copy_45 (g_c dX8_copy_48 g_n))) rfl rfl ?_
      refine V_ialdJ C (j := u) (k := 87) (n := 4) (by rfl) (by rfl) rfl (by omega) dX8_copy_49 ?_
      refine V_icmp_eq C (tgt := 56) dX8_copy_50 (by decide) (fun h50 => ?_) (fun h50 => ?_)
      · skip
        exact absurd hno (fun z => z.elim h23 (fun z => z.elim h32 (fun z => z h50)))
      · skip
        refine V_blk C (pc' := 55) (σ' := σ) (L' := [some (.ref 63), some (.int (nI t)), some (.int i), some (.int (nI u)), some (.int j), some (.int n), none, none, none]) (st' := [.int (-13)]) (g_c dX8_copy_53 g_n) rfl rfl ?_
        refine V_iret C dX8_copy_55 ?_
        exact ⟨by rw [if_neg (fun z => h23 z), if_neg (fun z => h32 z), if_neg (fun z => h50 z)], rfl⟩
    · skip
      refine V_blk C (pc' := 37) (σ' := σ) (L' := [some (.ref 63), some (.int (nI t)), some (.int i), some (.int (nI u)), some (.int j), some (.int n), none, none, none]) (st' := [.int (-11)]) (g_c dX8_copy_35 g_n) rfl rfl ?_
      refine V_iret C dX8_copy_37 ?_
      exact ⟨by rw [if_neg (fun z => h23 z), if_pos h32], rfl⟩
theorem g_ic {u b q : Nat} (hu : u < 4) (h : b + q < 40) : vp_in (40 * nI u + nI b + nI q) 160 ∧ ((40 : Int32) * nI u + nI b + nI q).toNatClampNeg = 40 * u + b + q := by
  have e : (40 : Int32) * nI u = nI (40 * u) := pk_mul 40 u
  rw [e, nI_add, nI_add]
  exact ⟨vp_in_nI (by omega) (by omega), nI_clamp (by omega)⟩
theorem g_dn {c v : Nat} (h : v < c) (hc : c ≤ 40) : nI c - 1 - nI v = nI (c - 1 - v) := by
  have e1 : nI c - 1 = nI (c - 1) := by
    have := pk_sub (a := c) (b := 1) (by omega)
    exact this
  rw [e1, pk_sub (by omega)]
set_option maxHeartbeats 4000000 in
set_option maxRecDepth 100000 in
theorem lp_copy0 {X : gX} {G : gG} {K : List Nat} {σ : gS} {t u a b c : Nat} (ht : t < 4) (hu : u < 4) (ha : a + c ≤ 40) (hb : b + c ≤ 40) (hup : t = u → b ≤ a)  (C : gC X G K kM 9 cX8_copy (g_RX 8) (some .int) 4) : ∀ (k : Nat) (v : Nat) (s : gS), (v + k = c) → ((∀ x, x ≠ 89 → s x = σ x) ∧ (∀ x, s 89 x = if 40 * u + b  ≤ x ∧ x < 40 * u + b + v then σ 89 (x - (40 * u + b) + (40 * t + a)) else σ 89 x)) → gV X G K 9 (fun rv s => rv = some (.int (nI c)) ∧ (∀ x, x ≠ 89 → s x = σ x) ∧ (∀ x, s 89 x = if 40 * u + b ≤ x ∧ x < 40 * u + b + c then σ 89 (x - (40 * u + b) + (40 * t + a)) else σ 89 x)) s [some (.ref 63), some (.int (nI t)), some (.int (nI a)), some (.int (nI u)), some (.int (nI b)), some (.int (nI c)), some (.int 0), some (.int (nI v)), none] [] 121 := by
  intro k
  induction k with
  | zero =>
    intro v s hk hs
    have hlt : ¬ nI v < nI c := nI_nltL (by omega) (by omega)
    refine V_blk C (pc' := 125) (σ' := s) (L' := [some (.ref 63), some (.int (nI t)), some (.int (nI a)), some (.int (nI u)), some (.int (nI b)), some (.int (nI c)), some (.int 0), some (.int (nI v)), none]) (st' := [.int (nI c), .int (nI v)]) (g_c dX8_copy_121 (g_c dX8_copy_123 g_n)) rfl rfl ?_
    refine V_icmp_ge2 C (tgt := 182) dX8_copy_125 (by decide) (fun h125 => ?_) (fun h125 => absurd h125 hlt)
    refine V_blk C (pc' := 184) (σ' := s) (L' := [some (.ref 63), some (.int (nI t)), some (.int (nI a)), some (.int (nI u)), some (.int (nI b)), some (.int (nI c)), some (.int 0), some (.int (nI v)), none]) (st' := [.int (nI c)]) (g_c dX8_copy_182 g_n) rfl rfl ?_
    refine V_iret C dX8_copy_184 ?_
    refine ⟨rfl, hs.1, fun x => (hs.2 x).trans ?_⟩
    have hvc : v = c := by omega
    subst hvc
    by_cases hy : 40 * u + b ≤ x ∧ x < 40 * u + b + v
    · first | rw [if_pos hy, if_pos (by omega)] | rw [if_pos hy]
    · first | rw [if_neg hy, if_neg (by omega)] | rw [if_neg hy]
  | succ k ih =>
    intro v s hk hs
    have hlt : nI v < nI c := nI_ltL (by omega) (by omega)
    have hg1 := g_ic (u := u) (b := b) (q := v) hu (by omega)
    have hg2 := g_ic (u := t) (b := a) (q := v) ht (by omega)
    refine V_blk C (pc' := 125) (σ' := s) (L' := [some (.ref 63), some (.int (nI t)), some (.int (nI a)), some (.int (nI u)), some (.int (nI b)), some (.int (nI c)), some (.int 0), some (.int (nI v)), none]) (st' := [.int (nI c), .int (nI v)]) (g_c dX8_copy_121 (g_c dX8_copy_123 g_n)) rfl rfl ?_
    refine V_icmp_ge2 C (tgt := 182) dX8_copy_125 (by decide) (fun h125 => absurd hlt h125) (fun h125 => ?_)
    refine V_blk C (pc' := 130) (σ' := s) (L' := [some (.ref 63), some (.int (nI t)), some (.int (nI a)), some (.int (nI u)), some (.int (nI b)), some (.int (nI c)), some (.int 0), some (.int (nI v)), none]) (st' := [.int 0]) (g_c dX8_copy_128 g_n) rfl rfl ?_
    refine V_if_eq C (tgt := 143) dX8_copy_130 (by decide) (fun _ => ?_) (fun z => absurd z (by decide))
    refine V_blk C (pc' := 174) (σ' := s) (L' := [some (.ref 63), some (.int (nI t)), some (.int (nI a)), some (.int (nI u)), some (.int (nI b)), some (.int (nI c)), some (.int 0), some (.int (nI v)), some (.int (nI v))]) (st' := [.int (((40 * (nI t)) + (nI a)) + (nI v)), .ref 89, .int (((40 * (nI u)) + (nI b)) + (nI v)), .ref 89]) (g_c dX8_copy_143 (g_c dX8_copy_145 (g_c dX8_copy_147 (g_c dX8_copy_148 (g_c dX8_copy_151 (g_c dX8_copy_153 (g_c dX8_copy_154 (g_c dX8_copy_155 (g_c dX8_copy_157 (g_c dX8_copy_158 (g_c dX8_copy_160 (g_c dX8_copy_161 (g_c dX8_copy_162 (g_c dX8_copy_165 (g_c dX8_copy_167 (g_c dX8_copy_168 (g_c dX8_copy_169 (g_c dX8_copy_170 (g_c dX8_copy_171 (g_c dX8_copy_173 g_n)))))))))))))))))))) rfl rfl ?_
    refine V_iald C (k := 89) (n := 160) (by rfl) (by rfl) hg2.1 dX8_copy_174 ?_
    refine V_iast C (k := 89) (n := 160) (by rfl) (by rfl) hg1.1 dX8_copy_175 ?_
    refine V_blk C (pc' := 179) (σ' := (g_up s 89 (Int32.toNatClampNeg (((40 * (nI u)) + (nI b)) + (nI v))) (s 89 (Int32.toNatClampNeg (((40 * (nI t)) + (nI a)) + (nI v)))))) (L' := [some (.ref 63), some (.int (nI t)), some (.int (nI a)), some (.int (nI u)), some (.int (nI b)), some (.int (nI c)), some (.int 0), some (.int ((nI v) + 1)), some (.int (nI v))]) (st' := []) (g_c dX8_copy_176 g_n) rfl rfl ?_
    refine V_goto C (tgt := 121) dX8_copy_179 (by decide) ?_
    refine V_less (L' := [some (.ref 63), some (.int (nI t)), some (.int (nI a)), some (.int (nI u)), some (.int (nI b)), some (.int (nI c)), some (.int 0), some (.int (nI v + 1)), none]) (by simp [g_subL]) ?_
    refine V_eq rfl (by rw [nI_1]) rfl (ih (v + 1) _ (by omega) ⟨fun x hx => (g_up_ne hx).trans (hs.1 x hx), fun x => ?_⟩)
    rw [g_up_same]
    simp only [hg1.2, hg2.2]
    by_cases hx : x = 40 * u + b + v
    · rw [if_pos hx, hs.2, if_neg (by omega), if_pos (by omega)]
      congr 1
      omega
    · rw [if_neg hx, hs.2]
      by_cases hy : 40 * u + b  ≤ x ∧ x < 40 * u + b + v
      · rw [if_pos hy, if_pos (by omega)]
      · rw [if_neg hy, if_neg (by omega)]
set_option maxHeartbeats 4000000 in
set_option maxRecDepth 100000 in
theorem lp_copy1 {X : gX} {G : gG} {K : List Nat} {σ : gS} {t u a b c : Nat} (ht : t < 4) (hu : u < 4) (ha : a + c ≤ 40) (hb : b + c ≤ 40) (hup : t = u ∧ a < b)  (C : gC X G K kM 9 cX8_copy (g_RX 8) (some .int) 4) : ∀ (k : Nat) (v : Nat) (s : gS), (v + k = c) → ((∀ x, x ≠ 89 → s x = σ x) ∧ (∀ x, s 89 x = if 40 * u + b + c - v ≤ x ∧ x < 40 * u + b + c then σ 89 (x - (40 * u + b) + (40 * t + a)) else σ 89 x)) → gV X G K 9 (fun rv s => rv = some (.int (nI c)) ∧ (∀ x, x ≠ 89 → s x = σ x) ∧ (∀ x, s 89 x = if 40 * u + b ≤ x ∧ x < 40 * u + b + c then σ 89 (x - (40 * u + b) + (40 * t + a)) else σ 89 x)) s [some (.ref 63), some (.int (nI t)), some (.int (nI a)), some (.int (nI u)), some (.int (nI b)), some (.int (nI c)), some (.int 1), some (.int (nI v)), none] [] 121 := by
  intro k
  induction k with
  | zero =>
    intro v s hk hs
    have hlt : ¬ nI v < nI c := nI_nltL (by omega) (by omega)
    refine V_blk C (pc' := 125) (σ' := s) (L' := [some (.ref 63), some (.int (nI t)), some (.int (nI a)), some (.int (nI u)), some (.int (nI b)), some (.int (nI c)), some (.int 1), some (.int (nI v)), none]) (st' := [.int (nI c), .int (nI v)]) (g_c dX8_copy_121 (g_c dX8_copy_123 g_n)) rfl rfl ?_
    refine V_icmp_ge2 C (tgt := 182) dX8_copy_125 (by decide) (fun h125 => ?_) (fun h125 => absurd h125 hlt)
    refine V_blk C (pc' := 184) (σ' := s) (L' := [some (.ref 63), some (.int (nI t)), some (.int (nI a)), some (.int (nI u)), some (.int (nI b)), some (.int (nI c)), some (.int 1), some (.int (nI v)), none]) (st' := [.int (nI c)]) (g_c dX8_copy_182 g_n) rfl rfl ?_
    refine V_iret C dX8_copy_184 ?_
    refine ⟨rfl, hs.1, fun x => (hs.2 x).trans ?_⟩
    have hvc : v = c := by omega
    subst hvc
    by_cases hy : 40 * u + b ≤ x ∧ x < 40 * u + b + v
    · first | rw [if_pos hy, if_pos (by omega)] | rw [if_pos hy]
    · first | rw [if_neg hy, if_neg (by omega)] | rw [if_neg hy]
  | succ k ih =>
    intro v s hk hs
    have hlt : nI v < nI c := nI_ltL (by omega) (by omega)
    have hdn := g_dn (c := c) (v := v) (by omega) (by omega)
    have hg1 := g_ic (u := u) (b := b) (q := (c - 1 - v)) hu (by omega)
    have hg2 := g_ic (u := t) (b := a) (q := (c - 1 - v)) ht (by omega)
    rw [← hdn] at hg1 hg2
    refine V_blk C (pc' := 125) (σ' := s) (L' := [some (.ref 63), some (.int (nI t)), some (.int (nI a)), some (.int (nI u)), some (.int (nI b)), some (.int (nI c)), some (.int 1), some (.int (nI v)), none]) (st' := [.int (nI c), .int (nI v)]) (g_c dX8_copy_121 (g_c dX8_copy_123 g_n)) rfl rfl ?_
    refine V_icmp_ge2 C (tgt := 182) dX8_copy_125 (by decide) (fun h125 => absurd hlt h125) (fun h125 => ?_)
    refine V_blk C (pc' := 130) (σ' := s) (L' := [some (.ref 63), some (.int (nI t)), some (.int (nI a)), some (.int (nI u)), some (.int (nI b)), some (.int (nI c)), some (.int 1), some (.int (nI v)), none]) (st' := [.int 1]) (g_c dX8_copy_128 g_n) rfl rfl ?_
    refine V_if_eq C (tgt := 143) dX8_copy_130 (by decide) (fun z => absurd z (by decide)) (fun _ => ?_)
    refine V_blk C (pc' := 140) (σ' := s) (L' := [some (.ref 63), some (.int (nI t)), some (.int (nI a)), some (.int (nI u)), some (.int (nI b)), some (.int (nI c)), some (.int 1), some (.int (nI v)), none]) (st' := [.int (((nI c) - 1) - (nI v))]) (g_c dX8_copy_133 (g_c dX8_copy_135 (g_c dX8_copy_136 (g_c dX8_copy_137 (g_c dX8_copy_139 g_n))))) rfl rfl ?_
    refine V_goto C (tgt := 145) dX8_copy_140 (by decide) ?_
    refine V_blk C (pc' := 174) (σ' := s) (L' := [some (.ref 63), some (.int (nI t)), some (.int (nI a)), some (.int (nI u)), some (.int (nI b)), some (.int (nI c)), some (.int 1), some (.int (nI v)), some (.int (((nI c) - 1) - (nI v)))]) (st' := [.int (((40 * (nI t)) + (nI a)) + (((nI c) - 1) - (nI v))), .ref 89, .int (((40 * (nI u)) + (nI b)) + (((nI c) - 1) - (nI v))), .ref 89]) (g_c dX8_copy_145 (g_c dX8_copy_147 (g_c dX8_copy_148 (g_c dX8_copy_151 (g_c dX8_copy_153 (g_c dX8_copy_154 (g_c dX8_copy_155 (g_c dX8_copy_157 (g_c dX8_copy_158 (g_c dX8_copy_160 (g_c dX8_copy_161 (g_c dX8_copy_162 (g_c dX8_copy_165 (g_c dX8_copy_167 (g_c dX8_copy_168 (g_c dX8_copy_169 (g_c dX8_copy_170 (g_c dX8_copy_171 (g_c dX8_copy_173 g_n))))))))))))))))))) rfl rfl ?_
    refine V_iald C (k := 89) (n := 160) (by rfl) (by rfl) hg2.1 dX8_copy_174 ?_
    refine V_iast C (k := 89) (n := 160) (by rfl) (by rfl) hg1.1 dX8_copy_175 ?_
    refine V_blk C (pc' := 179) (σ' := (g_up s 89 (Int32.toNatClampNeg (((40 * (nI u)) + (nI b)) + (((nI c) - 1) - (nI v)))) (s 89 (Int32.toNatClampNeg (((40 * (nI t)) + (nI a)) + (((nI c) - 1) - (nI v))))))) (L' := [some (.ref 63), some (.int (nI t)), some (.int (nI a)), some (.int (nI u)), some (.int (nI b)), some (.int (nI c)), some (.int 1), some (.int ((nI v) + 1)), some (.int (((nI c) - 1) - (nI v)))]) (st' := []) (g_c dX8_copy_176 g_n) rfl rfl ?_
    refine V_goto C (tgt := 121) dX8_copy_179 (by decide) ?_
    refine V_less (L' := [some (.ref 63), some (.int (nI t)), some (.int (nI a)), some (.int (nI u)), some (.int (nI b)), some (.int (nI c)), some (.int 1), some (.int (nI v + 1)), none]) (by simp [g_subL]) ?_
    refine V_eq rfl (by rw [nI_1]) rfl (ih (v + 1) _ (by omega) ⟨fun x hx => (g_up_ne hx).trans (hs.1 x hx), fun x => ?_⟩)
    rw [g_up_same]
    simp only [hg1.2, hg2.2]
    by_cases hx : x = 40 * u + b + (c - 1 - v)
    · rw [if_pos hx, hs.2, if_neg (by omega), if_pos (by omega)]
      congr 1
      omega
    · rw [if_neg hx, hs.2]
      by_cases hy : 40 * u + b + c - v ≤ x ∧ x < 40 * u + b + c
      · rw [if_pos hy, if_pos (by omega)]
      · rw [if_neg hy, if_neg (by omega)]
set_option maxHeartbeats 4000000 in
set_option maxRecDepth 100000 in
theorem c_X8_copyOk (σ : gS) {t u a b c : Nat} (ht : t < 4) (hu : u < 4) (ha : a + c ≤ 40) (hb : b + c ≤ 40) {zt zu : Nat} (hzt : σ 88 t = nI zt) (hzt40 : zt ≤ 40) (hzu : σ 88 u = nI zu) (hzu40 : zu ≤ 40) (ha2 : a + c ≤ zt) (hb2 : b + c ≤ zu) (e1 : ¬ σ 86 t = 0) (e2 : ¬ σ 86 u = 0) (e3 : σ 87 t = σ 87 u) : g_Met yX8_copy cX8_copy 9 (some .int) 4 kM [.ref 63, .int (nI t), .int (nI a), .int (nI u), .int (nI b), .int (nI c)] σ (fun rv s => rv = some (.int (nI c)) ∧ (∀ x, x ≠ 89 → s x = σ x) ∧ (∀ x, s 89 x = if 40 * u + b ≤ x ∧ x < 40 * u + b + c then σ 89 (x - (40 * u + b) + (40 * t + a)) else σ 89 x)) := by
  have hin : g_in (nI t) 0 3 := g_inI (by have h3 : (3 : Int32).toInt = 3 := rfl; omega) (by omega)
  have hin2 : g_in (nI u) 0 3 := g_inI (by have h3 : (3 : Int32).toInt = 3 := rfl; omega) (by omega)
  have p1 : ¬ nI c < 0 := nI_pos (by omega)
  have p2 : ¬ nI a < 0 := nI_pos (by omega)
  have p3 : ¬ nI b < 0 := nI_pos (by omega)
  have p4 : ¬ σ 88 t - nI c < nI a := by rw [hzt, pk_sub (by omega)]; exact nI_nltL (by omega) (by omega)
  have p5 : ¬ σ 88 u - nI c < nI b := by rw [hzu, pk_sub (by omega)]; exact nI_nltL (by omega) (by omega)
  refine g_Met.of (own := 8) (L := [some (.ref 63), some (.int (nI t)), some (.int (nI a)), some (.int (nI u)), some (.int (nI b)), some (.int (nI c)), none, none, none]) (by decide) rfl rfl (fun ad => Nat.le_of_ble_eq_true rfl) (fun ad => rfl) (fun X G K C => ?_)
  refine V_blk C (pc' := 1) (σ' := σ) (L' := [some (.ref 63), some (.int (nI t)), some (.int (nI a)), some (.int (nI u)), some (.int (nI b)), some (.int (nI c)), none, none, none]) (st' := [.int (nI t)]) (g_c dX8_copy_0 g_n) rfl rfl ?_
  refine V_callSI C cs_X8_354 (c_X8_isSheet σ (nI t)) (by decide) (by decide) (fun _ h => h) (As := [.int (nI t)]) (rest := []) rfl rfl (Nat.le_of_ble_eq_true rfl) dX8_copy_1 ?_
  refine V_if_eq_b C (tgt := 14) dX8_copy_4 (by decide) (fun h4 => absurd hin h4) (fun h4 => ?_)
  refine V_blk C (pc' := 8) (σ' := σ) (L' := [some (.ref 63), some (.int (nI t)), some (.int (nI a)), some (.int (nI u)), some (.int (nI b)), some (.int (nI c)), none, none, none]) (st' := [.int (nI u)]) (g_c dX8_copy_7 g_n) rfl rfl ?_
  refine V_callSI C cs_X8_354 (c_X8_isSheet σ (nI u)) (by decide) (by decide) (fun _ h => h) (As := [.int (nI u)]) (rest := []) rfl rfl (Nat.le_of_ble_eq_true rfl) dX8_copy_8 ?_
  refine V_if_ne_b C (tgt := 17) dX8_copy_11 (by decide) (fun h11 => ?_) (fun h11 => absurd hin2 h11)
  refine V_blk C (pc' := 22) (σ' := σ) (L' := [some (.ref 63), some (.int (nI t)), some (.int (nI a)), some (.int (nI u)), some (.int (nI b)), some (.int (nI c)), none, none, none]) (st' := [.int (nI t), .ref 86]) (g_c dX8_copy_17 (g_c dX8_copy_18 (g_c dX8_copy_21 g_n))) rfl rfl ?_
  refine V_zaldJ C (j := t) (k := 86) (n := 4) (by rfl) (by rfl) rfl (by omega) dX8_copy_22 ?_
  refine V_if_eq C (tgt := 35) dX8_copy_23 (by decide) (fun h23 => absurd h23 e1) (fun h23 => ?_)
  refine V_blk C (pc' := 31) (σ' := σ) (L' := [some (.ref 63), some (.int (nI t)), some (.int (nI a)), some (.int (nI u)), some (.int (nI b)), some (.int (nI c)), none, none, none]) (st' := [.int (nI u), .ref 86]) (g_c dX8_copy_26 (g_c dX8_copy_27 (g_c dX8_copy_30 g_n))) rfl rfl ?_
  refine V_zaldJ C (j := u) (k := 86) (n := 4) (by rfl) (by rfl) rfl (by omega) dX8_copy_31 ?_
  refine V_if_ne C (tgt := 38) dX8_copy_32 (by decide) (fun h32 => ?_) (fun h32 => absurd h32 e2)
  refine V_blk C (pc' := 43) (σ' := σ) (L' := [some (.ref 63), some (.int (nI t)), some (.int (nI a)), some (.int (nI u)), some (.int (nI b)), some (.int (nI c)), none, none, none]) (st' := [.int (nI t), .ref 87]) (g_c dX8_copy_38 (g_c dX8_copy_39 (g_c dX8_copy_42 g_n))) rfl rfl ?_
  refine V_ialdJ C (j := t) (k := 87) (n := 4) (by rfl) (by rfl) rfl (by omega) dX8_copy_43 ?_
  refine V_blk C (pc' := 49) (σ' := σ) (L' := [some (.ref 63), some (.int (nI t)), some (.int (nI a)), some (.int (nI u)), some (.int (nI b)), some (.int (nI c)), none, none, none]) (st' := [.int (nI u), .ref 87, .int (σ 87 t)]) (g_c dX8_copy_44 (g_c dX8_copy_45 (g_c dX8_copy_48 g_n))) rfl rfl ?_
  refine V_ialdJ C (j := u) (k := 87) (n := 4) (by rfl) (by rfl) rfl (by omega) dX8_copy_49 ?_
  refine V_icmp_eq C (tgt := 56) dX8_copy_50 (by decide) (fun h50 => ?_) (fun h50 => absurd e3 h50)
  refine V_blk C (pc' := 58) (σ' := σ) (L' := [some (.ref 63), some (.int (nI t)), some (.int (nI a)), some (.int (nI u)), some (.int (nI b)), some (.int (nI c)), none, none, none]) (st' := [.int (nI c)]) (g_c dX8_copy_56 g_n) rfl rfl ?_
  refine V_if_lt C (tgt := 97) dX8_copy_58 (by decide) (fun h58 => absurd h58 p1) (fun h58 => ?_)
  refine V_blk C (pc' := 62) (σ' := σ) (L' := [some (.ref 63), some (.int (nI t)), some (.int (nI a)), some (.int (nI u)), some (.int (nI b)), some (.int (nI c)), none, none, none]) (st' := [.int (nI a)]) (g_c dX8_copy_61 g_n) rfl rfl ?_
  refine V_if_lt C (tgt := 97) dX8_copy_62 (by decide) (fun h62 => absurd h62 p2) (fun h62 => ?_)
  refine V_blk C (pc' := 67) (σ' := σ) (L' := [some (.ref 63), some (.int (nI t)), some (.int (nI a)), some (.int (nI u)), some (.int (nI b)), some (.int (nI c)), none, none, none]) (st' := [.int (nI b)]) (g_c dX8_copy_65 g_n) rfl rfl ?_
  refine V_if_lt C (tgt := 97) dX8_copy_67 (by decide) (fun h67 => absurd h67 p3) (fun h67 => ?_)
  refine V_blk C (pc' := 76) (σ' := σ) (L' := [some (.ref 63), some (.int (nI t)), some (.int (nI a)), some (.int (nI u)), some (.int (nI b)), some (.int (nI c)), none, none, none]) (st' := [.int (nI t), .ref 88, .int (nI a)]) (g_c dX8_copy_70 (g_c dX8_copy_71 (g_c dX8_copy_72 (g_c dX8_copy_75 g_n)))) rfl rfl ?_
  refine V_ialdJ C (j := t) (k := 88) (n := 4) (by rfl) (by rfl) rfl (by omega) dX8_copy_76 ?_
  refine V_blk C (pc' := 80) (σ' := σ) (L' := [some (.ref 63), some (.int (nI t)), some (.int (nI a)), some (.int (nI u)), some (.int (nI b)), some (.int (nI c)), none, none, none]) (st' := [.int ((σ 88 t) - (nI c)), .int (nI a)]) (g_c dX8_copy_77 (g_c dX8_copy_79 g_n)) rfl rfl ?_
  refine V_icmp_gt C (tgt := 97) dX8_copy_80 (by decide) (fun h80 => absurd h80 p4) (fun h80 => ?_)
  refine V_blk C (pc' := 90) (σ' := σ) (L' := [some (.ref 63), some (.int (nI t)), some (.int (nI a)), some (.int (nI u)), some (.int (nI b)), some (.int (nI c)), none, none, none]) (st' := [.int (nI u), .ref 88, .int (nI b)]) (g_c dX8_copy_83 (g_c dX8_copy_85 (g_c dX8_copy_86 (g_c dX8_copy_89 g_n)))) rfl rfl ?_
  refine V_ialdJ C (j := u) (k := 88) (n := 4) (by rfl) (by rfl) rfl (by omega) dX8_copy_90 ?_
  refine V_blk C (pc' := 94) (σ' := σ) (L' := [some (.ref 63), some (.int (nI t)), some (.int (nI a)), some (.int (nI u)), some (.int (nI b)), some (.int (nI c)), none, none, none]) (st' := [.int ((σ 88 u) - (nI c)), .int (nI b)]) (g_c dX8_copy_91 (g_c dX8_copy_93 g_n)) rfl rfl ?_
  refine V_icmp_le2 C (tgt := 100) dX8_copy_94 (by decide) (fun h94 => ?_) (fun h94 => absurd h94 p5)
  refine V_blk C (pc' := 102) (σ' := σ) (L' := [some (.ref 63), some (.int (nI t)), some (.int (nI a)), some (.int (nI u)), some (.int (nI b)), some (.int (nI c)), none, none, none]) (st' := [.int (nI u), .int (nI t)]) (g_c dX8_copy_100 (g_c dX8_copy_101 g_n)) rfl rfl ?_
  refine V_icmp_ne C (tgt := 115) dX8_copy_102 (by decide) (fun h102 => ?_) (fun h102 => ?_)
  · skip
    refine V_blk C (pc' := 121) (σ' := σ) (L' := [some (.ref 63), some (.int (nI t)), some (.int (nI a)), some (.int (nI u)), some (.int (nI b)), some (.int (nI c)), some (.int 0), some (.int 0), none]) (st' := []) (g_c dX8_copy_115 (g_c dX8_copy_116 (g_c dX8_copy_118 (g_c dX8_copy_119 g_n)))) rfl rfl ?_
    exact lp_copy0 (σ := σ) ht hu ha hb (fun htu => by first | exact absurd (by rw [htu]) h102 | (have h9 : ¬ a < b := fun z => h108 ((nI_ltI (a := a) (b := b) (by omega) (by omega)).mpr z); omega)) C c 0 _ (by omega) ⟨fun _ _ => rfl, fun x => by rw [if_neg (by omega)]⟩
  · skip
    refine V_blk C (pc' := 108) (σ' := σ) (L' := [some (.ref 63), some (.int (nI t)), some (.int (nI a)), some (.int (nI u)), some (.int (nI b)), some (.int (nI c)), none, none, none]) (st' := [.int (nI b), .int (nI a)]) (g_c dX8_copy_105 (g_c dX8_copy_106 g_n)) rfl rfl ?_
    refine V_icmp_ge2 C (tgt := 115) dX8_copy_108 (by decide) (fun h108 => ?_) (fun h108 => ?_)
    · skip
      refine V_blk C (pc' := 121) (σ' := σ) (L' := [some (.ref 63), some (.int (nI t)), some (.int (nI a)), some (.int (nI u)), some (.int (nI b)), some (.int (nI c)), some (.int 0), some (.int 0), none]) (st' := []) (g_c dX8_copy_115 (g_c dX8_copy_116 (g_c dX8_copy_118 (g_c dX8_copy_119 g_n)))) rfl rfl ?_
      exact lp_copy0 (σ := σ) ht hu ha hb (fun htu => by first | exact absurd (by rw [htu]) h102 | (have h9 : ¬ a < b := fun z => h108 ((nI_ltI (a := a) (b := b) (by omega) (by omega)).mpr z); omega)) C c 0 _ (by omega) ⟨fun _ _ => rfl, fun x => by rw [if_neg (by omega)]⟩
    · skip
      refine V_blk C (pc' := 112) (σ' := σ) (L' := [some (.ref 63), some (.int (nI t)), some (.int (nI a)), some (.int (nI u)), some (.int (nI b)), some (.int (nI c)), none, none, none]) (st' := [.int 1]) (g_c dX8_copy_111 g_n) rfl rfl ?_
      refine V_goto C (tgt := 116) dX8_copy_112 (by decide) ?_
      refine V_blk C (pc' := 121) (σ' := σ) (L' := [some (.ref 63), some (.int (nI t)), some (.int (nI a)), some (.int (nI u)), some (.int (nI b)), some (.int (nI c)), some (.int 1), some (.int 0), none]) (st' := []) (g_c dX8_copy_116 (g_c dX8_copy_118 (g_c dX8_copy_119 g_n))) rfl rfl ?_
      exact lp_copy1 (σ := σ) ht hu ha hb ⟨by have := (nI_eq (a := t) (b := u) (by omega) (by omega)).mp h102; exact this, by have := (nI_ltI (a := a) (b := b) (by omega) (by omega)).mp h108; exact this⟩ C c 0 _ (by omega) ⟨fun _ _ => rfl, fun x => by rw [if_neg (by omega)]⟩
