/-! CALLS BY ANY CONTRACT -/
def g_call (y : MethodName) (b : ByteArray) (n : Nat) (ret : Option FieldType) (KR : Nat → Bool) (h : Nat) (av : List Value) (σ : gS) (R : Option Value → gS → Prop) : Prop :=
  ∃ (h' : Nat) (KR' : Nat → Bool) (Qc : Option Value → gS → Prop), g_Met y b n ret h' KR' av σ Qc ∧ (h' + 1 ≤ h ∧ ∀ k, KR' k = true → KR k = true) ∧ ∀ rv s, Qc rv s → R rv s
theorem g_call.i {y : MethodName} {b : ByteArray} {n : Nat} {ret : Option FieldType} {KR KR' : Nat → Bool} {h h' : Nat} {av : List Value} {σ : gS} {R Qc : Option Value → gS → Prop} (M : g_Met y b n ret h' KR' av σ Qc) (hh : h' + 1 ≤ h) (hR : ∀ rv s, Qc rv s → R rv s) (hKK : ∀ k, KR' k = true → KR k = true := by first | exact fun _ h => h | exact kR_kX) : g_call y b n ret KR h av σ R := ⟨h', KR', Qc, M, ⟨hh, hKK⟩, hR⟩
theorem g_ls {x v : Int32} {n : Int} (hv : v.toInt = n) (h : ¬ x = v) : ¬ n = x.toInt := fun z => h (Int32.toInt_inj.mp (by rw [hv, z]))
section GV3
variable {X : gX} {G : gG} {K : List Nat} {KR : Nat → Bool} {nL : Nat} {cc : ByteArray} {own h : Nat} {ret : Option FieldType} {Qp : Option Value → gS → Prop} {σ : gS} {L : gL} {st : List Value} {pc : Nat}
theorem V_gV (C : gC X G K KR nL cc (g_RX own) ret h) {ix k n' na : Nat} {y : MethodName} {b : ByteArray} {ret' : Option FieldType} {As rest : List Value} {R : Option Value → gS → Prop} (F : g_CV (g_RX own) ix y b n' ret' na) (P : g_call y b n' ret' KR h (.ref k :: As) σ R) (hrc : ∃ ci ts T N, g_sh k = .inl (ci, ts) ∧ g_cl[ci]? = some (y.cls, T, N)) (hk : KR k = true) (hn : n' ≤ 40) (hna : As.length = na) (hst : st = As.reverse ++ .ref k :: rest) (hcat : (rest.map fun v => v.category).sum ≤ 8) (d : decode cc pc = .ok (.invokevirtual ix, 3))
    (kk : ∀ (rv : Option Value) (σ' : gS), R rv σ' → gV X G K nL Qp σ' L (rv.toList ++ rest) (pc + 3)) : gV X G K nL Qp σ L st pc := by
  obtain ⟨h', KR', Qc, M, ⟨hh, hKK⟩, hR⟩ := P
  exact V_callV C F M hrc hk hh hn hKK hna hst hcat d (fun rv s hq => kk rv s (hR rv s hq))
theorem V_gS (C : gC X G K KR nL cc (g_RX own) ret h) {ix n' na : Nat} {y : MethodName} {b : ByteArray} {ret' : Option FieldType} {As rest : List Value} {R : Option Value → gS → Prop} (F : g_CS (g_RX own) ix y b n' ret' na) (P : g_call y b n' ret' KR h As σ R) (hn : n' ≤ 40) (hna : As.length = na) (hst : st = As.reverse ++ rest) (hcat : (rest.map fun v => v.category).sum ≤ 8) (d : decode cc pc = .ok (.invokestatic ix, 3))
    (kk : ∀ (rv : Option Value) (σ' : gS), R rv σ' → gV X G K nL Qp σ' L (rv.toList ++ rest) (pc + 3)) : gV X G K nL Qp σ L st pc := by
  obtain ⟨h', KR', Qc, M, ⟨hh, hKK⟩, hR⟩ := P
  exact V_callS C F M hh hn hKK hna hst hcat d (fun rv s hq => kk rv s (hR rv s hq))
theorem V_gN (C : gC X G K KR nL cc (g_RX own) ret h) {ix n' na : Nat} {y : MethodName} {b : ByteArray} {ret' : Option FieldType} {As rest : List Value} {R : Option Value → gS → Prop} (F : g_CN (g_RX own) ix y b n' ret' na) (P : g_call y b n' ret' KR h As σ R) (hn : n' ≤ 40) (hna : As.length = na) (hst : st = As.reverse ++ rest) (hcat : (rest.map fun v => v.category).sum ≤ 8) (d : decode cc pc = .ok (.invokestatic ix, 3))
    (kk : ∀ (rv : Option Value) (σ' : gS), R rv σ' → gV X G K nL Qp σ' L (rv.toList ++ rest) (pc + 3)) : gV X G K nL Qp σ L st pc := by
  obtain ⟨h', KR', Qc, M, ⟨hh, hKK⟩, hR⟩ := P
  exact V_callN C F M hh hn hKK hna hst hcat d (fun rv s hq => kk rv s (hR rv s hq))
end GV3
