/-! THE FIRST TEXT, as both read it -/
def b_ch : gF := fun k => (g_sbyt.getD 0 []).getD k 0 &&& 255
def b_b8 : gF := fun k => b_by.getD k 0
set_option maxRecDepth 100000 in
theorem ch_in : ∀ k, k < 46 → g_in (b_ch k) 0 255 := by decide +kernel
set_option maxRecDepth 100000 in
theorem b8_in : ∀ k, k < 48 → g_in (b_b8 k) 0 255 := by decide +kernel
set_option maxRecDepth 100000 in
theorem ch_fa : p_fa (p_end (q_l b_ch 46)) = none := by decide +kernel
set_option maxRecDepth 100000 in
theorem b8_fa : p_fa (p_end (q_l b_b8 48)) = none := by decide +kernel
set_option maxRecDepth 100000 in
theorem seg_eq : ∀ pa, pa < 3 → p_seg (q_l b_ch 46) pa = p_seg (q_l b_b8 48) pa := by decide +kernel
theorem t_of_eq (pa : Nat) (h : pa < 3) (mo : Int32) (nm : gF) : t_of (q_l b_ch 46) pa mo nm = t_of (q_l b_b8 48) pa mo nm := by
  unfold t_of
  rw [seg_eq pa h]
