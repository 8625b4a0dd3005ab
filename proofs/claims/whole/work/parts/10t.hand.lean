def xnc (ty : FieldType) (v : Int32) : Bool := decide (narrow ty (.int v) = .int v)
theorem xnc_n {ty : FieldType} {v : Int32} (h : xnc ty v = true) : narrow ty (.int v) = .int v := of_decide_eq_true h
def F_J0_checkIndex_df160 (x0 x1 : Int32) (m : xMem) : Option (Int32 × xMem) := if x0 < 0 then none else if x0 < x1 then some (0, m) else none
theorem c_J3_checkIndex {E : xE} {d : Nat} (x0 x1 : Int32) {w : Value} (hw : w = .null ∨ ∃ t, w = .ref t) (m : xMem) (h0 : ¬ x0 < 0) (h1 : x0 < x1) : xCi E mJ3_checkIndex_8e157 d [.int x0, .int x1, w] m x0 m := by
  rcases hw with rfl | ⟨t, rfl⟩
  · refine x_enterF (by decide +kernel) (Nat.le_of_ble_eq_true rfl) ?_
    refine x_iload_n dJ3_checkIndex_8e157_0 rfl ?_
    refine x_if_lt 9 dJ3_checkIndex_8e157_1 (by decide) (fun hc => absurd hc h0) (fun _ => ?_)
    refine x_iload_n dJ3_checkIndex_8e157_4 rfl ?_
    refine x_iload_n dJ3_checkIndex_8e157_5 rfl ?_
    refine x_icmp_lt 16 dJ3_checkIndex_8e157_6 (by decide) (fun _ => ?_) (fun hc => absurd h1 hc)
    refine x_iload_n dJ3_checkIndex_8e157_16 rfl ?_
    exact x_iret dJ3_checkIndex_8e157_17 rfl ⟨rfl, rfl⟩
  · refine x_enterF (by decide +kernel) (Nat.le_of_ble_eq_true rfl) ?_
    refine x_iload_n dJ3_checkIndex_8e157_0 rfl ?_
    refine x_if_lt 9 dJ3_checkIndex_8e157_1 (by decide) (fun hc => absurd hc h0) (fun _ => ?_)
    refine x_iload_n dJ3_checkIndex_8e157_4 rfl ?_
    refine x_iload_n dJ3_checkIndex_8e157_5 rfl ?_
    refine x_icmp_lt 16 dJ3_checkIndex_8e157_6 (by decide) (fun _ => ?_) (fun hc => absurd h1 hc)
    refine x_iload_n dJ3_checkIndex_8e157_16 rfl ?_
    exact x_iret dJ3_checkIndex_8e157_17 rfl ⟨rfl, rfl⟩
theorem c_J0_checkIndex_df160 {E : xE} {d : Nat} (hd : 3 ≤ d) (x0 x1 : Int32) (m : xMem) (out : Int32 × xMem) (h : F_J0_checkIndex_df160 x0 x1 m = some out) : xCv E mJ0_checkIndex_df160 d [.int x0, .int x1] m out.2 := by
  unfold F_J0_checkIndex_df160 at h
  have h0 := x_gp h
  have h1 : x0 < x1 := by
    by_cases hc : x0 < x1
    · exact hc
    · have := h0.2
      rw [if_neg hc] at this
      cases this
  have h2 := x_ift h1 h0.2
  cases h2
  refine x_enterF (by decide +kernel) (Nat.le_of_ble_eq_true rfl) ?_
  refine x_iload_n dJ0_checkIndex_df160_0 rfl ?_
  refine x_iload_n dJ0_checkIndex_df160_1 rfl ?_
  refine x_getsQ dJ0_checkIndex_df160_2 w_649 (fun w hw => ?_)
  refine f_cSi mJ3_checkIndex_8e157 [.int x0, .int x1, w] [] dJ0_checkIndex_df160_5 cs_RJ0_1059 w_652 rfl rfl (Nat.le_of_ble_eq_true rfl) (d' := d - 1) (by omega) (c_J3_checkIndex x0 x1 hw m h0.1 h1) ?_
  refine x_pop dJ0_checkIndex_df160_8 rfl ?_
  exact x_vret dJ0_checkIndex_df160_9 rfl ⟨rfl, rfl⟩
