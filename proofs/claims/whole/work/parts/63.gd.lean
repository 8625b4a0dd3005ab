/-! the questions that both ask of what they are given -/
theorem g_wi (x a : Int32) (m : xMem) : F_X9_within x a m = some (if 0 ≤ x ∧ x ≤ a then 1 else 0, m) := by
  unfold F_X9_within
  by_cases h : 0 ≤ x ∧ x ≤ a
  · rw [if_neg (by grind), if_neg (by grind), if_pos h]
  · rw [if_neg h]
    by_cases h0 : x < 0
    · rw [if_pos h0]
    · rw [if_neg h0, if_pos (by grind)]
theorem xbb_if {c : Prop} [Decidable c] : xbb (if c then 1 else 0) = true := by split <;> decide

theorem g_isKind (x : Int32) (m : xMem) : F_X9_isKind x m = some (if 0 ≤ x ∧ x ≤ 5 then 1 else 0, m) := by
  unfold F_X9_isKind
  rw [g_wi, Option.bind_some, if_pos xbb_if]

theorem g_isPlace (x : Int32) (m : xMem) : F_X9_isPlace x m = some (if 0 ≤ x ∧ x ≤ 9 then 1 else 0, m) := by
  unfold F_X9_isPlace
  rw [g_wi, Option.bind_some, if_pos xbb_if]

theorem g_isReader (x : Int32) (m : xMem) : F_X9_isReader x m = some (if 0 ≤ x ∧ x ≤ 19 then 1 else 0, m) := by
  unfold F_X9_isReader
  rw [g_wi, Option.bind_some, if_pos xbb_if]

theorem g_isWalker (x : Int32) (m : xMem) : F_X9_isWalker x m = some (if 0 ≤ x ∧ x ≤ 4 then 1 else 0, m) := by
  unfold F_X9_isWalker
  rw [g_wi, Option.bind_some, if_pos xbb_if]

theorem g_isValue (x : Int32) (m : xMem) : F_X9_isValue x m = some (if 0 ≤ x ∧ x ≤ 9999 then 1 else 0, m) := by
  unfold F_X9_isValue
  rw [g_wi, Option.bind_some, if_pos xbb_if]

theorem g_mPlace (x : Int32) (m : xMem) : F_X10_isPlace x m = some (if 0 ≤ x ∧ x ≤ 9 then 1 else 0, m) := by
  unfold F_X10_isPlace
  by_cases h : 0 ≤ x ∧ x ≤ 9
  · rw [if_neg (by grind), if_neg (by grind), if_pos h]
  · rw [if_neg h]
    by_cases h0 : x < 0
    · rw [if_pos h0]
    · rw [if_neg h0, if_pos (by grind)]

theorem g_mValue (x : Int32) (m : xMem) : F_X10_isValue x m = some (if 0 ≤ x ∧ x ≤ 9999 then 1 else 0, m) := by
  unfold F_X10_isValue
  by_cases h : 0 ≤ x ∧ x ≤ 9999
  · rw [if_neg (by grind), if_neg (by grind), if_pos h]
  · rw [if_neg h]
    by_cases h0 : x < 0
    · rw [if_pos h0]
    · rw [if_neg h0, if_pos (by grind)]

theorem g_has (x : Int32) (m : xMem) : F_X2_has x m = some (if 0 ≤ x ∧ x < m.1 ag_facts fFacts_size then 1 else 0, m) := by
  unfold F_X2_has
  by_cases h : 0 ≤ x ∧ x < m.1 ag_facts fFacts_size
  · rw [if_neg (by grind), if_neg (by grind), if_pos h]
  · rw [if_neg h]
    by_cases h0 : x < 0
    · rw [if_pos h0]
    · rw [if_neg h0, if_pos (by grind)]

theorem g_mFact (x : Int32) (m : xMem) : F_X10_isFact x m = some (if 0 ≤ x ∧ x < m.1 am fGuideBookModel_facts then 1 else 0, m) := by
  unfold F_X10_isFact
  by_cases h : 0 ≤ x ∧ x < m.1 am fGuideBookModel_facts
  · rw [if_neg (by grind), if_neg (by grind), if_pos h]
  · rw [if_neg h]
    by_cases h0 : x < 0
    · rw [if_pos h0]
    · rw [if_neg h0, if_pos (by grind)]

theorem g_hasL (x : Int32) (m : xMem) : F_X3_has x m = some (if 0 ≤ x ∧ x < m.1 ag_letters fLetters_size then 1 else 0, m) := by
  unfold F_X3_has
  by_cases h : 0 ≤ x ∧ x < m.1 ag_letters fLetters_size
  · rw [if_neg (by grind), if_neg (by grind), if_pos h]
  · rw [if_neg h]
    by_cases h0 : x < 0
    · rw [if_pos h0]
    · rw [if_neg h0, if_pos (by grind)]

theorem g_hasE (x : Int32) (m : xMem) : F_X1_has x m = some (if 0 ≤ x ∧ x < m.1 ag_editions fEditions_size then 1 else 0, m) := by
  unfold F_X1_has
  by_cases h : 0 ≤ x ∧ x < m.1 ag_editions fEditions_size
  · rw [if_neg (by grind), if_neg (by grind), if_pos h]
  · rw [if_neg h]
    by_cases h0 : x < 0
    · rw [if_pos h0]
    · rw [if_neg h0, if_pos (by grind)]

theorem g_ix {x : Int32} {n : Nat} (h : 0 ≤ x ∧ x < Int32.ofNat n) (hn : n < 2147483648) : ∃ a, a < n ∧ x = Int32.ofNat a := by
  obtain ⟨a, ha, rfl⟩ := o_ex (x := x) (by grind)
  exact ⟨a, (o_lt ha hn).mp h.2, rfl⟩
theorem g_ixl {x : Int32} {n : Nat} (h : 0 ≤ x ∧ x ≤ Int32.ofNat n) (hn : n < 2147483648) : ∃ a, a ≤ n ∧ x = Int32.ofNat a := by
  obtain ⟨a, ha, rfl⟩ := o_ex (x := x) (by grind)
  exact ⟨a, (o_le ha hn).mp h.2, rfl⟩
theorem g_rx {x : Int32} {n : Nat} (h : xrg x 0 (Int32.ofNat n)) (hn : n < 2147483648) : ∃ a, a ≤ n ∧ x = Int32.ofNat a := g_ixl h hn
/-- thrown is scratch -/
theorem k_th (m : xMem) (v : Int32) : xKeep m (xst m.1 am fGuideBookModel_thrown v, m.2) := (xKeep.refl m).st rfl
