/-! LAYER 2: pure. Small ints, memory reads. -/
theorem xst_f {I : xI} {a k b : Nat} {v : Int32} (h : a ≠ b) : xst I a k v b = I b := by
  funext j
  unfold xst
  rw [if_neg (fun q => h q.1.symm)]
theorem xst_k {I : xI} {a k j : Nat} {v : Int32} (h : k ≠ j) : xst I a k v a j = I a j := by
  unfold xst
  rw [if_neg (fun q => h q.2.symm)]
theorem xst_s {I : xI} {a k : Nat} {v : Int32} : xst I a k v a k = v := by
  unfold xst
  rw [if_pos ⟨rfl, rfl⟩]
theorem xsl_f {I : xL} {a k b : Nat} {v : Int64} (h : a ≠ b) : xsl I a k v b = I b := by
  funext j
  unfold xsl
  rw [if_neg (fun q => h q.1.symm)]
theorem xsl_k {I : xL} {a k j : Nat} {v : Int64} (h : k ≠ j) : xsl I a k v a j = I a j := by
  unfold xsl
  rw [if_neg (fun q => h q.2.symm)]
theorem xsl_s {I : xL} {a k : Nat} {v : Int64} : xsl I a k v a k = v := by
  unfold xsl
  rw [if_pos ⟨rfl, rfl⟩]
theorem o_toInt {a : Nat} (h : a < 2147483648) : (Int32.ofNat a).toInt = a := by
  rw [Int32.toInt_ofNat_of_lt]
  omega
theorem o_le {a b : Nat} (h : a < 2147483648) (h' : b < 2147483648) : (Int32.ofNat a ≤ Int32.ofNat b) ↔ a ≤ b := by
  rw [Int32.le_iff_toInt_le, o_toInt h, o_toInt h']; omega
theorem o_lt {a b : Nat} (h : a < 2147483648) (h' : b < 2147483648) : (Int32.ofNat a < Int32.ofNat b) ↔ a < b := by
  rw [Int32.lt_iff_toInt_lt, o_toInt h, o_toInt h']; omega
theorem o_eq {a b : Nat} (h : a < 2147483648) (h' : b < 2147483648) : (Int32.ofNat a = Int32.ofNat b) ↔ a = b := by
  rw [← Int32.toInt_inj, o_toInt h, o_toInt h']; omega
theorem o_nat {a : Nat} (h : a < 2147483648) : (Int32.ofNat a).toNatClampNeg = a := by
  have := o_toInt h
  unfold Int32.toNatClampNeg
  rw [this]; rfl
theorem o_succ {a : Nat} : Int32.ofNat a + 1 = Int32.ofNat (a + 1) := by
  rw [Int32.ofNat_add]; rfl
theorem o_in {a n : Nat} (h : a < 2147483648) (h' : a < n) : xin (Int32.ofNat a) n = true := by
  unfold xin
  have h1 : ¬ (Int32.ofNat a < 0) := by
    rw [Int32.lt_iff_toInt_lt, o_toInt h]
    have : (0 : Int32).toInt = 0 := rfl
    omega
  rw [o_nat h]
  simp [h1, h']
theorem o_ex {x : Int32} (h : ¬ x < 0) : ∃ a : Nat, a < 2147483648 ∧ x = Int32.ofNat a := by
  have h0 : (0 : Int32).toInt = 0 := rfl
  rw [Int32.lt_iff_toInt_lt, h0] at h
  have h1 := Int32.toInt_lt x
  refine ⟨x.toInt.toNat, by omega, ?_⟩
  rw [← Int32.toInt_inj, o_toInt (by omega)]
  omega
theorem o_cast (n : Nat) : (OfNat.ofNat n : Int32) = Int32.ofNat n := rfl
theorem xin_i {x : Int32} {n : Nat} (h : 0 ≤ x.toInt) (h' : x.toInt < n) : xin x n = true := by
  obtain ⟨a, ha, rfl⟩ := o_ex (x := x) (by rw [Int32.lt_iff_toInt_lt]; have : (0 : Int32).toInt = 0 := rfl; omega)
  rw [o_toInt ha] at h'
  exact o_in ha (by omega)
theorem i_add {x y : Int32} (h : -2147483648 ≤ x.toInt + y.toInt) (h' : x.toInt + y.toInt < 2147483648) : (x + y).toInt = x.toInt + y.toInt := by
  rw [Int32.toInt_add]
  exact Int.bmod_eq_of_le (by omega) (by omega)
theorem i_sub {x y : Int32} (h : -2147483648 ≤ x.toInt - y.toInt) (h' : x.toInt - y.toInt < 2147483648) : (x - y).toInt = x.toInt - y.toInt := by
  rw [Int32.toInt_sub]
  exact Int.bmod_eq_of_le (by omega) (by omega)
theorem i_mul {x y : Int32} (h : -2147483648 ≤ x.toInt * y.toInt) (h' : x.toInt * y.toInt < 2147483648) : (x * y).toInt = x.toInt * y.toInt := by
  rw [Int32.toInt_mul]
  exact Int.bmod_eq_of_le (by omega) (by omega)
theorem xfuel_eq : xfuel = 2000 := rfl
