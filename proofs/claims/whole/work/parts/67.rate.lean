/-! longs; rate and chance -/
theorem j_add {x y : Int64} (h : -9000000000000000000 ≤ x.toInt + y.toInt) (h' : x.toInt + y.toInt ≤ 9000000000000000000) : (x + y).toInt = x.toInt + y.toInt := by
  rw [Int64.toInt_add]; exact Int.bmod_eq_of_le (by omega) (by omega)
theorem j_sub {x y : Int64} (h : -9000000000000000000 ≤ x.toInt - y.toInt) (h' : x.toInt - y.toInt ≤ 9000000000000000000) : (x - y).toInt = x.toInt - y.toInt := by
  rw [Int64.toInt_sub]; exact Int.bmod_eq_of_le (by omega) (by omega)
theorem j_mul {x y : Int64} (h : -9000000000000000000 ≤ x.toInt * y.toInt) (h' : x.toInt * y.toInt ≤ 9000000000000000000) : (x * y).toInt = x.toInt * y.toInt := by
  rw [Int64.toInt_mul]; exact Int.bmod_eq_of_le (by omega) (by omega)
theorem j_div {x y : Int64} (h : -9000000000000000000 ≤ x.toInt) : (x / y).toInt = x.toInt.tdiv y.toInt := by
  refine Int64.toInt_div_of_ne_left x y ?_
  intro q
  rw [q] at h
  exact absurd h (by decide)
theorem j_i32 {x : Int64} (h : -2147483648 ≤ x.toInt) (h' : x.toInt < 2147483648) : x.toInt32.toInt = x.toInt := by
  rw [Int64.toInt_toInt32]; exact Int.bmod_eq_of_le (by omega) (by omega)
def rtv (A B : Int32) : Int32 := if 0 ≤ A + 1 - B then ((1000000 : Int64) * (A + 1 - B).toInt64 / (A + 2).toInt64).toInt32 else 0
theorem rt_up {A B : Int32} {t : Nat} (ht : t ≤ 600) (hA : xrg A 0 (Int32.ofNat (99 * t))) (hB : xrg B 0 (Int32.ofNat t)) : (A + 1 - B).toInt = A.toInt + 1 - B.toInt ∧ (A + 2).toInt = A.toInt + 2 ∧ 0 ≤ A.toInt ∧ A.toInt ≤ 60000 ∧ 0 ≤ B.toInt ∧ B.toInt ≤ 600 := by
  obtain ⟨a1, a2⟩ := hA
  obtain ⟨b1, b2⟩ := hB
  rw [Int32.le_iff_toInt_le] at a1 a2 b1 b2
  rw [o_toInt (by omega)] at a2 b2
  have z : (0 : Int32).toInt = 0 := rfl
  have one : (1 : Int32).toInt = 1 := rfl
  have two : (2 : Int32).toInt = 2 := rfl
  have e1 : (A + 1).toInt = A.toInt + 1 := by rw [i_add (by rw [one]; omega) (by rw [one]; omega), one]
  refine ⟨?_, ?_, by omega, by omega, by omega, by omega⟩
  · rw [i_sub (by omega) (by omega), e1]
  · rw [i_add (by rw [two]; omega) (by rw [two]; omega), two]
theorem rt_q {A B : Int32} {t : Nat} (ht : t ≤ 600) (hA : xrg A 0 (Int32.ofNat (99 * t))) (hB : xrg B 0 (Int32.ofNat t)) : ¬ (A + 2).toInt64 = 0 ∧ ((1000000 : Int64) * (A + 1 - B).toInt64 / (A + 2).toInt64).toInt = (1000000 * (A.toInt + 1 - B.toInt)).tdiv (A.toInt + 2) := by
  obtain ⟨e1, e2, a0, a1, b0, b1⟩ := rt_up ht hA hB
  have m6 : (1000000 : Int64).toInt = 1000000 := rfl
  have z : (0 : Int64).toInt = 0 := rfl
  refine ⟨?_, ?_⟩
  · rw [← Int64.toInt_inj, Int32.toInt_toInt64, e2, z]; omega
  · have e3 : ((1000000 : Int64) * (A + 1 - B).toInt64).toInt = 1000000 * (A.toInt + 1 - B.toInt) := by
      rw [j_mul (by rw [m6, Int32.toInt_toInt64, e1]; omega) (by rw [m6, Int32.toInt_toInt64, e1]; omega), m6, Int32.toInt_toInt64, e1]
    rw [j_div (by rw [e3]; omega), e3, Int32.toInt_toInt64, e2]
theorem rt_rg {A B : Int32} {t : Nat} (ht : t ≤ 600) (hA : xrg A 0 (Int32.ofNat (99 * t))) (hB : xrg B 0 (Int32.ofNat t)) : xrg (rtv A B) 0 1000000 := by
  obtain ⟨e1, e2, a0, a1, b0, b1⟩ := rt_up ht hA hB
  have hq := (rt_q ht hA hB).2
  have z : (0 : Int32).toInt = 0 := rfl
  have m6 : (1000000 : Int32).toInt = 1000000 := rfl
  unfold rtv
  split
  · rename_i h
    rw [Int32.le_iff_toInt_le, e1, z] at h
    have g1 : 0 ≤ (1000000 * (A.toInt + 1 - B.toInt)).tdiv (A.toInt + 2) := Int.tdiv_nonneg (by omega) (by omega)
    have g2 : (1000000 * (A.toInt + 1 - B.toInt)).tdiv (A.toInt + 2) ≤ 1000000 := by
      rw [Int.tdiv_eq_ediv_of_nonneg (by omega)]
      exact Int.ediv_le_of_le_mul (by omega) (by omega)
    unfold xrg
    rw [Int32.le_iff_toInt_le, Int32.le_iff_toInt_le, j_i32 (by omega) (by omega), hq, z, m6]
    exact ⟨g1, g2⟩
  · exact ⟨by decide, by decide⟩
/-- the class's quotient -/
theorem i64_z {x : Int32} (q : x.toInt64 = 0) : x = 0 := by
  have q2 := congrArg Int64.toInt q
  rw [Int32.toInt_toInt64] at q2
  rw [← Int32.toInt_inj, q2]
  rfl
theorem dv32 (a b : Int32) : (a.toInt64 / b.toInt64).toInt32 = a / b := by
  rw [← Int32.toInt_inj, Int64.toInt_toInt32, Int64.toInt_div, Int32.toInt_toInt64, Int32.toInt_toInt64, Int32.toInt_div]
  exact Int.bmod_bmod_of_dvd (by decide)
theorem cut_n {l : Int64} {x : Int32} {m : xMem} (h : ¬ x = 0) : F_X9_cut l x m = some ((l / x.toInt64).toInt32, m) := by
  unfold F_X9_cut
  rw [if_neg h, if_neg (fun q => h (i64_z q))]
theorem cut_v {a x : Int32} {m : xMem} : F_X9_cut a.toInt64 x m = some (if x = 0 then 0 else a / x, m) := by
  by_cases h : x = 0
  · unfold F_X9_cut
    rw [if_pos h, if_pos h]
  · rw [cut_n h, dv32, if_neg h]
theorem rt_c {A B : Int32} {t : Nat} {m : xMem} (ht : t ≤ 600) (hA : xrg A 0 (Int32.ofNat (99 * t))) (hB : xrg B 0 (Int32.ofNat t)) : F_X9_cut ((1000000 : Int64) * (if (0 : Int32) < A + 1 - B then A + 1 - B else 0).toInt64) (A + 2) m = some (rtv A B, m) := by
  have hz : ¬ A + 2 = 0 := fun q => (rt_q ht hA hB).1 (by rw [q]; rfl)
  rw [cut_n hz]
  have e0 : ((1000000 : Int64) * (0 : Int32).toInt64 / (A + 2).toInt64).toInt32 = 0 := by
    have z : (1000000 : Int64) * (0 : Int32).toInt64 = 0 := by decide
    have z6 : (0 : Int64).toInt = 0 := rfl
    have q : ((0 : Int64) / (A + 2).toInt64).toInt = 0 := by rw [j_div (by rw [z6]; decide), z6, Int.zero_tdiv]
    rw [z, ← Int32.toInt_inj, j_i32 (by rw [q]; decide) (by rw [q]; decide), q]
    rfl
  unfold rtv
  by_cases h : (0 : Int32) < A + 1 - B
  · rw [if_pos h, if_pos (Int32.le_of_lt h)]
  · rw [if_neg h, e0]
    by_cases g : 0 ≤ A + 1 - B
    · have e : A + 1 - B = 0 := Int32.le_antisymm (Int32.not_lt.mp h) g
      rw [if_pos g, e, e0]
    · rw [if_neg g]
def chv (r : Int64) : Nat → Int64 → Int64
  | 0, l => l
  | n + 1, l => chv r n (l * r / 1000000)
/-- a fact's rate and chance, off the class's rows -/
def rtf (I : xI) (i : Nat) : Int32 := rtv (I ag_facts_kindYears (I ag_facts_kind i).toNatClampNeg) (I ag_facts_kindChanges (I ag_facts_kind i).toNatClampNeg)
def chf (I : xI) (nw i : Nat) : Int32 := (chv (rtf I i).toInt64 (nw - (I ag_facts_year i).toNatClampNeg) 1000000).toInt32
section RT
variable {t nf nw nl ne tp : Nat} {n : Nat → Nat} {m : xMem}
theorem c_rateOf (ht : t ≤ 600) (H : xRel t nf nw nl ne tp n m.1) {k : Nat} (hk : k < 6) : F_X2_rateOf (Int32.ofNat k) m = some (rtv (m.1 ag_facts_kindYears k) (m.1 ag_facts_kindChanges k), m) := by
  obtain ⟨⟨q1, q2⟩, q3, q4⟩ := H.2.2.1 k hk
  have hi : xin (Int32.ofNat k) 6 = true := o_in (by omega) (by omega)
  have hn : (Int32.ofNat k).toNatClampNeg = k := o_nat (by omega)
  have e1 := rt_c (m := m) ht q2 q4
  unfold F_X2_rateOf
  rw [hn, if_pos hi, if_pos hi, if_pos hi, e1]
  rfl
theorem m_rateOf (ht : t ≤ 600) (H : xRel t nf nw nl ne tp n m.1) {k : Nat} (hk : k < 6) : F_X10_rateOf (Int32.ofNat k) m = some (rtv (m.1 ag_facts_kindYears k) (m.1 ag_facts_kindChanges k), m) := by
  obtain ⟨⟨q1, q2⟩, q3, q4⟩ := H.2.2.1 k hk
  have hi : xin (Int32.ofNat k) 6 = true := o_in (by omega) (by omega)
  have hn : (Int32.ofNat k).toNatClampNeg = k := o_nat (by omega)
  have e1 := (rt_q ht q2 q4).1
  unfold F_X10_rateOf rtv
  simp (decide := true) only [Option.bind_some, ↓reduceIte, xst_f, xst_k, xst_s, ne_eq, not_false_eq_true, not_true_eq_false, and_self, and_true, true_and, and_false, false_and, or_true, true_or, or_false, false_or, hi, hn, ← q1, ← q3, e1]
  split <;> rfl
theorem pr_rate (ht : t ≤ 600) (H : xRel t nf nw nl ne tp n m.1) (x : Int32) : xPair (F_X9_rate x) (F_X10_rate x) t m := by
  by_cases h : 0 ≤ x ∧ x ≤ 5
  · obtain ⟨k, hk, rfl⟩ := g_ixl (n := 5) h (by decide)
    have k1 : ¬ Int32.ofNat k < 0 := by grind
    have H' := H.keep (k_th m 0)
    refine xPair.keep (m1 := m) (m2 := (xst m.1 am fGuideBookModel_thrown 0, m.2)) (v := rtv (m.1 ag_facts_kindYears k) (m.1 ag_facts_kindChanges k)) ht H ?_ (xKeep.refl m) ?_ (k_th m 0)
    · simp (decide := true) only [Option.bind_some, ↓reduceIte, xst_f, xst_k, xst_s, ne_eq, not_false_eq_true, not_true_eq_false, and_self, and_true, true_and, and_false, false_and, or_true, true_or, or_false, false_or, F_X9_rate, g_isKind, h, c_rateOf ht H (show k < 6 by omega)]
    · have e := m_rateOf ht H' (show k < 6 by omega)
      simp (decide := true) only [Option.bind_some, ↓reduceIte, xst_f, xst_k, xst_s, ne_eq, not_false_eq_true, not_true_eq_false, and_self, and_true, true_and, and_false, false_and, or_true, true_or, or_false, false_or, ] at e
      simp (decide := true) only [Option.bind_some, ↓reduceIte, xst_f, xst_k, xst_s, ne_eq, not_false_eq_true, not_true_eq_false, and_self, and_true, true_and, and_false, false_and, or_true, true_or, or_false, false_or, F_X10_rate, k1, h.2, e]
  · refine xPair.keep (m1 := m) (m2 := (xst m.1 am fGuideBookModel_thrown 0, m.2)) (v := -1) ht H ?_ (xKeep.refl m) ?_ (k_th m 0)
    · simp (decide := true) only [Option.bind_some, ↓reduceIte, xst_f, xst_k, xst_s, ne_eq, not_false_eq_true, not_true_eq_false, and_self, and_true, true_and, and_false, false_and, or_true, true_or, or_false, false_or, F_X9_rate, g_isKind, h]
    · by_cases k1 : x < 0
      · simp (decide := true) only [Option.bind_some, ↓reduceIte, xst_f, xst_k, xst_s, ne_eq, not_false_eq_true, not_true_eq_false, and_self, and_true, true_and, and_false, false_and, or_true, true_or, or_false, false_or, F_X10_rate, k1, J_X10_rate_14]
      · have k2 : ¬ x ≤ 5 := by grind
        simp (decide := true) only [Option.bind_some, ↓reduceIte, xst_f, xst_k, xst_s, ne_eq, not_false_eq_true, not_true_eq_false, and_self, and_true, true_and, and_false, false_and, or_true, true_or, or_false, false_or, F_X10_rate, k1, k2, J_X10_rate_14]
theorem c_chl (hb1 : m.1 ag_facts fFacts_now = Int32.ofNat nw) (hw : nw ≤ 99) (r : Int64) : ∀ (k a fk : Nat) (l : Int64), a + k = nw → k < fk → L_X2_chanceOf_25 r fk l (Int32.ofNat a) m = some ((chv r k l).toInt32, m)
  | 0, a, fk + 1, l, h, _ => by
    have q : Int32.ofNat nw ≤ Int32.ofNat a := (o_le (by omega) (by omega)).mpr (by omega)
    simp (decide := true) only [Option.bind_some, ↓reduceIte, xst_f, xst_k, xst_s, ne_eq, not_false_eq_true, not_true_eq_false, and_self, and_true, true_and, and_false, false_and, or_true, true_or, or_false, false_or, L_X2_chanceOf_25, hb1, q, chv]
  | k + 1, a, fk + 1, l, h, hf => by
    have q : ¬ Int32.ofNat nw ≤ Int32.ofNat a := fun q => by have := (o_le (by omega) (by omega)).mp q; omega
    have := c_chl hb1 hw r k (a + 1) fk (l * r / 1000000) (by omega) (by omega)
    simp (decide := true) only [Option.bind_some, ↓reduceIte, xst_f, xst_k, xst_s, ne_eq, not_false_eq_true, not_true_eq_false, and_self, and_true, true_and, and_false, false_and, or_true, true_or, or_false, false_or, L_X2_chanceOf_25, hb1, q, chv, o_succ, this]
theorem m_chl (ht : t ≤ 600) (H : xRel t nf nw nl ne tp n m.1) {i : Nat} (hi : i < nf) : ∀ (k a fk : Nat) (l : Int64), a + k = nw → k < fk → L_X10_chanceOf_12 (Int32.ofNat i) fk l (Int32.ofNat a) m = some ((chv (rtf m.1 i).toInt64 k l).toInt32, m)
  | 0, a, fk + 1, l, h, _ => by
    obtain ⟨h1, h2, h3, h4, h5, h6, h7, h8, h9, h10⟩ := id H
    have hb := h1.1
    obtain ⟨-, ⟨a1, a2⟩, ⟨b1, b2⟩, ⟨c1, c2⟩, ⟨d1, d2⟩, e1, e2⟩ := id h1
    have q : Int32.ofNat nw ≤ Int32.ofNat a := (o_le (by omega) (by omega)).mpr (by omega)
    simp (decide := true) only [Option.bind_some, ↓reduceIte, xst_f, xst_k, xst_s, ne_eq, not_false_eq_true, not_true_eq_false, and_self, and_true, true_and, and_false, false_and, or_true, true_or, or_false, false_or, L_X10_chanceOf_12, b2, q, chv]
  | k + 1, a, fk + 1, l, h, hf => by
    have hrec := m_chl ht H hi k (a + 1) fk (l * (rtf m.1 i).toInt64 / 1000000) (by omega) (by omega)
    obtain ⟨h1, h2, h3, h4, h5, h6, h7, h8, h9, h10⟩ := id H
    have hb := h1.1
    obtain ⟨-, ⟨a1, a2⟩, ⟨b1, b2⟩, ⟨c1, c2⟩, ⟨d1, d2⟩, e1, e2⟩ := id h1
    have q : ¬ Int32.ofNat nw ≤ Int32.ofNat a := fun q => by have := (o_le (by omega) (by omega)).mp q; omega
    have hi1 : xin (Int32.ofNat i) 60 = true := o_in (by omega) (by omega)
    have hn : (Int32.ofNat i).toNatClampNeg = i := o_nat (by omega)
    obtain ⟨⟨q1, q2⟩, -⟩ := h2 i hi
    obtain ⟨kk, hkk, hke⟩ := g_rx (n := 5) q2 (by decide)
    have e := m_rateOf ht H (show kk < 6 by omega)
    have hrt : rtf m.1 i = rtv (m.1 ag_facts_kindYears kk) (m.1 ag_facts_kindChanges kk) := by
      unfold rtf; rw [hke, o_nat (by omega)]
    rw [hrt] at hrec ⊢
    simp (decide := true) only [Option.bind_some, ↓reduceIte, xst_f, xst_k, xst_s, ne_eq, not_false_eq_true, not_true_eq_false, and_self, and_true, true_and, and_false, false_and, or_true, true_or, or_false, false_or, L_X10_chanceOf_12, b2, q, chv, hi1, hn, ← q1, hke, e, o_succ, hrec]
theorem c_chanceOf (ht : t ≤ 600) (H : xRel t nf nw nl ne tp n m.1) {i : Nat} (hi : i < nf) : F_X2_chanceOf (Int32.ofNat i) m = some (chf m.1 nw i, m) := by
  obtain ⟨h1, h2, h3, h4, h5, h6, h7, h8, h9, h10⟩ := id H
  have hb := h1.1
  obtain ⟨-, ⟨a1, a2⟩, ⟨b1, b2⟩, ⟨c1, c2⟩, ⟨d1, d2⟩, e1, e2⟩ := id h1
  have hi1 : xin (Int32.ofNat i) 60 = true := o_in (by omega) (by omega)
  have hn : (Int32.ofNat i).toNatClampNeg = i := o_nat (by omega)
  obtain ⟨⟨q1, q2⟩, -, -, ⟨q3, q4⟩, -⟩ := h2 i hi
  obtain ⟨kk, hkk, hke⟩ := g_rx (n := 5) q2 (by decide)
  obtain ⟨y, hy, hye⟩ := g_rx (n := nw) q4 (by omega)
  have e := c_rateOf ht H (show kk < 6 by omega)
  have l := c_chl b1 hb.2.1 (rtv (m.1 ag_facts_kindYears kk) (m.1 ag_facts_kindChanges kk)).toInt64 (nw - y) y xfuel 1000000 (by omega) (by rw [xfuel_eq]; omega)
  unfold chf rtf
  rw [hke, hye, o_nat (show kk < 2147483648 by omega), o_nat (show y < 2147483648 by omega)]
  simp (decide := true) only [Option.bind_some, ↓reduceIte, xst_f, xst_k, xst_s, ne_eq, not_false_eq_true, not_true_eq_false, and_self, and_true, true_and, and_false, false_and, or_true, true_or, or_false, false_or, F_X2_chanceOf, hi1, hn, hke, e, hye, l]
theorem m_chanceOf (ht : t ≤ 600) (H : xRel t nf nw nl ne tp n m.1) {i : Nat} (hi : i < nf) : F_X10_chanceOf (Int32.ofNat i) m = some (chf m.1 nw i, m) := by
  obtain ⟨h1, h2, h3, h4, h5, h6, h7, h8, h9, h10⟩ := id H
  have hb := h1.1
  obtain ⟨-, ⟨a1, a2⟩, ⟨b1, b2⟩, ⟨c1, c2⟩, ⟨d1, d2⟩, e1, e2⟩ := id h1
  have hi1 : xin (Int32.ofNat i) 60 = true := o_in (by omega) (by omega)
  have hn : (Int32.ofNat i).toNatClampNeg = i := o_nat (by omega)
  obtain ⟨-, -, -, ⟨q3, q4⟩, -⟩ := h2 i hi
  obtain ⟨y, hy, hye⟩ := g_rx (n := nw) q4 (by omega)
  have l := m_chl ht H hi (nw - y) y xfuel 1000000 (by omega) (by rw [xfuel_eq]; omega)
  unfold chf
  rw [hye, o_nat (show y < 2147483648 by omega)]
  simp (decide := true) only [Option.bind_some, ↓reduceIte, xst_f, xst_k, xst_s, ne_eq, not_false_eq_true, not_true_eq_false, and_self, and_true, true_and, and_false, false_and, or_true, true_or, or_false, false_or, F_X10_chanceOf, hi1, hn, ← q3, hye, l]
theorem pr_chance (ht : t ≤ 600) (H : xRel t nf nw nl ne tp n m.1) (x : Int32) : xPair (F_X9_chance x) (F_X10_chance x) t m := by
  obtain ⟨h1, h2, h3, h4, h5, h6, h7, h8, h9, h10⟩ := id H
  have hb := h1.1
  obtain ⟨-, ⟨a1, a2⟩, ⟨b1, b2⟩, ⟨c1, c2⟩, ⟨d1, d2⟩, e1, e2⟩ := id h1
  by_cases h : 0 ≤ x ∧ x < Int32.ofNat nf
  · obtain ⟨k, hk, rfl⟩ := g_ix h (by omega)
    have H' := H.keep (k_th m 0)
    refine xPair.keep (m1 := m) (m2 := (xst m.1 am fGuideBookModel_thrown 0, m.2)) (v := chf m.1 nw k) ht H ?_ (xKeep.refl m) ?_ (k_th m 0)
    · simp (decide := true) only [Option.bind_some, ↓reduceIte, xst_f, xst_k, xst_s, ne_eq, not_false_eq_true, not_true_eq_false, and_self, and_true, true_and, and_false, false_and, or_true, true_or, or_false, false_or, F_X9_chance, g_has, a1, h, c_chanceOf ht H hk]
    · have e := m_chanceOf ht H' hk
      simp (decide := true) only [Option.bind_some, ↓reduceIte, xst_f, xst_k, xst_s, ne_eq, not_false_eq_true, not_true_eq_false, and_self, and_true, true_and, and_false, false_and, or_true, true_or, or_false, false_or, F_X10_chance, g_mFact, a2, h, e]
      rfl
  · refine xPair.keep (m1 := m) (m2 := (xst m.1 am fGuideBookModel_thrown 0, m.2)) (v := -1) ht H ?_ (xKeep.refl m) ?_ (k_th m 0)
    · simp (decide := true) only [Option.bind_some, ↓reduceIte, xst_f, xst_k, xst_s, ne_eq, not_false_eq_true, not_true_eq_false, and_self, and_true, true_and, and_false, false_and, or_true, true_or, or_false, false_or, F_X9_chance, g_has, a1, h]
    · simp (decide := true) only [Option.bind_some, ↓reduceIte, xst_f, xst_k, xst_s, ne_eq, not_false_eq_true, not_true_eq_false, and_self, and_true, true_and, and_false, false_and, or_true, true_or, or_false, false_or, F_X10_chance, g_mFact, a2, h]
/-- a chance lies between none and the million -/
theorem ch_rg {r : Int64} (h0 : 0 ≤ r.toInt) (h1 : r.toInt ≤ 1000000) : ∀ (k : Nat) (l : Int64), 0 ≤ l.toInt → l.toInt ≤ 1000000 → 0 ≤ (chv r k l).toInt ∧ (chv r k l).toInt ≤ 1000000
  | 0, l, a, b => ⟨a, b⟩
  | k + 1, l, a, b => by
    have p0 : 0 ≤ l.toInt * r.toInt := Int.mul_nonneg a h0
    have p1 : l.toInt * r.toInt ≤ 1000000 * 1000000 := Int.mul_le_mul b h1 h0 (by decide)
    have m6 : (1000000 : Int64).toInt = 1000000 := rfl
    have e : (l * r).toInt = l.toInt * r.toInt := j_mul (by omega) (by omega)
    have e2 : (l * r / 1000000).toInt = (l.toInt * r.toInt) / 1000000 := by
      rw [j_div (by rw [e]; omega), e, m6, Int.tdiv_eq_ediv_of_nonneg p0]
    refine ch_rg h0 h1 k _ ?_ ?_
    · rw [e2]; omega
    · rw [e2]; omega
theorem chf_rg (ht : t ≤ 600) (H : xRel t nf nw nl ne tp n m.1) {i : Nat} (hi : i < nf) : 0 ≤ (chf m.1 nw i).toInt ∧ (chf m.1 nw i).toInt ≤ 1000000 := by
  obtain ⟨⟨-, q2⟩, -⟩ := H.2.1 i hi
  obtain ⟨kk, hkk, hke⟩ := g_rx (n := 5) q2 (by decide)
  obtain ⟨⟨-, r2⟩, -, r4⟩ := H.2.2.1 kk (by omega)
  obtain ⟨g1, g2⟩ := rt_rg ht r2 r4
  have hrt : rtf m.1 i = rtv (m.1 ag_facts_kindYears kk) (m.1 ag_facts_kindChanges kk) := by
    unfold rtf; rw [hke, o_nat (by omega)]
  have z : (0 : Int32).toInt = 0 := rfl
  have m6 : (1000000 : Int32).toInt = 1000000 := rfl
  have k6 : (1000000 : Int64).toInt = 1000000 := rfl
  rw [Int32.le_iff_toInt_le] at g1 g2
  rw [z] at g1
  rw [m6] at g2
  have c := ch_rg (r := (rtf m.1 i).toInt64) (by rw [Int32.toInt_toInt64, hrt]; exact g1) (by rw [Int32.toInt_toInt64, hrt]; exact g2) (nw - (m.1 ag_facts_year i).toNatClampNeg) 1000000 (by rw [k6]; decide) (by rw [k6]; decide)
  unfold chf
  rw [j_i32 (by omega) (by omega)]
  exact c
end RT
