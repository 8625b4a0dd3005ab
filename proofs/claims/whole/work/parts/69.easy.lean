theorem o_mul {a b : Nat} : Int32.ofNat a * Int32.ofNat b = Int32.ofNat (a * b) := (Int32.ofNat_mul a b).symm
theorem o_add {a b : Nat} : Int32.ofNat a + Int32.ofNat b = Int32.ofNat (a + b) := (Int32.ofNat_add a b).symm
theorem o_5 {a : Nat} : (5 : Int32) * Int32.ofNat a = Int32.ofNat (5 * a) := o_mul (a := 5)
theorem o_60 {a : Nat} : (60 : Int32) * Int32.ofNat a = Int32.ofNat (60 * a) := o_mul (a := 60)
theorem o_10 {a : Nat} : (10 : Int32) * Int32.ofNat a = Int32.ofNat (10 * a) := o_mul (a := 10)
section EA
variable {t nf nw nl ne tp : Nat} {n : Nat → Nat} {m : xMem}
def sh (I : xI) (w : Nat) : Nat → Nat → Int32 → Int32 → Int32 × Int32
  | 0, _, s, c => (s, c)
  | k + 1, a, s, c => if I (19 + a) w = -1 then sh I w k (a + 1) s c else if I (19 + a) 0 = -1 then sh I w k (a + 1) s c else sh I w k (a + 1) (s + (I (19 + a) w - I (19 + a) 0)) (c + 1)
/-- the shift -/
def shv (I : xI) (w : Nat) : Int32 := if (sh I w 10 0 0 0).2 = 0 then 0 else (sh I w 10 0 0 0).1 / (sh I w 10 0 0 0).2
theorem c_sh {w : Nat} (hw : w < 5) (c : Int32 → Int32 → xMem → Option (Int32 × xMem)) : ∀ (k a fk : Nat) (s d : Int32), a + k = 10 → k < fk → L_X4_shiftOf_7 (Int32.ofNat w) c fk s d (Int32.ofNat a) m = c (sh m.1 w k a s d).1 (sh m.1 w k a s d).2 m
  | 0, a, fk + 1, s, d, h, _ => by
    have q : 10 ≤ Int32.ofNat a := (o_le (a := 10) (by omega) (by omega)).mpr (by omega)
    simp (decide := true) only [Option.bind_some, ↓reduceIte, xst_f, xst_k, xst_s, ne_eq, not_false_eq_true, not_true_eq_false, and_self, and_true, true_and, and_false, false_and, or_true, true_or, or_false, false_or, L_X4_shiftOf_7, q, sh]
  | k + 1, a, fk + 1, s, d, h, hf => by
    have hrec := fun s d => c_sh hw c k (a + 1) fk s d (by omega) (by omega)
    have q : ¬ 10 ≤ Int32.ofNat a := fun q => by have := (o_le (a := 10) (by omega) (by omega)).mp q; omega
    have hi : xin (Int32.ofNat a) 10 = true := o_in (by omega) (by omega)
    have hn : (Int32.ofNat a).toNatClampNeg = a := o_nat (by omega)
    have hi' : xin (Int32.ofNat w) 5 = true := o_in (by omega) (by omega)
    have hn' : (Int32.ofNat w).toNatClampNeg = w := o_nat (by omega)
    have h0 : (0 : Int32).toNatClampNeg = 0 := rfl
    have hx0 : xin 0 5 = true := rfl
    by_cases g : m.1 (19 + a) w = -1
    · simp (decide := true) only [Option.bind_some, ↓reduceIte, xst_f, xst_k, xst_s, ne_eq, not_false_eq_true, not_true_eq_false, and_self, and_true, true_and, and_false, false_and, or_true, true_or, or_false, false_or, L_X4_shiftOf_7, q, hi, hn, hi', hn', h0, hx0, g, J_X4_shiftOf_59, o_succ, hrec, sh]
    · by_cases g2 : m.1 (19 + a) 0 = -1
      · simp (decide := true) only [Option.bind_some, ↓reduceIte, xst_f, xst_k, xst_s, ne_eq, not_false_eq_true, not_true_eq_false, and_self, and_true, true_and, and_false, false_and, or_true, true_or, or_false, false_or, L_X4_shiftOf_7, q, hi, hn, hi', hn', h0, hx0, g, g2, J_X4_shiftOf_59, o_succ, hrec, sh]
      · simp (decide := true) only [Option.bind_some, ↓reduceIte, xst_f, xst_k, xst_s, ne_eq, not_false_eq_true, not_true_eq_false, and_self, and_true, true_and, and_false, false_and, or_true, true_or, or_false, false_or, L_X4_shiftOf_7, q, hi, hn, hi', hn', h0, hx0, g, g2, J_X4_shiftOf_59, o_succ, hrec, sh]
theorem c_shiftOf {w : Nat} (hw : w < 5) : F_X4_shiftOf (Int32.ofNat w) m = some (shv m.1 w, m) := by
  unfold F_X4_shiftOf
  rw [o_zero, c_sh hw _ 10 0 xfuel _ _ rfl (by decide)]
  unfold shv
  rw [← o_zero, cut_v]
  rfl
theorem m_sh (H : I_mark m.1) {w : Nat} (hw : w < 5) (c : Int32 → Int32 → xMem → Option (Int32 × xMem)) : ∀ (k a fk : Nat) (s d : Int32), a + k = 10 → k < fk → L_X10_shiftOf_7 (Int32.ofNat w) c fk s d (Int32.ofNat a) m = c (sh m.1 w k a s d).1 (sh m.1 w k a s d).2 m
  | 0, a, fk + 1, s, d, h, _ => by
    have q : 10 ≤ Int32.ofNat a := (o_le (a := 10) (by omega) (by omega)).mpr (by omega)
    simp (decide := true) only [Option.bind_some, ↓reduceIte, xst_f, xst_k, xst_s, ne_eq, not_false_eq_true, not_true_eq_false, and_self, and_true, true_and, and_false, false_and, or_true, true_or, or_false, false_or, L_X10_shiftOf_7, q, sh]
  | k + 1, a, fk + 1, s, d, h, hf => by
    have hrec := fun s d => m_sh H hw c k (a + 1) fk s d (by omega) (by omega)
    have q : ¬ 10 ≤ Int32.ofNat a := fun q => by have := (o_le (a := 10) (by omega) (by omega)).mp q; omega
    have hi : xin (Int32.ofNat (5 * a)) 50 = true := o_in (by omega) (by omega)
    have hn : (Int32.ofNat (5 * a)).toNatClampNeg = 5 * a := o_nat (by omega)
    have hi' : xin (Int32.ofNat (5 * a + w)) 50 = true := o_in (by omega) (by omega)
    have hn' : (Int32.ofNat (5 * a + w)).toNatClampNeg = 5 * a + w := o_nat (by omega)
    obtain ⟨p1, p2, p3⟩ := H a (by omega) w hw
    obtain ⟨r1, r2, r3⟩ := H a (by omega) 0 (by omega)
    rw [Nat.add_zero] at r1
    by_cases g2 : m.1 (19 + a) 0 = -1
    · have g2' : m.1 (19 + a) 0 < 0 := by rw [g2]; decide
      by_cases g : m.1 (19 + a) w = -1
      · simp (decide := true) only [Option.bind_some, ↓reduceIte, xst_f, xst_k, xst_s, ne_eq, not_false_eq_true, not_true_eq_false, and_self, and_true, true_and, and_false, false_and, or_true, true_or, or_false, false_or, L_X10_shiftOf_7, q, o_5, hi, hn, ← r1, g2', J_X10_shiftOf_67, o_succ, hrec, sh, g]
      · simp (decide := true) only [Option.bind_some, ↓reduceIte, xst_f, xst_k, xst_s, ne_eq, not_false_eq_true, not_true_eq_false, and_self, and_true, true_and, and_false, false_and, or_true, true_or, or_false, false_or, L_X10_shiftOf_7, q, o_5, hi, hn, ← r1, g2', J_X10_shiftOf_67, o_succ, hrec, sh, g, g2]
    · have g2' : ¬ m.1 (19 + a) 0 < 0 := by grind
      by_cases g : m.1 (19 + a) w = -1
      · have g' : m.1 (19 + a) w < 0 := by rw [g]; decide
        simp (decide := true) only [Option.bind_some, ↓reduceIte, xst_f, xst_k, xst_s, ne_eq, not_false_eq_true, not_true_eq_false, and_self, and_true, true_and, and_false, false_and, or_true, true_or, or_false, false_or, L_X10_shiftOf_7, q, o_5, o_add, hi, hn, hi', hn', ← r1, ← p1, g2', g', J_X10_shiftOf_67, o_succ, hrec, sh, g]
      · have g' : ¬ m.1 (19 + a) w < 0 := by grind
        simp (decide := true) only [Option.bind_some, ↓reduceIte, xst_f, xst_k, xst_s, ne_eq, not_false_eq_true, not_true_eq_false, and_self, and_true, true_and, and_false, false_and, or_true, true_or, or_false, false_or, L_X10_shiftOf_7, q, o_5, o_add, hi, hn, hi', hn', ← r1, ← p1, g2', g', J_X10_shiftOf_67, o_succ, hrec, sh, g, g2]
theorem m_shiftOf (H : I_mark m.1) {w : Nat} (hw : w < 5) : F_X10_shiftOf (Int32.ofNat w) m = some (shv m.1 w, m) := by
  unfold F_X10_shiftOf
  rw [o_zero, m_sh H hw _ 10 0 xfuel _ _ rfl (by decide)]
  unfold shv
  rw [← o_zero]
  by_cases h : (sh m.1 w 10 0 0 0).2 = 0
  · rw [if_pos h, if_pos h]
  · rw [if_neg h, if_neg h, if_neg h]
/-- a call that may throw: what the law then compares -/
def xPairT (f g : xMem → Option (Int32 × xMem)) (t : Nat) (m : xMem) : Prop :=
  ∃ k v m1 m2, f m = some (k, m1) ∧ g m1 = some (v, m2) ∧ m2.1 am fGuideBookModel_thrown = k ∧ (k = 0 → m2.2 aout 0 = v.toInt64) ∧ (∃ nf nw nl ne tp n, xRel (t + 1) nf nw nl ne tp n m2.1) ∧ xSameT m m2
theorem xPairT.keep {f g : xMem → Option (Int32 × xMem)} {t : Nat} {m m1 m2 : xMem} {k v : Int32} {nf nw nl ne tp : Nat} {n : Nat → Nat} (ht : t ≤ 600) (H : xRel t nf nw nl ne tp n m.1) (h1 : f m = some (k, m1)) (k1 : xKeep m m1) (h2 : g m1 = some (v, m2)) (k2 : xKeep m1 m2) (q : m2.1 am fGuideBookModel_thrown = k) (q' : k = 0 → m2.2 aout 0 = v.toInt64) : xPairT f g t m :=
  ⟨k, v, m1, m2, h1, h2, q, q', ⟨nf, nw, nl, ne, tp, n, (H.keep (k1.trans k2)).up ht⟩, (k1.trans k2).same⟩
theorem pr_shift (ht : t ≤ 600) (H : xRel t nf nw nl ne tp n m.1) (x : Int32) : xPairT (F_L_shift x) (F_X10_shift x) t m := by
  by_cases h : 0 ≤ x ∧ x ≤ 4
  · obtain ⟨w, hw, rfl⟩ := g_ixl (n := 4) h (by decide)
    have k1 : ¬ Int32.ofNat w < 0 := by grind
    have k2 : ¬ 4 < Int32.ofNat w := by grind
    have H' := (H.keep (k_th m 0)).2.2.2.2.2.2.1
    have e := m_shiftOf (m := (xst m.1 am fGuideBookModel_thrown 0, xsl m.2 aout 0 (shv m.1 w).toInt64)) H' (show w < 5 by omega)
    have eq0 : shv (xst m.1 am fGuideBookModel_thrown 0) w = shv m.1 w := rfl
    rw [eq0] at e
    refine xPairT.keep (m1 := (m.1, xsl m.2 aout 0 (shv m.1 w).toInt64)) (m2 := (xst m.1 am fGuideBookModel_thrown 0, xsl m.2 aout 0 (shv m.1 w).toInt64)) (k := 0) (v := shv m.1 w) ht H ?_ ((xKeep.refl m).sl (by decide)) ?_ (k_th _ 0) ?_ ?_
    · simp (decide := true) only [Option.bind_some, ↓reduceIte, xst_f, xst_k, xst_s, ne_eq, not_false_eq_true, not_true_eq_false, and_self, and_true, true_and, and_false, false_and, or_true, true_or, or_false, false_or, F_L_shift, k1, k2, F_X9_shift, g_isWalker, h, c_shiftOf (show w < 5 by omega)]
    · simp (decide := true) only [Option.bind_some, ↓reduceIte, xst_f, xst_k, xst_s, ne_eq, not_false_eq_true, not_true_eq_false, and_self, and_true, true_and, and_false, false_and, or_true, true_or, or_false, false_or, F_X10_shift, k1, k2, e, Int32.le_refl]
    · simp (decide := true) only [Option.bind_some, ↓reduceIte, xst_f, xst_k, xst_s, ne_eq, not_false_eq_true, not_true_eq_false, and_self, and_true, true_and, and_false, false_and, or_true, true_or, or_false, false_or, ]
    · intro _
      show xsl m.2 aout 0 _ aout 0 = _
      exact xsl_s
  · refine xPairT.keep (m1 := m) (m2 := (xst m.1 am fGuideBookModel_thrown 1, m.2)) (k := 1) (v := 0) ht H ?_ (xKeep.refl m) ?_ (k_th _ 1) ?_ ?_
    · have q : x < 0 ∨ 4 < x := by grind
      simp (decide := true) only [Option.bind_some, ↓reduceIte, xst_f, xst_k, xst_s, ne_eq, not_false_eq_true, not_true_eq_false, and_self, and_true, true_and, and_false, false_and, or_true, true_or, or_false, false_or, F_L_shift, q]
    · have d1 : ¬ ((1 : Int32) ≤ 0) := by decide
      by_cases k1 : x < 0
      · simp (decide := true) only [Option.bind_some, ↓reduceIte, xst_f, xst_k, xst_s, ne_eq, not_false_eq_true, not_true_eq_false, and_self, and_true, true_and, and_false, false_and, or_true, true_or, or_false, false_or, F_X10_shift, k1, d1]
      · have k2 : 4 < x := by grind
        simp (decide := true) only [Option.bind_some, ↓reduceIte, xst_f, xst_k, xst_s, ne_eq, not_false_eq_true, not_true_eq_false, and_self, and_true, true_and, and_false, false_and, or_true, true_or, or_false, false_or, F_X10_shift, k1, k2, d1]
    · simp (decide := true) only [Option.bind_some, ↓reduceIte, xst_f, xst_k, xst_s, ne_eq, not_false_eq_true, not_true_eq_false, and_self, and_true, true_and, and_false, false_and, or_true, true_or, or_false, false_or, ]
    · intro q; cases q
theorem pr_look (ht : t ≤ 600) (H : xRel t nf nw nl ne tp n m.1) (x y : Int32) : xPairT (F_L_look x y) (F_X10_look x y) t m := by
  obtain ⟨h1, h2, h3, h4, h5, h6, h7, h8, h9, h10⟩ := id H
  have hb := h1.1
  obtain ⟨-, ⟨a1, a2⟩, ⟨b1, b2⟩, ⟨c1, c2⟩, ⟨d1, d2⟩, e1, e2⟩ := id h1
  by_cases h : (0 ≤ x ∧ x < Int32.ofNat nf) ∧ 0 ≤ y ∧ y ≤ 5
  · obtain ⟨f, hf, rfl⟩ := g_ix h.1 (by omega)
    have k1 : ¬ Int32.ofNat f < 0 := by grind
    have k2 : ¬ Int32.ofNat nf ≤ Int32.ofNat f := by grind
    have k3 : ¬ y < 0 := by grind
    have k4 : ¬ 5 < y := by grind
    have hi : xin (Int32.ofNat f) 60 = true := o_in (by omega) (by omega)
    have hn : (Int32.ofNat f).toNatClampNeg = f := o_nat (by omega)
    have hq : (0 ≤ Int32.ofNat f ∧ Int32.ofNat f < Int32.ofNat nf) = True := eq_true h.1
    obtain ⟨⟨p1, -⟩, ⟨p2, -⟩, ⟨p3, -⟩, ⟨p4, -⟩, ⟨p5, -⟩, ⟨p6, -⟩⟩ := h2 f hf
    have hy : y = 0 ∨ y = 1 ∨ y = 2 ∨ y = 3 ∨ y = 4 ∨ y = 5 := by grind
    have go : ∀ v, F_X9_look (Int32.ofNat f) y m = some (v, m) → F_X10_look (Int32.ofNat f) y (m.1, xsl m.2 aout 0 v.toInt64) = some (v, (xst m.1 am fGuideBookModel_thrown 0, xsl m.2 aout 0 v.toInt64)) → xPairT (F_L_look (Int32.ofNat f) y) (F_X10_look (Int32.ofNat f) y) t m := by
      intro v q1 q2
      refine xPairT.keep (k := 0) (v := v) ht H (m1 := (m.1, xsl m.2 aout 0 v.toInt64)) ?_ ((xKeep.refl m).sl (by decide)) q2 (k_th _ 0) ?_ ?_
      · simp (decide := true) only [Option.bind_some, ↓reduceIte, xst_f, xst_k, xst_s, ne_eq, not_false_eq_true, not_true_eq_false, and_self, and_true, true_and, and_false, false_and, or_true, true_or, or_false, false_or, F_L_look, a1, k1, k2, k3, k4, q1]
      · simp (decide := true) only [Option.bind_some, ↓reduceIte, xst_f, xst_k, xst_s, ne_eq, not_false_eq_true, not_true_eq_false, and_self, and_true, true_and, and_false, false_and, or_true, true_or, or_false, false_or, ]
      · intro _
        show xsl m.2 aout 0 _ aout 0 = _
        exact xsl_s
    have z0 : ((0 : Int32) ≤ 0) = True := by decide
    rcases hy with e | e | e | e | e | e <;> subst e
    · refine go (m.1 ag_facts_kind f) ?_ ?_ <;> simp (decide := true) only [Option.bind_some, ↓reduceIte, xst_f, xst_k, xst_s, ne_eq, not_false_eq_true, not_true_eq_false, and_self, and_true, true_and, and_false, false_and, or_true, true_or, or_false, false_or, F_X9_look, F_X10_look, g_has, g_mFact, a1, a2, hq, hi, hn, p1, z0]
    · refine go (m.1 ag_facts_place f) ?_ ?_ <;> simp (decide := true) only [Option.bind_some, ↓reduceIte, xst_f, xst_k, xst_s, ne_eq, not_false_eq_true, not_true_eq_false, and_self, and_true, true_and, and_false, false_and, or_true, true_or, or_false, false_or, F_X9_look, F_X10_look, g_has, g_mFact, a1, a2, hq, hi, hn, p2, z0]
    · refine go (m.1 ag_facts_value f) ?_ ?_ <;> simp (decide := true) only [Option.bind_some, ↓reduceIte, xst_f, xst_k, xst_s, ne_eq, not_false_eq_true, not_true_eq_false, and_self, and_true, true_and, and_false, false_and, or_true, true_or, or_false, false_or, F_X9_look, F_X10_look, g_has, g_mFact, a1, a2, hq, hi, hn, p3, z0]
    · refine go (m.1 ag_facts_year f) ?_ ?_ <;> simp (decide := true) only [Option.bind_some, ↓reduceIte, xst_f, xst_k, xst_s, ne_eq, not_false_eq_true, not_true_eq_false, and_self, and_true, true_and, and_false, false_and, or_true, true_or, or_false, false_or, F_X9_look, F_X10_look, g_has, g_mFact, a1, a2, hq, hi, hn, p4, z0]
    · refine go (m.1 ag_facts_length f) ?_ ?_ <;> simp (decide := true) only [Option.bind_some, ↓reduceIte, xst_f, xst_k, xst_s, ne_eq, not_false_eq_true, not_true_eq_false, and_self, and_true, true_and, and_false, false_and, or_true, true_or, or_false, false_or, F_X9_look, F_X10_look, g_has, g_mFact, a1, a2, hq, hi, hn, p5, z0]
    · refine go (m.1 ag_facts_worth f) ?_ ?_ <;> simp (decide := true) only [Option.bind_some, ↓reduceIte, xst_f, xst_k, xst_s, ne_eq, not_false_eq_true, not_true_eq_false, and_self, and_true, true_and, and_false, false_and, or_true, true_or, or_false, false_or, F_X9_look, F_X10_look, g_has, g_mFact, a1, a2, hq, hi, hn, p6, z0]
  · refine xPairT.keep (m1 := m) (m2 := (xst m.1 am fGuideBookModel_thrown 1, m.2)) (k := 1) (v := 0) ht H ?_ (xKeep.refl m) ?_ (k_th _ 1) ?_ ?_
    · have q : x < 0 ∨ Int32.ofNat nf ≤ x ∨ y < 0 ∨ 5 < y := by grind
      simp (decide := true) only [Option.bind_some, ↓reduceIte, xst_f, xst_k, xst_s, ne_eq, not_false_eq_true, not_true_eq_false, and_self, and_true, true_and, and_false, false_and, or_true, true_or, or_false, false_or, F_L_look, a1, q]
    · have d1 : ¬ ((1 : Int32) ≤ 0) := by decide
      by_cases g : 0 ≤ x ∧ x < Int32.ofNat nf
      · have gq : (0 ≤ x ∧ x < Int32.ofNat nf) = True := eq_true g
        by_cases k3 : y < 0
        · simp (decide := true) only [Option.bind_some, ↓reduceIte, xst_f, xst_k, xst_s, ne_eq, not_false_eq_true, not_true_eq_false, and_self, and_true, true_and, and_false, false_and, or_true, true_or, or_false, false_or, F_X10_look, g_mFact, a2, gq, k3, d1]
        · have k4 : 5 < y := by grind
          simp (decide := true) only [Option.bind_some, ↓reduceIte, xst_f, xst_k, xst_s, ne_eq, not_false_eq_true, not_true_eq_false, and_self, and_true, true_and, and_false, false_and, or_true, true_or, or_false, false_or, F_X10_look, g_mFact, a2, gq, k3, k4, d1]
      · simp (decide := true) only [Option.bind_some, ↓reduceIte, xst_f, xst_k, xst_s, ne_eq, not_false_eq_true, not_true_eq_false, and_self, and_true, true_and, and_false, false_and, or_true, true_or, or_false, false_or, F_X10_look, g_mFact, a2, g, d1]
    · simp (decide := true) only [Option.bind_some, ↓reduceIte, xst_f, xst_k, xst_s, ne_eq, not_false_eq_true, not_true_eq_false, and_self, and_true, true_and, and_false, false_and, or_true, true_or, or_false, false_or, ]
    · intro q; cases q
theorem g_hf {e : Nat} (he : e < 10) (x : Int32) : F_X1_hasFact (Int32.ofNat e) x m = some (if 0 ≤ x ∧ x < m.1 ag_editions_facts e then 1 else 0, m) := by
  have hi : xin (Int32.ofNat e) 10 = true := o_in (by omega) (by omega)
  have hn : (Int32.ofNat e).toNatClampNeg = e := o_nat (by omega)
  unfold F_X1_hasFact
  rw [hn]
  by_cases h0 : x < 0
  · rw [if_pos h0, if_neg (by grind)]
  · rw [if_neg h0, if_pos hi]
    by_cases h1 : m.1 ag_editions_facts e ≤ x
    · rw [if_pos h1, if_neg (by grind)]
    · rw [if_neg h1, if_pos (by grind)]
theorem pr_printed (ht : t ≤ 600) (H : xRel t nf nw nl ne tp n m.1) (x y z : Int32) : xPair (F_X9_printed x y z) (F_X10_printed x y z) t m := by
  obtain ⟨h1, h2, h3, h4, h5, h6, h7, h8, h9, h10⟩ := id H
  have hb := h1.1
  obtain ⟨-, ⟨a1, a2⟩, ⟨b1, b2⟩, ⟨c1, c2⟩, ⟨d1, d2⟩, e1, e2⟩ := id h1
  by_cases h : 0 ≤ x ∧ x < Int32.ofNat ne
  · obtain ⟨e, he, rfl⟩ := g_ix h (by omega)
    have k1 : ¬ Int32.ofNat e < 0 := by grind
    have k2 : ¬ Int32.ofNat ne ≤ Int32.ofNat e := by grind
    have hi : xin (Int32.ofNat e) 10 = true := o_in (by omega) (by omega)
    have hn : (Int32.ofNat e).toNatClampNeg = e := o_nat (by omega)
    have hq : (0 ≤ Int32.ofNat e ∧ Int32.ofNat e < Int32.ofNat ne) = True := eq_true h
    obtain ⟨p1, p2, p3, p4⟩ := h10.1 e he
    have hE : e < 10 := by omega
    have d10 : ¬ ((1 : Int32) = 0) := by decide
    have hno : ¬ y = 0 → ¬ y = 1 → xPair (F_X9_printed (Int32.ofNat e) y z) (F_X10_printed (Int32.ofNat e) y z) t m := by
      intro y0 y1
      refine xPair.keep (m1 := m) (m2 := (xst m.1 am fGuideBookModel_thrown 0, m.2)) (v := -1) ht H ?_ (xKeep.refl m) ?_ (k_th m 0)
      · simp (decide := true) only [Option.bind_some, ↓reduceIte, xst_f, xst_k, xst_s, ne_eq, not_false_eq_true, not_true_eq_false, and_self, and_true, true_and, and_false, false_and, or_true, true_or, or_false, false_or, F_X9_printed, g_hasE, d1, hq, y0, y1, J_X9_printed_41]
      · by_cases k3 : y < 0
        · simp (decide := true) only [Option.bind_some, ↓reduceIte, xst_f, xst_k, xst_s, ne_eq, not_false_eq_true, not_true_eq_false, and_self, and_true, true_and, and_false, false_and, or_true, true_or, or_false, false_or, F_X10_printed, k1, d2, k2, k3]
        · have k4 : 1 < y := by grind
          simp (decide := true) only [Option.bind_some, ↓reduceIte, xst_f, xst_k, xst_s, ne_eq, not_false_eq_true, not_true_eq_false, and_self, and_true, true_and, and_false, false_and, or_true, true_or, or_false, false_or, F_X10_printed, k1, d2, k2, k3, k4]
    by_cases y0 : y = 0
    · subst y0
      by_cases g : 0 ≤ z ∧ z < 60
      · obtain ⟨f, hf, rfl⟩ := g_ix (n := 60) g (by omega)
        have i1 : xin (Int32.ofNat f) 60 = true := o_in (by omega) (by omega)
        have n1 : (Int32.ofNat f).toNatClampNeg = f := o_nat (by omega)
        have i2 : xin (Int32.ofNat (60 * e + f)) 600 = true := o_in (by omega) (by omega)
        have n2 : (Int32.ofNat (60 * e + f)).toNatClampNeg = 60 * e + f := o_nat (by omega)
        have k3 : ¬ Int32.ofNat f < 0 := by grind
        have k4 : (Int32.ofNat f < 60) = True := eq_true g.2
        have z0 : ¬ ((0 : Int32) < 0) := by decide
        have z1 : ¬ ((1 : Int32) < 0) := by decide
        have hm : F_X10_printed (Int32.ofNat e) 0 (Int32.ofNat f) m = some (m.1 am_asPrinted (60 * e + f), (xst m.1 am fGuideBookModel_thrown 0, m.2)) := by
          simp (decide := true) only [Option.bind_some, ↓reduceIte, xst_f, xst_k, xst_s, ne_eq, not_false_eq_true, not_true_eq_false, and_self, and_true, true_and, and_false, false_and, or_true, true_or, or_false, false_or, F_X10_printed, k1, d2, k2, z0, z1, k3, J_X10_printed_42, k4, o_60, o_add, i2, n2]
        by_cases g2 : f < n e
        · have q : (0 ≤ Int32.ofNat f ∧ Int32.ofNat f < Int32.ofNat (n e)) = True := eq_true ⟨g.1, (o_lt (by omega) (by omega)).mpr g2⟩
          refine xPair.keep (m1 := m) (m2 := (xst m.1 am fGuideBookModel_thrown 0, m.2)) (v := m.1 am_asPrinted (60 * e + f)) ht H ?_ (xKeep.refl m) ?_ (k_th m 0)
          · simp (decide := true) only [Option.bind_some, ↓reduceIte, xst_f, xst_k, xst_s, ne_eq, not_false_eq_true, not_true_eq_false, and_self, and_true, true_and, and_false, false_and, or_true, true_or, or_false, false_or, F_X9_printed, g_hasE, d1, hq, g_hf hE, p1, q, d10, hi, hn, i1, n1, ((p3 f hf).1.1 g2).1]
          · exact hm
        · have q : ¬ (0 ≤ Int32.ofNat f ∧ Int32.ofNat f < Int32.ofNat (n e)) := fun q => by have := (o_lt (by omega) (by omega)).mp q.2; omega
          refine xPair.keep (m1 := m) (m2 := (xst m.1 am fGuideBookModel_thrown 0, m.2)) (v := -1) ht H ?_ (xKeep.refl m) ?_ (k_th m 0)
          · simp (decide := true) only [Option.bind_some, ↓reduceIte, xst_f, xst_k, xst_s, ne_eq, not_false_eq_true, not_true_eq_false, and_self, and_true, true_and, and_false, false_and, or_true, true_or, or_false, false_or, F_X9_printed, g_hasE, d1, hq, g_hf hE, p1, q, d10, J_X9_printed_41, show ¬ ((0 : Int32) = 1) by decide]
          · rw [hm, (p3 f hf).1.2 (by omega)]
      · have q : ¬ (0 ≤ z ∧ z < Int32.ofNat (n e)) := fun q => g ⟨q.1, by
          have : Int32.ofNat (n e) ≤ 60 := (o_le (b := 60) (by omega) (by omega)).mpr (by omega)
          grind⟩
        refine xPair.keep (m1 := m) (m2 := (xst m.1 am fGuideBookModel_thrown 0, m.2)) (v := -1) ht H ?_ (xKeep.refl m) ?_ (k_th m 0)
        · simp (decide := true) only [Option.bind_some, ↓reduceIte, xst_f, xst_k, xst_s, ne_eq, not_false_eq_true, not_true_eq_false, and_self, and_true, true_and, and_false, false_and, or_true, true_or, or_false, false_or, F_X9_printed, g_hasE, d1, hq, g_hf hE, p1, q, d10, J_X9_printed_41, show ¬ ((0 : Int32) = 1) by decide]
        · have z0 : ¬ ((0 : Int32) < 0) := by decide
          have z1 : ¬ ((1 : Int32) < 0) := by decide
          by_cases k3 : z < 0
          · simp (decide := true) only [Option.bind_some, ↓reduceIte, xst_f, xst_k, xst_s, ne_eq, not_false_eq_true, not_true_eq_false, and_self, and_true, true_and, and_false, false_and, or_true, true_or, or_false, false_or, F_X10_printed, k1, d2, k2, z0, z1, k3]
          · have k4 : ¬ z < 60 := by grind
            simp (decide := true) only [Option.bind_some, ↓reduceIte, xst_f, xst_k, xst_s, ne_eq, not_false_eq_true, not_true_eq_false, and_self, and_true, true_and, and_false, false_and, or_true, true_or, or_false, false_or, F_X10_printed, k1, d2, k2, z0, z1, k3, J_X10_printed_42, k4]
    · by_cases y1 : y = 1
      · subst y1
        have z0 : ¬ ((1 : Int32) < 0) := by decide
        have z1 : ¬ ((1 : Int32) < 1) := by decide
        by_cases g : 0 ≤ z ∧ z ≤ 9
        · obtain ⟨f, hf, rfl⟩ := g_ixl (n := 9) g (by omega)
          have i1 : xin (Int32.ofNat f) 10 = true := o_in (by omega) (by omega)
          have n1 : (Int32.ofNat f).toNatClampNeg = f := o_nat (by omega)
          have i2 : xin (Int32.ofNat (10 * e + f)) 100 = true := o_in (by omega) (by omega)
          have n2 : (Int32.ofNat (10 * e + f)).toNatClampNeg = 10 * e + f := o_nat (by omega)
          have k3 : ¬ Int32.ofNat f < 0 := by grind
          have k4 : Int32.ofNat f < 10 := by grind
          have gq : (0 ≤ Int32.ofNat f ∧ Int32.ofNat f ≤ 9) = True := eq_true g
          refine xPair.keep (m1 := m) (m2 := (xst m.1 am fGuideBookModel_thrown 0, m.2)) (v := m.1 am_starred (10 * e + f)) ht H ?_ (xKeep.refl m) ?_ (k_th m 0)
          · simp (decide := true) only [Option.bind_some, ↓reduceIte, xst_f, xst_k, xst_s, ne_eq, not_false_eq_true, not_true_eq_false, and_self, and_true, true_and, and_false, false_and, or_true, true_or, or_false, false_or, F_X9_printed, g_hasE, d1, hq, d10, J_X9_printed_41, g_isPlace, gq, hi, hn, i1, n1, p4 f (by omega)]
          · simp (decide := true) only [Option.bind_some, ↓reduceIte, xst_f, xst_k, xst_s, ne_eq, not_false_eq_true, not_true_eq_false, and_self, and_true, true_and, and_false, false_and, or_true, true_or, or_false, false_or, F_X10_printed, k1, d2, k2, z0, z1, k3, d10, J_X10_printed_42, k4, o_10, o_add, i2, n2]
        · refine xPair.keep (m1 := m) (m2 := (xst m.1 am fGuideBookModel_thrown 0, m.2)) (v := -1) ht H ?_ (xKeep.refl m) ?_ (k_th m 0)
          · simp (decide := true) only [Option.bind_some, ↓reduceIte, xst_f, xst_k, xst_s, ne_eq, not_false_eq_true, not_true_eq_false, and_self, and_true, true_and, and_false, false_and, or_true, true_or, or_false, false_or, F_X9_printed, g_hasE, d1, hq, d10, J_X9_printed_41, g_isPlace, g]
          · by_cases k3 : z < 0
            · simp (decide := true) only [Option.bind_some, ↓reduceIte, xst_f, xst_k, xst_s, ne_eq, not_false_eq_true, not_true_eq_false, and_self, and_true, true_and, and_false, false_and, or_true, true_or, or_false, false_or, F_X10_printed, k1, d2, k2, z0, z1, k3]
            · have k4 : ¬ z < 10 := by grind
              simp (decide := true) only [Option.bind_some, ↓reduceIte, xst_f, xst_k, xst_s, ne_eq, not_false_eq_true, not_true_eq_false, and_self, and_true, true_and, and_false, false_and, or_true, true_or, or_false, false_or, F_X10_printed, k1, d2, k2, z0, z1, k3, d10, J_X10_printed_42, k4]
      · exact hno y0 y1
  · refine xPair.keep (m1 := m) (m2 := (xst m.1 am fGuideBookModel_thrown 0, m.2)) (v := -1) ht H ?_ (xKeep.refl m) ?_ (k_th m 0)
    · simp (decide := true) only [Option.bind_some, ↓reduceIte, xst_f, xst_k, xst_s, ne_eq, not_false_eq_true, not_true_eq_false, and_self, and_true, true_and, and_false, false_and, or_true, true_or, or_false, false_or, F_X9_printed, g_hasE, d1, h]
    · by_cases k1 : x < 0
      · simp (decide := true) only [Option.bind_some, ↓reduceIte, xst_f, xst_k, xst_s, ne_eq, not_false_eq_true, not_true_eq_false, and_self, and_true, true_and, and_false, false_and, or_true, true_or, or_false, false_or, F_X10_printed, k1]
      · have k2 : Int32.ofNat ne ≤ x := by grind
        simp (decide := true) only [Option.bind_some, ↓reduceIte, xst_f, xst_k, xst_s, ne_eq, not_false_eq_true, not_true_eq_false, and_self, and_true, true_and, and_false, false_and, or_true, true_or, or_false, false_or, F_X10_printed, k1, d2, k2]
end EA
