/-! the plain calls -/
section PL1
variable {t nf nw nl ne tp : Nat} {n : Nat → Nat} {m : xMem}
theorem n10 : ¬ (1 : Int32) = 0 := by decide
theorem pr_years (ht : t ≤ 600) (H : xRel t nf nw nl ne tp n m.1) (x : Int32) : xPair (F_X9_years x) (F_X10_years x) t m := by
  obtain ⟨⟨hb, ⟨a1, a2⟩, ⟨b1, b2⟩, hr⟩, h2⟩ := id H
  by_cases h : (0 ≤ x ∧ x ≤ 20) ∧ Int32.ofNat nw + x ≤ 99
  · obtain ⟨x', hx', rfl⟩ := g_ixl (n := 20) h.1 (by decide)
    have hs : Int32.ofNat nw + Int32.ofNat x' = Int32.ofNat (nw + x') := (Int32.ofNat_add nw x').symm
    have hc : Int32.ofNat (nw + x') ≤ 99 := by rw [← hs]; exact h.2
    have hle : nw + x' ≤ 99 := (o_le (b := 99) (by omega) (by decide)).mp hc
    have k1 : ¬ Int32.ofNat x' < 0 := by grind
    have k2 : ¬ 20 < Int32.ofNat x' := by grind
    refine ⟨Int32.ofNat (nw + x'), (xst m.1 ag_facts fFacts_now (Int32.ofNat (nw + x')), m.2), (xst (xst (xst m.1 ag_facts fFacts_now (Int32.ofNat (nw + x'))) am fGuideBookModel_thrown 0) am fGuideBookModel_now (Int32.ofNat (nw + x')), m.2), ?_, ?_, ⟨nf, nw + x', nl, ne, tp, n, ?_⟩, ?_⟩
    · simp (decide := true) only [Option.bind_some, ↓reduceIte, xst_f, xst_k, xst_s, ne_eq, not_false_eq_true, not_true_eq_false, and_self, and_true, true_and, and_false, false_and, or_true, true_or, or_false, false_or, F_X9_years, g_wi, h.1, b1, hs, hc]
    · simp (decide := true) only [Option.bind_some, ↓reduceIte, xst_f, xst_k, xst_s, ne_eq, not_false_eq_true, not_true_eq_false, and_self, and_true, true_and, and_false, false_and, or_true, true_or, or_false, false_or, F_X10_years, k1, k2, b2, hs, hc]
    · refine xRel.up ht ⟨?_, ?_, (c_kind (by decide) (c_kind (by decide) (c_kind (by decide) h2.2.1))), (c_days (by decide) (c_days (by decide) (c_days (by decide) h2.2.2.1))), (c_let (by decide) (c_let (by decide) (c_let (by decide) h2.2.2.2.1))), (c_tal (by decide) (c_tal (by decide) (c_tal (by decide) h2.2.2.2.2.1))), (c_mark (by decide) (c_mark (by decide) (c_mark (by decide) h2.2.2.2.2.2.1))), (c_paid (by decide) (c_paid (by decide) (c_paid (by decide) h2.2.2.2.2.2.2.1))), (c_tape (by decide) (c_tape (by decide) (c_tape (by decide) h2.2.2.2.2.2.2.2.1))), (c_ed hb.2.2.2.1 (by decide) (c_ed hb.2.2.2.1 (by decide) (c_ed hb.2.2.2.1 (by decide) h2.2.2.2.2.2.2.2.2)))⟩
      · unfold I_num
        simp (decide := true) only [Option.bind_some, ↓reduceIte, xst_f, xst_k, xst_s, ne_eq, not_false_eq_true, not_true_eq_false, and_self, and_true, true_and, and_false, false_and, or_true, true_or, or_false, false_or, ]
        exact ⟨⟨hb.1, hle, hb.2.2⟩, ⟨a1, a2⟩, ⟨rfl, rfl⟩, hr⟩
      · refine (c_fact (by decide) (c_fact (by decide) (c_fact (by decide) ?_)))
        intro i hi
        obtain ⟨q1, q2, q3, ⟨q4, q5, q6⟩, q7⟩ := h2.1 i hi
        refine ⟨q1, q2, q3, ⟨q4, q5, Int32.le_trans q6 ?_⟩, q7⟩
        rw [o_le (by omega) (by omega)]; omega
    · exact ((((xSameT.refl m).st rfl).st rfl).st rfl)
  · refine xPair.keep (m1 := m) (m2 := (xst m.1 am fGuideBookModel_thrown 0, m.2)) (v := -1) ht H ?_ (xKeep.refl m) ?_ (k_th m 0)
    · by_cases h1 : 0 ≤ x ∧ x ≤ 20
      · have h3 : ¬ Int32.ofNat nw + x ≤ 99 := fun q => h ⟨h1, q⟩
        simp (decide := true) only [Option.bind_some, ↓reduceIte, xst_f, xst_k, xst_s, ne_eq, not_false_eq_true, not_true_eq_false, and_self, and_true, true_and, and_false, false_and, or_true, true_or, or_false, false_or, F_X9_years, g_wi, h1, b1, h3]
      · simp (decide := true) only [Option.bind_some, ↓reduceIte, xst_f, xst_k, xst_s, ne_eq, not_false_eq_true, not_true_eq_false, and_self, and_true, true_and, and_false, false_and, or_true, true_or, or_false, false_or, F_X9_years, g_wi, h1]
    · by_cases h1 : x < 0
      · simp (decide := true) only [Option.bind_some, ↓reduceIte, xst_f, xst_k, xst_s, ne_eq, not_false_eq_true, not_true_eq_false, and_self, and_true, true_and, and_false, false_and, or_true, true_or, or_false, false_or, F_X10_years, h1]
      · by_cases h2 : 20 < x
        · simp (decide := true) only [Option.bind_some, ↓reduceIte, xst_f, xst_k, xst_s, ne_eq, not_false_eq_true, not_true_eq_false, and_self, and_true, true_and, and_false, false_and, or_true, true_or, or_false, false_or, F_X10_years, h1, h2]
        · have h3 : ¬ Int32.ofNat nw + x ≤ 99 := fun q => h ⟨by grind, q⟩
          simp (decide := true) only [Option.bind_some, ↓reduceIte, xst_f, xst_k, xst_s, ne_eq, not_false_eq_true, not_true_eq_false, and_self, and_true, true_and, and_false, false_and, or_true, true_or, or_false, false_or, F_X10_years, h1, h2, b2, h3]
theorem pr_takes (ht : t ≤ 600) (H : xRel t nf nw nl ne tp n m.1) (x y : Int32) : xPair (F_X9_takes x y) (F_X10_takes x y) t m := by
  obtain ⟨h1, h2, h3, h4, h5, h6, h7, h8, h9, h10⟩ := id H
  have hb := h1.1
  obtain ⟨-, ⟨a1, a2⟩, ⟨b1, b2⟩, ⟨c1, c2⟩, ⟨d1, d2⟩, e1, e2⟩ := id h1
  by_cases h : 0 ≤ x ∧ x ≤ 9
  · by_cases g : y < 1
    · refine xPair.keep (m1 := m) (m2 := (xst m.1 am fGuideBookModel_thrown 0, m.2)) (v := 0) ht H ?_ (xKeep.refl m) ?_ (k_th m 0)
      · simp (decide := true) only [Option.bind_some, ↓reduceIte, xst_f, xst_k, xst_s, ne_eq, not_false_eq_true, not_true_eq_false, and_self, and_true, true_and, and_false, false_and, or_true, true_or, or_false, false_or, F_X9_takes, g_isPlace, h, g]
      · simp (decide := true) only [Option.bind_some, ↓reduceIte, xst_f, xst_k, xst_s, ne_eq, not_false_eq_true, not_true_eq_false, and_self, and_true, true_and, and_false, false_and, or_true, true_or, or_false, false_or, F_X10_takes, g_mPlace, h, g]
    · by_cases g' : y ≤ 20
      · obtain ⟨p, hp, rfl⟩ := g_ixl (n := 9) h (by decide)
        have hi : xin (Int32.ofNat p) 10 = true := o_in (by omega) (by omega)
        have hk : (Int32.ofNat p).toNatClampNeg = p := o_nat (by omega)
        refine ⟨1, (xst m.1 ag_daysOf p y, m.2), (xst (xst (xst m.1 ag_daysOf p y) am fGuideBookModel_thrown 0) am_takes p y, m.2), ?_, ?_, ⟨nf, nw, nl, ne, tp, n, ?_⟩, ((((xSameT.refl m).st rfl).st rfl).st rfl)⟩
        · simp (decide := true) only [Option.bind_some, ↓reduceIte, xst_f, xst_k, xst_s, ne_eq, not_false_eq_true, not_true_eq_false, and_self, and_true, true_and, and_false, false_and, or_true, true_or, or_false, false_or, F_X9_takes, g_isPlace, h, g, g', hi, hk]
        · simp (decide := true) only [Option.bind_some, ↓reduceIte, xst_f, xst_k, xst_s, ne_eq, not_false_eq_true, not_true_eq_false, and_self, and_true, true_and, and_false, false_and, or_true, true_or, or_false, false_or, F_X10_takes, g_mPlace, h, g, g', hi, hk]
        · refine xRel.up ht ⟨(c_numr (by decide) (c_num (by decide) (c_numr (by decide) h1))), (c_fact (by decide) (c_fact (by decide) (c_fact (by decide) h2))), (c_kind (by decide) (c_kind (by decide) (c_kind (by decide) h3))), ?_, (c_let (by decide) (c_let (by decide) (c_let (by decide) h5))), (c_talr (by decide) (c_tal (by decide) (c_talr (by decide) h6))), (c_mark (by decide) (c_mark (by decide) (c_mark (by decide) h7))), (c_paid (by decide) (c_paid (by decide) (c_paid (by decide) h8))), (c_tape (by decide) (c_tape (by decide) (c_tape (by decide) h9))), (c_ed hb.2.2.2.1 (by decide) (c_ed hb.2.2.2.1 (by decide) (c_ed hb.2.2.2.1 (by decide) h10)))⟩
          intro q hq
          simp (decide := true) only [Option.bind_some, ↓reduceIte, xst_f, xst_k, xst_s, ne_eq, not_false_eq_true, not_true_eq_false, and_self, and_true, true_and, and_false, false_and, or_true, true_or, or_false, false_or, ]
          by_cases e : p = q
          · subst e
            simp (decide := true) only [Option.bind_some, ↓reduceIte, xst_f, xst_k, xst_s, ne_eq, not_false_eq_true, not_true_eq_false, and_self, and_true, true_and, and_false, false_and, or_true, true_or, or_false, false_or, ]
            exact ⟨by grind, g'⟩
          · simp (decide := true) only [Option.bind_some, ↓reduceIte, xst_f, xst_k, xst_s, ne_eq, not_false_eq_true, not_true_eq_false, and_self, and_true, true_and, and_false, false_and, or_true, true_or, or_false, false_or, xst_k e]
            exact h4 q hq
      · refine xPair.keep (m1 := m) (m2 := (xst m.1 am fGuideBookModel_thrown 0, m.2)) (v := 0) ht H ?_ (xKeep.refl m) ?_ (k_th m 0)
        · simp (decide := true) only [Option.bind_some, ↓reduceIte, xst_f, xst_k, xst_s, ne_eq, not_false_eq_true, not_true_eq_false, and_self, and_true, true_and, and_false, false_and, or_true, true_or, or_false, false_or, F_X9_takes, g_isPlace, h, g, g']
        · simp (decide := true) only [Option.bind_some, ↓reduceIte, xst_f, xst_k, xst_s, ne_eq, not_false_eq_true, not_true_eq_false, and_self, and_true, true_and, and_false, false_and, or_true, true_or, or_false, false_or, F_X10_takes, g_mPlace, h, g, g']
  · refine xPair.keep (m1 := m) (m2 := (xst m.1 am fGuideBookModel_thrown 0, m.2)) (v := 0) ht H ?_ (xKeep.refl m) ?_ (k_th m 0)
    · simp (decide := true) only [Option.bind_some, ↓reduceIte, xst_f, xst_k, xst_s, ne_eq, not_false_eq_true, not_true_eq_false, and_self, and_true, true_and, and_false, false_and, or_true, true_or, or_false, false_or, F_X9_takes, g_isPlace, h]
    · simp (decide := true) only [Option.bind_some, ↓reduceIte, xst_f, xst_k, xst_s, ne_eq, not_false_eq_true, not_true_eq_false, and_self, and_true, true_and, and_false, false_and, or_true, true_or, or_false, false_or, F_X10_takes, g_mPlace, h]
theorem pr_paid (ht : t ≤ 600) (H : xRel t nf nw nl ne tp n m.1) (x y : Int32) : xPair (F_X9_paid x y) (F_X10_paid x y) t m := by
  obtain ⟨h1, h2, h3, h4, h5, h6, h7, h8, h9, h10⟩ := id H
  have hb := h1.1
  obtain ⟨-, ⟨a1, a2⟩, ⟨b1, b2⟩, ⟨c1, c2⟩, ⟨d1, d2⟩, e1, e2⟩ := id h1
  by_cases h : 0 ≤ x ∧ x ≤ 9
  · obtain ⟨p, hp, rfl⟩ := g_ixl (n := 9) h (by decide)
    have hi : xin (Int32.ofNat p) 10 = true := o_in (by omega) (by omega)
    have hk : (Int32.ofNat p).toNatClampNeg = p := o_nat (by omega)
    refine ⟨1, (xst m.1 ag_praised p (vp_nar .boolean y), m.2), (xst (xst (xst m.1 ag_praised p (vp_nar .boolean y)) am fGuideBookModel_thrown 0) am_isPaid p (vp_nar .boolean y), m.2), ?_, ?_, ⟨nf, nw, nl, ne, tp, n, ?_⟩, ((((xSameT.refl m).st rfl).st rfl).st rfl)⟩
    · simp (decide := true) only [Option.bind_some, ↓reduceIte, xst_f, xst_k, xst_s, ne_eq, not_false_eq_true, not_true_eq_false, and_self, and_true, true_and, and_false, false_and, or_true, true_or, or_false, false_or, F_X9_paid, g_isPlace, h, hi, hk]
    · simp (decide := true) only [Option.bind_some, ↓reduceIte, xst_f, xst_k, xst_s, ne_eq, not_false_eq_true, not_true_eq_false, and_self, and_true, true_and, and_false, false_and, or_true, true_or, or_false, false_or, F_X10_paid, g_mPlace, h, hi, hk]
    · refine xRel.up ht ⟨(c_numr (by decide) (c_num (by decide) (c_numr (by decide) h1))), (c_fact (by decide) (c_fact (by decide) (c_fact (by decide) h2))), (c_kind (by decide) (c_kind (by decide) (c_kind (by decide) h3))), (c_days (by decide) (c_days (by decide) (c_days (by decide) h4))), (c_let (by decide) (c_let (by decide) (c_let (by decide) h5))), (c_talr (by decide) (c_tal (by decide) (c_talr (by decide) h6))), (c_mark (by decide) (c_mark (by decide) (c_mark (by decide) h7))), ?_, (c_tape (by decide) (c_tape (by decide) (c_tape (by decide) h9))), (c_ed hb.2.2.2.1 (by decide) (c_ed hb.2.2.2.1 (by decide) (c_ed hb.2.2.2.1 (by decide) h10)))⟩
      intro q hq
      simp (decide := true) only [Option.bind_some, ↓reduceIte, xst_f, xst_k, xst_s, ne_eq, not_false_eq_true, not_true_eq_false, and_self, and_true, true_and, and_false, false_and, or_true, true_or, or_false, false_or, ]
      by_cases e : p = q
      · subst e
        simp (decide := true) only [Option.bind_some, ↓reduceIte, xst_f, xst_k, xst_s, ne_eq, not_false_eq_true, not_true_eq_false, and_self, and_true, true_and, and_false, false_and, or_true, true_or, or_false, false_or, ]
      · simp (decide := true) only [Option.bind_some, ↓reduceIte, xst_f, xst_k, xst_s, ne_eq, not_false_eq_true, not_true_eq_false, and_self, and_true, true_and, and_false, false_and, or_true, true_or, or_false, false_or, xst_k e]
        exact h8 q hq
  · refine xPair.keep (m1 := m) (m2 := (xst m.1 am fGuideBookModel_thrown 0, m.2)) (v := 0) ht H ?_ (xKeep.refl m) ?_ (k_th m 0)
    · simp (decide := true) only [Option.bind_some, ↓reduceIte, xst_f, xst_k, xst_s, ne_eq, not_false_eq_true, not_true_eq_false, and_self, and_true, true_and, and_false, false_and, or_true, true_or, or_false, false_or, F_X9_paid, g_isPlace, h]
    · simp (decide := true) only [Option.bind_some, ↓reduceIte, xst_f, xst_k, xst_s, ne_eq, not_false_eq_true, not_true_eq_false, and_self, and_true, true_and, and_false, false_and, or_true, true_or, or_false, false_or, F_X10_paid, g_mPlace, h]
theorem pr_proof (ht : t ≤ 600) (H : xRel t nf nw nl ne tp n m.1) (x : Int32) : xPair (F_X9_proof x) (F_X10_proof x) t m := by
  obtain ⟨h1, h2, h3, h4, h5, h6, h7, h8, h9, h10⟩ := id H
  have hb := h1.1
  obtain ⟨-, ⟨a1, a2⟩, ⟨b1, b2⟩, ⟨c1, c2⟩, ⟨d1, d2⟩, e1, e2⟩ := id h1
  by_cases h : 0 ≤ x ∧ x < Int32.ofNat nl
  · obtain ⟨l, hl, rfl⟩ := g_ix h (by omega)
    have hi : xin (Int32.ofNat l) 100 = true := o_in (by omega) (by omega)
    have hk : (Int32.ofNat l).toNatClampNeg = l := o_nat (by omega)
    have k1 : ¬ Int32.ofNat l < 0 := by grind
    have k2 : ¬ Int32.ofNat nl ≤ Int32.ofNat l := by grind
    have hz := ((h5.2 l (by omega)).1.1).symm
    refine xPair.keep (m1 := m) (m2 := (xst m.1 am fGuideBookModel_thrown 0, m.2)) (v := m.1 ag_letters_state l) ht H ?_ (xKeep.refl m) ?_ (k_th m 0)
    · simp (decide := true) only [Option.bind_some, ↓reduceIte, xst_f, xst_k, xst_s, ne_eq, not_false_eq_true, not_true_eq_false, and_self, and_true, true_and, and_false, false_and, or_true, true_or, or_false, false_or, F_X9_proof, g_hasL, c1, h, hi, hk]
    · simp (decide := true) only [Option.bind_some, ↓reduceIte, xst_f, xst_k, xst_s, ne_eq, not_false_eq_true, not_true_eq_false, and_self, and_true, true_and, and_false, false_and, or_true, true_or, or_false, false_or, F_X10_proof, c2, k1, h.2, hi, hk, hz]
  · refine xPair.keep (m1 := m) (m2 := (xst m.1 am fGuideBookModel_thrown 0, m.2)) (v := -1) ht H ?_ (xKeep.refl m) ?_ (k_th m 0)
    · simp (decide := true) only [Option.bind_some, ↓reduceIte, xst_f, xst_k, xst_s, ne_eq, not_false_eq_true, not_true_eq_false, and_self, and_true, true_and, and_false, false_and, or_true, true_or, or_false, false_or, F_X9_proof, g_hasL, c1, h]
    · by_cases k1 : x < 0
      · simp (decide := true) only [Option.bind_some, ↓reduceIte, xst_f, xst_k, xst_s, ne_eq, not_false_eq_true, not_true_eq_false, and_self, and_true, true_and, and_false, false_and, or_true, true_or, or_false, false_or, F_X10_proof, k1, J_X10_proof_17]
      · have k2 : ¬ x < Int32.ofNat nl := by grind
        simp (decide := true) only [Option.bind_some, ↓reduceIte, xst_f, xst_k, xst_s, ne_eq, not_false_eq_true, not_true_eq_false, and_self, and_true, true_and, and_false, false_and, or_true, true_or, or_false, false_or, F_X10_proof, k1, c2, k2, J_X10_proof_17]
theorem pr_line (ht : t ≤ 600) (H : xRel t nf nw nl ne tp n m.1) (x y z : Int32) : xPair (F_X9_line x y z) (F_X10_line_ x y z) t m := by
  obtain ⟨h1, h2, h3, h4, h5, h6, h7, h8, h9, h10⟩ := id H
  have hb := h1.1
  obtain ⟨-, ⟨a1, a2⟩, ⟨b1, b2⟩, ⟨c1, c2⟩, ⟨d1, d2⟩, e1, e2⟩ := id h1
  by_cases h : 0 ≤ x ∧ x < Int32.ofNat nf
  · by_cases g : y < 1
    · refine xPair.keep (m1 := m) (m2 := (xst m.1 am fGuideBookModel_thrown 0, m.2)) (v := 0) ht H ?_ (xKeep.refl m) ?_ (k_th m 0)
      · simp (decide := true) only [Option.bind_some, ↓reduceIte, xst_f, xst_k, xst_s, ne_eq, not_false_eq_true, not_true_eq_false, and_self, and_true, true_and, and_false, false_and, or_true, true_or, or_false, false_or, F_X9_line, g_has, a1, h, g]
      · simp (decide := true) only [Option.bind_some, ↓reduceIte, xst_f, xst_k, xst_s, ne_eq, not_false_eq_true, not_true_eq_false, and_self, and_true, true_and, and_false, false_and, or_true, true_or, or_false, false_or, F_X10_line_, g_mFact, a2, h, g]
    · by_cases g' : 9 < y
      · refine xPair.keep (m1 := m) (m2 := (xst m.1 am fGuideBookModel_thrown 0, m.2)) (v := 0) ht H ?_ (xKeep.refl m) ?_ (k_th m 0)
        · simp (decide := true) only [Option.bind_some, ↓reduceIte, xst_f, xst_k, xst_s, ne_eq, not_false_eq_true, not_true_eq_false, and_self, and_true, true_and, and_false, false_and, or_true, true_or, or_false, false_or, F_X9_line, g_has, a1, h, g, g']
        · simp (decide := true) only [Option.bind_some, ↓reduceIte, xst_f, xst_k, xst_s, ne_eq, not_false_eq_true, not_true_eq_false, and_self, and_true, true_and, and_false, false_and, or_true, true_or, or_false, false_or, F_X10_line_, g_mFact, a2, h, g, g']
      · by_cases k : 0 ≤ z ∧ z ≤ 999
        · obtain ⟨f, hf, rfl⟩ := g_ix h (by omega)
          have hi : xin (Int32.ofNat f) 60 = true := o_in (by omega) (by omega)
          have hk : (Int32.ofNat f).toNatClampNeg = f := o_nat (by omega)
          have k1 : ¬ z < 0 := by grind
          refine ⟨1, (xst (xst m.1 ag_facts_length f y) ag_facts_worth f z, m.2), (xst (xst (xst (xst (xst m.1 ag_facts_length f y) ag_facts_worth f z) am fGuideBookModel_thrown 0) am_lengths f y) am_worths f z, m.2), ?_, ?_, ⟨nf, nw, nl, ne, tp, n, ?_⟩, ((((((xSameT.refl m).st rfl).st rfl).st rfl).st rfl).st rfl)⟩
          · simp (decide := true) only [Option.bind_some, ↓reduceIte, xst_f, xst_k, xst_s, ne_eq, not_false_eq_true, not_true_eq_false, and_self, and_true, true_and, and_false, false_and, or_true, true_or, or_false, false_or, F_X9_line, g_has, a1, h, g, g', g_wi, k, hi, hk]
          · simp (decide := true) only [Option.bind_some, ↓reduceIte, xst_f, xst_k, xst_s, ne_eq, not_false_eq_true, not_true_eq_false, and_self, and_true, true_and, and_false, false_and, or_true, true_or, or_false, false_or, F_X10_line_, g_mFact, a2, h, g, g', k1, k.2, hi, hk]
          · refine xRel.up ht ⟨(c_numr (by decide) (c_numr (by decide) (c_num (by decide) (c_numr (by decide) (c_numr (by decide) h1))))), ?_, (c_kind (by decide) (c_kind (by decide) (c_kind (by decide) (c_kind (by decide) (c_kind (by decide) h3))))), (c_days (by decide) (c_days (by decide) (c_days (by decide) (c_days (by decide) (c_days (by decide) h4))))), (c_let (by decide) (c_let (by decide) (c_let (by decide) (c_let (by decide) (c_let (by decide) h5))))), (c_talr (by decide) (c_talr (by decide) (c_tal (by decide) (c_talr (by decide) (c_talr (by decide) h6))))), (c_mark (by decide) (c_mark (by decide) (c_mark (by decide) (c_mark (by decide) (c_mark (by decide) h7))))), (c_paid (by decide) (c_paid (by decide) (c_paid (by decide) (c_paid (by decide) (c_paid (by decide) h8))))), (c_tape (by decide) (c_tape (by decide) (c_tape (by decide) (c_tape (by decide) (c_tape (by decide) h9))))), (c_ed hb.2.2.2.1 (by decide) (c_ed hb.2.2.2.1 (by decide) (c_ed hb.2.2.2.1 (by decide) (c_ed hb.2.2.2.1 (by decide) (c_ed hb.2.2.2.1 (by decide) h10)))))⟩
            intro i hi
            obtain ⟨q1, q2, q3, q4, q5, q6⟩ := h2 i hi
            by_cases e : f = i
            · subst e
              simp (decide := true) only [Option.bind_some, ↓reduceIte, xst_f, xst_k, xst_s, ne_eq, not_false_eq_true, not_true_eq_false, and_self, and_true, true_and, and_false, false_and, or_true, true_or, or_false, false_or, ]
              exact ⟨q1, q2, q3, q4, ⟨by grind, by grind⟩, k⟩
            · simp (decide := true) only [Option.bind_some, ↓reduceIte, xst_f, xst_k, xst_s, ne_eq, not_false_eq_true, not_true_eq_false, and_self, and_true, true_and, and_false, false_and, or_true, true_or, or_false, false_or, xst_k e]
              exact ⟨q1, q2, q3, q4, q5, q6⟩
        · refine xPair.keep (m1 := m) (m2 := (xst m.1 am fGuideBookModel_thrown 0, m.2)) (v := 0) ht H ?_ (xKeep.refl m) ?_ (k_th m 0)
          · simp (decide := true) only [Option.bind_some, ↓reduceIte, xst_f, xst_k, xst_s, ne_eq, not_false_eq_true, not_true_eq_false, and_self, and_true, true_and, and_false, false_and, or_true, true_or, or_false, false_or, F_X9_line, g_has, a1, h, g, g', g_wi, k]
          · by_cases k1 : z < 0
            · simp (decide := true) only [Option.bind_some, ↓reduceIte, xst_f, xst_k, xst_s, ne_eq, not_false_eq_true, not_true_eq_false, and_self, and_true, true_and, and_false, false_and, or_true, true_or, or_false, false_or, F_X10_line_, g_mFact, a2, h, g, g', k1]
            · have k2 : ¬ z ≤ 999 := by grind
              simp (decide := true) only [Option.bind_some, ↓reduceIte, xst_f, xst_k, xst_s, ne_eq, not_false_eq_true, not_true_eq_false, and_self, and_true, true_and, and_false, false_and, or_true, true_or, or_false, false_or, F_X10_line_, g_mFact, a2, h, g, g', k1, k2]
  · refine xPair.keep (m1 := m) (m2 := (xst m.1 am fGuideBookModel_thrown 0, m.2)) (v := 0) ht H ?_ (xKeep.refl m) ?_ (k_th m 0)
    · simp (decide := true) only [Option.bind_some, ↓reduceIte, xst_f, xst_k, xst_s, ne_eq, not_false_eq_true, not_true_eq_false, and_self, and_true, true_and, and_false, false_and, or_true, true_or, or_false, false_or, F_X9_line, g_has, a1, h]
    · simp (decide := true) only [Option.bind_some, ↓reduceIte, xst_f, xst_k, xst_s, ne_eq, not_false_eq_true, not_true_eq_false, and_self, and_true, true_and, and_false, false_and, or_true, true_or, or_false, false_or, F_X10_line_, g_mFact, a2, h]
theorem pr_mark (ht : t ≤ 600) (H : xRel t nf nw nl ne tp n m.1) (x y z : Int32) : xPair (F_X9_mark x y z) (F_X10_mark x y z) t m := by
  obtain ⟨h1, h2, h3, h4, h5, h6, h7, h8, h9, h10⟩ := id H
  have hb := h1.1
  obtain ⟨-, ⟨a1, a2⟩, ⟨b1, b2⟩, ⟨c1, c2⟩, ⟨d1, d2⟩, e1, e2⟩ := id h1
  by_cases h : 0 ≤ x ∧ x ≤ 9
  · by_cases g : 0 ≤ y ∧ y ≤ 4
    · have k1 : ¬ y < 0 := by grind
      have k2 : ¬ 4 < y := by grind
      by_cases k : 0 ≤ z ∧ z ≤ 100
      · obtain ⟨p, hp, rfl⟩ := g_ixl (n := 9) h (by decide)
        obtain ⟨w, hw, rfl⟩ := g_ixl (n := 4) g (by decide)
        have hi : xin (Int32.ofNat p) 10 = true := o_in (by omega) (by omega)
        have hk : (Int32.ofNat p).toNatClampNeg = p := o_nat (by omega)
        have hi' : xin (Int32.ofNat w) 5 = true := o_in (by omega) (by omega)
        have hk' : (Int32.ofNat w).toNatClampNeg = w := o_nat (by omega)
        have hs : (5 : Int32) * Int32.ofNat p + Int32.ofNat w = Int32.ofNat (5 * p + w) := by
          rw [Int32.ofNat_add, Int32.ofNat_mul]; rfl
        have hi2 : xin (Int32.ofNat (5 * p + w)) 50 = true := o_in (by omega) (by omega)
        have hk2 : (Int32.ofNat (5 * p + w)).toNatClampNeg = 5 * p + w := o_nat (by omega)
        have k3 : ¬ z < 0 := by grind
        refine ⟨1, (xst m.1 (19 + p) w z, m.2), (xst (xst (xst m.1 (19 + p) w z) am fGuideBookModel_thrown 0) am_marks (5 * p + w) z, m.2), ?_, ?_, ⟨nf, nw, nl, ne, tp, n, ?_⟩, ?_⟩
        · simp (decide := true) only [Option.bind_some, ↓reduceIte, xst_f, xst_k, xst_s, ne_eq, not_false_eq_true, not_true_eq_false, and_self, and_true, true_and, and_false, false_and, or_true, true_or, or_false, false_or, F_X9_mark, g_isPlace, g_isWalker, g_wi, h, g, k, hi, hk, hi', hk']
        · simp (decide := true) only [Option.bind_some, ↓reduceIte, xst_f, xst_k, xst_s, ne_eq, not_false_eq_true, not_true_eq_false, and_self, and_true, true_and, and_false, false_and, or_true, true_or, or_false, false_or, F_X10_mark, g_mPlace, h, k1, k2, k3, k.2, hs, hi2, hk2]
        · have h1' : I_num nf nw nl ne tp (xst m.1 (19 + p) w z) := c_numr (by omega) h1
          refine xRel.up ht ⟨c_numr (by decide) (c_num (by decide) (c_numr (by omega) h1)), c_fact (by decide) (c_fact (by decide) (c_fact (by omega) h2)), c_kind (by decide) (c_kind (by decide) (c_kind (by omega) h3)), c_days (by decide) (c_days (by decide) (c_days (by omega) h4)), c_let (by decide) (c_let (by decide) (c_let (by omega) h5)), c_talr (by decide) (c_tal (by decide) (c_talr (by omega) h6)), ?_, c_paid (by decide) (c_paid (by decide) (c_paid (by omega) h8)), c_tape (by decide) (c_tape (by decide) (c_tape (by omega) h9)), c_ed hb.2.2.2.1 (by decide) (c_ed hb.2.2.2.1 (by decide) (c_ed hb.2.2.2.1 (by omega) h10))⟩
          intro q hq w' hw'
          dsimp only
          rw [xst_f (a := am_marks) (b := 19 + q) (by show 117 ≠ 19 + q; omega), xst_f (a := am) (b := 19 + q) (by show 87 ≠ 19 + q; omega)]
          by_cases e : p = q ∧ w = w'
          · obtain ⟨rfl, rfl⟩ := e
            simp (decide := true) only [Option.bind_some, ↓reduceIte, xst_f, xst_k, xst_s, ne_eq, not_false_eq_true, not_true_eq_false, and_self, and_true, true_and, and_false, false_and, or_true, true_or, or_false, false_or, ]
            exact ⟨by grind, k.2⟩
          · have e1 : 5 * p + w ≠ 5 * q + w' := by omega
            rw [xst_k e1, xst_f (a := am) (by decide), xst_f (a := 19 + p) (b := am_marks) (by show 19 + p ≠ 117; omega), xst_n (by omega)]
            exact h7 q hq w' hw'
        · refine (((xSameT.refl m).st ?_).st rfl).st rfl
          unfold xtx
          simp only [Bool.or_eq_false_iff, Bool.and_eq_false_iff, decide_eq_false_iff_not, beq_eq_false_iff_ne]
          omega
      · refine xPair.keep (m1 := m) (m2 := (xst m.1 am fGuideBookModel_thrown 0, m.2)) (v := 0) ht H ?_ (xKeep.refl m) ?_ (k_th m 0)
        · simp (decide := true) only [Option.bind_some, ↓reduceIte, xst_f, xst_k, xst_s, ne_eq, not_false_eq_true, not_true_eq_false, and_self, and_true, true_and, and_false, false_and, or_true, true_or, or_false, false_or, F_X9_mark, g_isPlace, g_isWalker, g_wi, h, g, k]
        · by_cases k3 : z < 0
          · simp (decide := true) only [Option.bind_some, ↓reduceIte, xst_f, xst_k, xst_s, ne_eq, not_false_eq_true, not_true_eq_false, and_self, and_true, true_and, and_false, false_and, or_true, true_or, or_false, false_or, F_X10_mark, g_mPlace, h, k1, k2, k3]
          · have k4 : ¬ z ≤ 100 := by grind
            simp (decide := true) only [Option.bind_some, ↓reduceIte, xst_f, xst_k, xst_s, ne_eq, not_false_eq_true, not_true_eq_false, and_self, and_true, true_and, and_false, false_and, or_true, true_or, or_false, false_or, F_X10_mark, g_mPlace, h, k1, k2, k3, k4]
    · refine xPair.keep (m1 := m) (m2 := (xst m.1 am fGuideBookModel_thrown 0, m.2)) (v := 0) ht H ?_ (xKeep.refl m) ?_ (k_th m 0)
      · simp (decide := true) only [Option.bind_some, ↓reduceIte, xst_f, xst_k, xst_s, ne_eq, not_false_eq_true, not_true_eq_false, and_self, and_true, true_and, and_false, false_and, or_true, true_or, or_false, false_or, F_X9_mark, g_isPlace, g_isWalker, h, g]
      · by_cases k3 : y < 0
        · simp (decide := true) only [Option.bind_some, ↓reduceIte, xst_f, xst_k, xst_s, ne_eq, not_false_eq_true, not_true_eq_false, and_self, and_true, true_and, and_false, false_and, or_true, true_or, or_false, false_or, F_X10_mark, g_mPlace, h, k3]
        · have k4 : 4 < y := by grind
          simp (decide := true) only [Option.bind_some, ↓reduceIte, xst_f, xst_k, xst_s, ne_eq, not_false_eq_true, not_true_eq_false, and_self, and_true, true_and, and_false, false_and, or_true, true_or, or_false, false_or, F_X10_mark, g_mPlace, h, k3, k4]
  · refine xPair.keep (m1 := m) (m2 := (xst m.1 am fGuideBookModel_thrown 0, m.2)) (v := 0) ht H ?_ (xKeep.refl m) ?_ (k_th m 0)
    · simp (decide := true) only [Option.bind_some, ↓reduceIte, xst_f, xst_k, xst_s, ne_eq, not_false_eq_true, not_true_eq_false, and_self, and_true, true_and, and_false, false_and, or_true, true_or, or_false, false_or, F_X9_mark, g_isPlace, h]
    · simp (decide := true) only [Option.bind_some, ↓reduceIte, xst_f, xst_k, xst_s, ne_eq, not_false_eq_true, not_true_eq_false, and_self, and_true, true_and, and_false, false_and, or_true, true_or, or_false, false_or, F_X10_mark, g_mPlace, h]
end PL1
