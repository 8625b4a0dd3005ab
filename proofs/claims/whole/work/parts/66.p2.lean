section PL2
variable {t nf nw nl ne tp : Nat} {n : Nat → Nat} {m : xMem}
theorem pr_fact (ht : t ≤ 600) (H : xRel t nf nw nl ne tp n m.1) (x y z : Int32) : xPair (F_X9_fact x y z) (F_X10_fact x y z) t m := by
  obtain ⟨h1, h2, h3, h4, h5, h6, h7, h8, h9, h10⟩ := id H
  have hb := h1.1
  obtain ⟨-, ⟨a1, a2⟩, ⟨b1, b2⟩, ⟨c1, c2⟩, ⟨d1, d2⟩, e1, e2⟩ := id h1
  by_cases h : 0 ≤ x ∧ x ≤ 5
  · have k1 : ¬ x < 0 := by grind
    have k2 : ¬ 5 < x := by grind
    by_cases g : 0 ≤ y ∧ y ≤ 9
    · by_cases k : 0 ≤ z ∧ z ≤ 9999
      · by_cases s : nf < 60
        · have s1 : Int32.ofNat nf < 60 := (o_lt (b := 60) (by omega) (by decide)).mpr s
          have s2 : ¬ Int32.ofNat nf = 60 := by rw [show (60 : Int32) = Int32.ofNat 60 from rfl, o_eq (by omega) (by decide)]; omega
          have hi : xin (Int32.ofNat nf) 60 = true := o_in (by omega) (by omega)
          have hk : (Int32.ofNat nf).toNatClampNeg = nf := o_nat (by omega)
          have hs : Int32.ofNat nf + 1 = Int32.ofNat (nf + 1) := o_succ
          have hs' : Int32.ofNat (nf + 1) - 1 = Int32.ofNat nf := by rw [← hs]; grind
          refine ⟨Int32.ofNat nf, (xst (xst (xst (xst (xst (xst (xst m.1 ag_facts_kind nf x) ag_facts_place nf y) ag_facts_value nf z) ag_facts_year nf (Int32.ofNat nw)) ag_facts_length nf 1) ag_facts_worth nf 1) ag_facts fFacts_size (Int32.ofNat (nf + 1)), m.2), ?_⟩
          refine ⟨(xst (xst (xst (xst (xst (xst (xst (xst (xst (xst (xst (xst (xst (xst (xst m.1 ag_facts_kind nf x) ag_facts_place nf y) ag_facts_value nf z) ag_facts_year nf (Int32.ofNat nw)) ag_facts_length nf 1) ag_facts_worth nf 1) ag_facts fFacts_size (Int32.ofNat (nf + 1))) am fGuideBookModel_thrown 0) am_kindOf nf x) am_placeOf nf y) am_worthNow nf z) am_checkedOn nf (Int32.ofNat nw)) am_lengths nf 1) am_worths nf 1) am fGuideBookModel_facts (Int32.ofNat (nf + 1)), m.2), ?_, ?_, ⟨nf + 1, nw, nl, ne, tp, n, ?_⟩, ((((((((((((((((xSameT.refl m).st rfl).st rfl).st rfl).st rfl).st rfl).st rfl).st rfl).st rfl).st rfl).st rfl).st rfl).st rfl).st rfl).st rfl).st rfl)⟩
          · simp (decide := true) only [Option.bind_some, ↓reduceIte, xst_f, xst_k, xst_s, ne_eq, not_false_eq_true, not_true_eq_false, and_self, and_true, true_and, and_false, false_and, or_true, true_or, or_false, false_or, F_X9_fact, g_isKind, g_isPlace, g_isValue, h, g, k, J_X9_fact_26, J_X9_fact_25, a1, s1, F_X2_add, hi, hk, hs, b1]
          · simp (decide := true) only [Option.bind_some, ↓reduceIte, xst_f, xst_k, xst_s, ne_eq, not_false_eq_true, not_true_eq_false, and_self, and_true, true_and, and_false, false_and, or_true, true_or, or_false, false_or, F_X10_fact, k1, k2, g_mPlace, g_mValue, g, k, a2, b2, s2, hi, hk, hs, hs']
          · refine xRel.up ht ⟨?_, ?_, (c_kind (by decide) (c_kind (by decide) (c_kind (by decide) (c_kind (by decide) (c_kind (by decide) (c_kind (by decide) (c_kind (by decide) (c_kind (by decide) (c_kind (by decide) (c_kind (by decide) (c_kind (by decide) (c_kind (by decide) (c_kind (by decide) (c_kind (by decide) (c_kind (by decide) h3))))))))))))))), (c_days (by decide) (c_days (by decide) (c_days (by decide) (c_days (by decide) (c_days (by decide) (c_days (by decide) (c_days (by decide) (c_days (by decide) (c_days (by decide) (c_days (by decide) (c_days (by decide) (c_days (by decide) (c_days (by decide) (c_days (by decide) (c_days (by decide) h4))))))))))))))), (c_let (by decide) (c_let (by decide) (c_let (by decide) (c_let (by decide) (c_let (by decide) (c_let (by decide) (c_let (by decide) (c_let (by decide) (c_let (by decide) (c_let (by decide) (c_let (by decide) (c_let (by decide) (c_let (by decide) (c_let (by decide) (c_let (by decide) h5))))))))))))))), (c_tal (by decide) (c_talr (by decide) (c_talr (by decide) (c_talr (by decide) (c_talr (by decide) (c_talr (by decide) (c_talr (by decide) (c_tal (by decide) (c_tal (by decide) (c_talr (by decide) (c_talr (by decide) (c_talr (by decide) (c_talr (by decide) (c_talr (by decide) (c_talr (by decide) h6))))))))))))))), (c_mark (by decide) (c_mark (by decide) (c_mark (by decide) (c_mark (by decide) (c_mark (by decide) (c_mark (by decide) (c_mark (by decide) (c_mark (by decide) (c_mark (by decide) (c_mark (by decide) (c_mark (by decide) (c_mark (by decide) (c_mark (by decide) (c_mark (by decide) (c_mark (by decide) h7))))))))))))))), (c_paid (by decide) (c_paid (by decide) (c_paid (by decide) (c_paid (by decide) (c_paid (by decide) (c_paid (by decide) (c_paid (by decide) (c_paid (by decide) (c_paid (by decide) (c_paid (by decide) (c_paid (by decide) (c_paid (by decide) (c_paid (by decide) (c_paid (by decide) (c_paid (by decide) h8))))))))))))))), (c_tape (by decide) (c_tape (by decide) (c_tape (by decide) (c_tape (by decide) (c_tape (by decide) (c_tape (by decide) (c_tape (by decide) (c_tape (by decide) (c_tape (by decide) (c_tape (by decide) (c_tape (by decide) (c_tape (by decide) (c_tape (by decide) (c_tape (by decide) (c_tape (by decide) h9))))))))))))))), ?_⟩
            · unfold I_num
              simp (decide := true) only [Option.bind_some, ↓reduceIte, xst_f, xst_k, xst_s, ne_eq, not_false_eq_true, not_true_eq_false, and_self, and_true, true_and, and_false, false_and, or_true, true_or, or_false, false_or, ]
              exact ⟨⟨by omega, hb.2⟩, ⟨rfl, rfl⟩, ⟨b1, b2⟩, ⟨c1, c2⟩, ⟨d1, d2⟩, e1, e2⟩
            · intro i hi'
              by_cases e : nf = i
              · subst e
                simp (decide := true) only [Option.bind_some, ↓reduceIte, xst_f, xst_k, xst_s, ne_eq, not_false_eq_true, not_true_eq_false, and_self, and_true, true_and, and_false, false_and, or_true, true_or, or_false, false_or, ]
                exact ⟨h, g, k, ⟨by rw [show (0 : Int32) = Int32.ofNat 0 from rfl, o_le (by omega) (by omega)]; omega, Int32.le_refl _⟩, ⟨by decide, by decide⟩, ⟨by decide, by decide⟩⟩
              · simp (decide := true) only [Option.bind_some, ↓reduceIte, xst_f, xst_k, xst_s, ne_eq, not_false_eq_true, not_true_eq_false, and_self, and_true, true_and, and_false, false_and, or_true, true_or, or_false, false_or, xst_k e]
                exact h2 i (by omega)
            · refine (c_ed hb.2.2.2.1 (by decide) (c_ed hb.2.2.2.1 (by decide) (c_ed hb.2.2.2.1 (by decide) (c_ed hb.2.2.2.1 (by decide) (c_ed hb.2.2.2.1 (by decide) (c_ed hb.2.2.2.1 (by decide) (c_ed hb.2.2.2.1 (by decide) (c_ed hb.2.2.2.1 (by decide) (c_ed hb.2.2.2.1 (by decide) (c_ed hb.2.2.2.1 (by decide) (c_ed hb.2.2.2.1 (by decide) (c_ed hb.2.2.2.1 (by decide) (c_ed hb.2.2.2.1 (by decide) (c_ed hb.2.2.2.1 (by decide) (c_ed hb.2.2.2.1 (by decide) ?_)))))))))))))))
              exact ⟨fun e he => ⟨(h10.1 e he).1, by have := (h10.1 e he).2.1; omega, (h10.1 e he).2.2⟩, h10.2⟩
        · have s0 : nf = 60 := by omega
          subst s0
          refine xPair.keep (m1 := m) (m2 := (xst m.1 am fGuideBookModel_thrown 0, m.2)) (v := -1) ht H ?_ (xKeep.refl m) ?_ (k_th m 0)
          · simp (decide := true) only [Option.bind_some, ↓reduceIte, xst_f, xst_k, xst_s, ne_eq, not_false_eq_true, not_true_eq_false, and_self, and_true, true_and, and_false, false_and, or_true, true_or, or_false, false_or, F_X9_fact, g_isKind, g_isPlace, g_isValue, h, g, k, J_X9_fact_26, J_X9_fact_25, a1]
          · simp (decide := true) only [Option.bind_some, ↓reduceIte, xst_f, xst_k, xst_s, ne_eq, not_false_eq_true, not_true_eq_false, and_self, and_true, true_and, and_false, false_and, or_true, true_or, or_false, false_or, F_X10_fact, k1, k2, g_mPlace, g_mValue, g, k, a2]
      · refine xPair.keep (m1 := m) (m2 := (xst m.1 am fGuideBookModel_thrown 0, m.2)) (v := -1) ht H ?_ (xKeep.refl m) ?_ (k_th m 0)
        · simp (decide := true) only [Option.bind_some, ↓reduceIte, xst_f, xst_k, xst_s, ne_eq, not_false_eq_true, not_true_eq_false, and_self, and_true, true_and, and_false, false_and, or_true, true_or, or_false, false_or, F_X9_fact, g_isKind, g_isPlace, g_isValue, h, g, k, J_X9_fact_26, J_X9_fact_25]
        · simp (decide := true) only [Option.bind_some, ↓reduceIte, xst_f, xst_k, xst_s, ne_eq, not_false_eq_true, not_true_eq_false, and_self, and_true, true_and, and_false, false_and, or_true, true_or, or_false, false_or, F_X10_fact, k1, k2, g_mPlace, g_mValue, g, k]
    · refine xPair.keep (m1 := m) (m2 := (xst m.1 am fGuideBookModel_thrown 0, m.2)) (v := -1) ht H ?_ (xKeep.refl m) ?_ (k_th m 0)
      · simp (decide := true) only [Option.bind_some, ↓reduceIte, xst_f, xst_k, xst_s, ne_eq, not_false_eq_true, not_true_eq_false, and_self, and_true, true_and, and_false, false_and, or_true, true_or, or_false, false_or, F_X9_fact, g_isKind, g_isPlace, h, g, J_X9_fact_26, J_X9_fact_25]
      · simp (decide := true) only [Option.bind_some, ↓reduceIte, xst_f, xst_k, xst_s, ne_eq, not_false_eq_true, not_true_eq_false, and_self, and_true, true_and, and_false, false_and, or_true, true_or, or_false, false_or, F_X10_fact, k1, k2, g_mPlace, g]
  · refine xPair.keep (m1 := m) (m2 := (xst m.1 am fGuideBookModel_thrown 0, m.2)) (v := -1) ht H ?_ (xKeep.refl m) ?_ (k_th m 0)
    · simp (decide := true) only [Option.bind_some, ↓reduceIte, xst_f, xst_k, xst_s, ne_eq, not_false_eq_true, not_true_eq_false, and_self, and_true, true_and, and_false, false_and, or_true, true_or, or_false, false_or, F_X9_fact, g_isKind, h, J_X9_fact_26, J_X9_fact_25]
    · by_cases k1 : x < 0
      · simp (decide := true) only [Option.bind_some, ↓reduceIte, xst_f, xst_k, xst_s, ne_eq, not_false_eq_true, not_true_eq_false, and_self, and_true, true_and, and_false, false_and, or_true, true_or, or_false, false_or, F_X10_fact, k1]
      · have k2 : 5 < x := by grind
        simp (decide := true) only [Option.bind_some, ↓reduceIte, xst_f, xst_k, xst_s, ne_eq, not_false_eq_true, not_true_eq_false, and_self, and_true, true_and, and_false, false_and, or_true, true_or, or_false, false_or, F_X10_fact, k1, k2]
theorem xct_s {P : Nat → Bool} {n : Nat} : xct P (n + 1) = xct P n + (if P n then 1 else 0) := rfl
theorem pr_letter (ht : t ≤ 600) (H : xRel t nf nw nl ne tp n m.1) (x y z : Int32) : xPair (F_X9_letter x y z) (F_X10_letter x y z) t m := by
  obtain ⟨h1, h2, h3, h4, h5, h6, h7, h8, h9, h10⟩ := id H
  have hb := h1.1
  obtain ⟨-, ⟨a1, a2⟩, ⟨b1, b2⟩, ⟨c1, c2⟩, ⟨d1, d2⟩, e1, e2⟩ := id h1
  by_cases h : 0 ≤ x ∧ x ≤ 19
  · have k1 : ¬ x < 0 := by grind
    have k2 : ¬ 19 < x := by grind
    by_cases g : 0 ≤ y ∧ y < Int32.ofNat nf
    · by_cases k : 0 ≤ z ∧ z ≤ 9999
      · by_cases s : nl < 100
        · have s1 : Int32.ofNat nl < 100 := (o_lt (b := 100) (by omega) (by decide)).mpr s
          have s2 : ¬ Int32.ofNat nl = 100 := by rw [show (100 : Int32) = Int32.ofNat 100 from rfl, o_eq (by omega) (by decide)]; omega
          have hi : xin (Int32.ofNat nl) 100 = true := o_in (by omega) (by omega)
          have hk : (Int32.ofNat nl).toNatClampNeg = nl := o_nat (by omega)
          have hs : Int32.ofNat nl + 1 = Int32.ofNat (nl + 1) := o_succ
          have hs' : Int32.ofNat (nl + 1) - 1 = Int32.ofNat nl := by rw [← hs]; grind
          have hz := h5.2 nl s
          have hz0 := hz.2 (Nat.le_refl _)
          refine ⟨Int32.ofNat nl, (xst (xst (xst (xst (xst (xst m.1 ag_letters_reader nl x) ag_letters_about nl y) ag_letters_said nl z) ag_letters_state nl 0) ag_letters fLetters_size (Int32.ofNat (nl + 1))) ag_letters fLetters_open (m.1 ag_letters fLetters_open + 1), m.2), ?_⟩
          refine ⟨(xst (xst (xst (xst (xst (xst (xst (xst (xst (xst (xst m.1 ag_letters_reader nl x) ag_letters_about nl y) ag_letters_said nl z) ag_letters_state nl 0) ag_letters fLetters_size (Int32.ofNat (nl + 1))) ag_letters fLetters_open (m.1 ag_letters fLetters_open + 1)) am fGuideBookModel_thrown 0) am_readers nl x) am_about nl y) am_says nl z) am fGuideBookModel_letters (Int32.ofNat (nl + 1)), m.2), ?_, ?_, ⟨nf, nw, nl + 1, ne, tp, n, ?_⟩, ((((((((((((xSameT.refl m).st rfl).st rfl).st rfl).st rfl).st rfl).st rfl).st rfl).st rfl).st rfl).st rfl).st rfl)⟩
          · simp (decide := true) only [Option.bind_some, ↓reduceIte, xst_f, xst_k, xst_s, ne_eq, not_false_eq_true, not_true_eq_false, and_self, and_true, true_and, and_false, false_and, or_true, true_or, or_false, false_or, F_X9_letter, g_isReader, g_has, g_isValue, h, a1, g, k, J_X9_letter_30, J_X9_letter_29, c1, s1, F_X3_add, hi, hk, hs]
          · simp (decide := true) only [Option.bind_some, ↓reduceIte, xst_f, xst_k, xst_s, ne_eq, not_false_eq_true, not_true_eq_false, and_self, and_true, true_and, and_false, false_and, or_true, true_or, or_false, false_or, F_X10_letter, k1, k2, g_mFact, a2, g_mValue, g, k, c2, s2, hi, hk, hs, hs']
          · refine xRel.up ht ⟨?_, (c_fact (by decide) (c_fact (by decide) (c_fact (by decide) (c_fact (by decide) (c_fact (by decide) (c_fact (by decide) (c_fact (by decide) (c_fact (by decide) (c_fact (by decide) (c_fact (by decide) (c_fact (by decide) h2))))))))))), (c_kind (by decide) (c_kind (by decide) (c_kind (by decide) (c_kind (by decide) (c_kind (by decide) (c_kind (by decide) (c_kind (by decide) (c_kind (by decide) (c_kind (by decide) (c_kind (by decide) (c_kind (by decide) h3))))))))))), (c_days (by decide) (c_days (by decide) (c_days (by decide) (c_days (by decide) (c_days (by decide) (c_days (by decide) (c_days (by decide) (c_days (by decide) (c_days (by decide) (c_days (by decide) (c_days (by decide) h4))))))))))), ?_, ?_, (c_mark (by decide) (c_mark (by decide) (c_mark (by decide) (c_mark (by decide) (c_mark (by decide) (c_mark (by decide) (c_mark (by decide) (c_mark (by decide) (c_mark (by decide) (c_mark (by decide) (c_mark (by decide) h7))))))))))), (c_paid (by decide) (c_paid (by decide) (c_paid (by decide) (c_paid (by decide) (c_paid (by decide) (c_paid (by decide) (c_paid (by decide) (c_paid (by decide) (c_paid (by decide) (c_paid (by decide) (c_paid (by decide) h8))))))))))), (c_tape (by decide) (c_tape (by decide) (c_tape (by decide) (c_tape (by decide) (c_tape (by decide) (c_tape (by decide) (c_tape (by decide) (c_tape (by decide) (c_tape (by decide) (c_tape (by decide) (c_tape (by decide) h9))))))))))), (c_ed hb.2.2.2.1 (by decide) (c_ed hb.2.2.2.1 (by decide) (c_ed hb.2.2.2.1 (by decide) (c_ed hb.2.2.2.1 (by decide) (c_ed hb.2.2.2.1 (by decide) (c_ed hb.2.2.2.1 (by decide) (c_ed hb.2.2.2.1 (by decide) (c_ed hb.2.2.2.1 (by decide) (c_ed hb.2.2.2.1 (by decide) (c_ed hb.2.2.2.1 (by decide) (c_ed hb.2.2.2.1 (by decide) h10)))))))))))⟩
            · unfold I_num
              simp (decide := true) only [Option.bind_some, ↓reduceIte, xst_f, xst_k, xst_s, ne_eq, not_false_eq_true, not_true_eq_false, and_self, and_true, true_and, and_false, false_and, or_true, true_or, or_false, false_or, ]
              exact ⟨⟨hb.1, hb.2.1, by omega, hb.2.2.2⟩, ⟨a1, a2⟩, ⟨b1, b2⟩, ⟨rfl, rfl⟩, ⟨d1, d2⟩, e1, e2⟩
            · refine ⟨fun l hl => ?_, fun l hl => ?_⟩
              · by_cases e : nl = l
                · subst e
                  simp (decide := true) only [Option.bind_some, ↓reduceIte, xst_f, xst_k, xst_s, ne_eq, not_false_eq_true, not_true_eq_false, and_self, and_true, true_and, and_false, false_and, or_true, true_or, or_false, false_or, ]
                  exact ⟨h, k⟩
                · simp (decide := true) only [Option.bind_some, ↓reduceIte, xst_f, xst_k, xst_s, ne_eq, not_false_eq_true, not_true_eq_false, and_self, and_true, true_and, and_false, false_and, or_true, true_or, or_false, false_or, xst_k e]
                  exact h5.1 l (by omega)
              · by_cases e : nl = l
                · subst e
                  simp (decide := true) only [Option.bind_some, ↓reduceIte, xst_f, xst_k, xst_s, ne_eq, not_false_eq_true, not_true_eq_false, and_self, and_true, true_and, and_false, false_and, or_true, true_or, or_false, false_or, ]
                  exact ⟨⟨by rw [← hz.1.1, hz0], ⟨by decide, by decide⟩⟩, fun _ => trivial⟩
                · simp (decide := true) only [Option.bind_some, ↓reduceIte, xst_f, xst_k, xst_s, ne_eq, not_false_eq_true, not_true_eq_false, and_self, and_true, true_and, and_false, false_and, or_true, true_or, or_false, false_or, xst_k e]
                  exact ⟨(h5.2 l hl).1, fun q => (h5.2 l hl).2 (by omega)⟩
            · refine ⟨fun r hr => ?_, ?_⟩
              · simp (decide := true) only [Option.bind_some, ↓reduceIte, xst_f, xst_k, xst_s, ne_eq, not_false_eq_true, not_true_eq_false, and_self, and_true, true_and, and_false, false_and, or_true, true_or, or_false, false_or, xct_s]
                refine ⟨?_, ?_⟩
                · rw [xct_cg (P := fun l => decide _) (Q := fun l => decide (m.1 ag_letters_reader l = Int32.ofNat r ∧ m.1 ag_letters_state l = 1)) nl (fun l hl => by simp (decide := true) only [Option.bind_some, ↓reduceIte, xst_f, xst_k, xst_s, ne_eq, not_false_eq_true, not_true_eq_false, and_self, and_true, true_and, and_false, false_and, or_true, true_or, or_false, false_or, xst_k (show nl ≠ l by omega)])]
                  rw [(h6.1 r hr).1]
                  simp
                · rw [xct_cg (P := fun l => decide _) (Q := fun l => decide (m.1 ag_letters_reader l = Int32.ofNat r ∧ m.1 ag_letters_state l = 2)) nl (fun l hl => by simp (decide := true) only [Option.bind_some, ↓reduceIte, xst_f, xst_k, xst_s, ne_eq, not_false_eq_true, not_true_eq_false, and_self, and_true, true_and, and_false, false_and, or_true, true_or, or_false, false_or, xst_k (show nl ≠ l by omega)])]
                  rw [(h6.1 r hr).2]
                  simp
              · simp (decide := true) only [Option.bind_some, ↓reduceIte, xst_f, xst_k, xst_s, ne_eq, not_false_eq_true, not_true_eq_false, and_self, and_true, true_and, and_false, false_and, or_true, true_or, or_false, false_or, xct_s]
                rw [xct_cg (P := fun l => decide _) (Q := fun l => decide (m.1 ag_letters_state l = 0)) nl (fun l hl => by simp (decide := true) only [Option.bind_some, ↓reduceIte, xst_f, xst_k, xst_s, ne_eq, not_false_eq_true, not_true_eq_false, and_self, and_true, true_and, and_false, false_and, or_true, true_or, or_false, false_or, xst_k (show nl ≠ l by omega)]), h6.2]
                exact o_succ
        · have s0 : nl = 100 := by omega
          subst s0
          refine xPair.keep (m1 := m) (m2 := (xst m.1 am fGuideBookModel_thrown 0, m.2)) (v := -1) ht H ?_ (xKeep.refl m) ?_ (k_th m 0)
          · simp (decide := true) only [Option.bind_some, ↓reduceIte, xst_f, xst_k, xst_s, ne_eq, not_false_eq_true, not_true_eq_false, and_self, and_true, true_and, and_false, false_and, or_true, true_or, or_false, false_or, F_X9_letter, g_isReader, g_has, g_isValue, h, a1, g, k, J_X9_letter_30, J_X9_letter_29, c1]
          · simp (decide := true) only [Option.bind_some, ↓reduceIte, xst_f, xst_k, xst_s, ne_eq, not_false_eq_true, not_true_eq_false, and_self, and_true, true_and, and_false, false_and, or_true, true_or, or_false, false_or, F_X10_letter, k1, k2, g_mFact, a2, g_mValue, g, k, c2]
      · refine xPair.keep (m1 := m) (m2 := (xst m.1 am fGuideBookModel_thrown 0, m.2)) (v := -1) ht H ?_ (xKeep.refl m) ?_ (k_th m 0)
        · simp (decide := true) only [Option.bind_some, ↓reduceIte, xst_f, xst_k, xst_s, ne_eq, not_false_eq_true, not_true_eq_false, and_self, and_true, true_and, and_false, false_and, or_true, true_or, or_false, false_or, F_X9_letter, g_isReader, g_has, g_isValue, h, a1, g, k, J_X9_letter_30, J_X9_letter_29]
        · simp (decide := true) only [Option.bind_some, ↓reduceIte, xst_f, xst_k, xst_s, ne_eq, not_false_eq_true, not_true_eq_false, and_self, and_true, true_and, and_false, false_and, or_true, true_or, or_false, false_or, F_X10_letter, k1, k2, g_mFact, a2, g_mValue, g, k]
    · refine xPair.keep (m1 := m) (m2 := (xst m.1 am fGuideBookModel_thrown 0, m.2)) (v := -1) ht H ?_ (xKeep.refl m) ?_ (k_th m 0)
      · simp (decide := true) only [Option.bind_some, ↓reduceIte, xst_f, xst_k, xst_s, ne_eq, not_false_eq_true, not_true_eq_false, and_self, and_true, true_and, and_false, false_and, or_true, true_or, or_false, false_or, F_X9_letter, g_isReader, g_has, h, a1, g, J_X9_letter_30, J_X9_letter_29]
      · simp (decide := true) only [Option.bind_some, ↓reduceIte, xst_f, xst_k, xst_s, ne_eq, not_false_eq_true, not_true_eq_false, and_self, and_true, true_and, and_false, false_and, or_true, true_or, or_false, false_or, F_X10_letter, k1, k2, g_mFact, a2, g]
  · refine xPair.keep (m1 := m) (m2 := (xst m.1 am fGuideBookModel_thrown 0, m.2)) (v := -1) ht H ?_ (xKeep.refl m) ?_ (k_th m 0)
    · simp (decide := true) only [Option.bind_some, ↓reduceIte, xst_f, xst_k, xst_s, ne_eq, not_false_eq_true, not_true_eq_false, and_self, and_true, true_and, and_false, false_and, or_true, true_or, or_false, false_or, F_X9_letter, g_isReader, h, J_X9_letter_30, J_X9_letter_29]
    · by_cases k1 : x < 0
      · simp (decide := true) only [Option.bind_some, ↓reduceIte, xst_f, xst_k, xst_s, ne_eq, not_false_eq_true, not_true_eq_false, and_self, and_true, true_and, and_false, false_and, or_true, true_or, or_false, false_or, F_X10_letter, k1]
      · have k2 : 19 < x := by grind
        simp (decide := true) only [Option.bind_some, ↓reduceIte, xst_f, xst_k, xst_s, ne_eq, not_false_eq_true, not_true_eq_false, and_self, and_true, true_and, and_false, false_and, or_true, true_or, or_false, false_or, F_X10_letter, k1, k2]
end PL2
