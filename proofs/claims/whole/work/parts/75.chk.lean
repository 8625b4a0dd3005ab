section CK4
variable {t nf nw nl ne tp : Nat} {n : Nat → Nat} {m : xMem}
theorem pr_check (ht : t ≤ 600) (H : xRel t nf nw nl ne tp n m.1) (x y : Int32) : xPair (F_X9_check x y) (F_X10_check x y) t m := by
  obtain ⟨h1, h2, h3, h4, h5, h6, h7, h8, h9, h10⟩ := id H
  have hb := h1.1
  obtain ⟨-, ⟨a1, a2⟩, ⟨b1, b2⟩, ⟨c1, c2⟩, ⟨d1, d2⟩, e1, e2⟩ := id h1
  by_cases h : 0 ≤ x ∧ x < Int32.ofNat nf
  · by_cases g : 0 ≤ y ∧ y ≤ 9999
    · obtain ⟨f, hf, rfl⟩ := g_ix h (by omega)
      have hq : (0 ≤ Int32.ofNat f ∧ Int32.ofNat f < Int32.ofNat nf) = True := eq_true h
      have gq : (0 ≤ y ∧ y ≤ 9999) = True := eq_true g
      have d10 : ¬ ((1 : Int32) = 0) := by decide
      obtain ⟨⟨kK, kR⟩, ⟨pP, pR⟩, ⟨vV, vR⟩, ⟨yY, yR⟩, ⟨lL, lR⟩, wW, wR⟩ := h2 f hf
      obtain ⟨κ, hκ, hκe⟩ := g_rx (n := 5) kR (by omega)
      obtain ⟨mA, A1, A2, A3, A4, A5⟩ := c_settle (f := f) (v := y) (nl := nl) (by omega) nl 0 xfuel m c1 (fun l hl => (h5.1 l hl).1.2) h6 (by omega) (by rw [xfuel_eq]; omega)
      obtain ⟨mB, B1, B2, B3, B4⟩ := e_settle (f := f) (v := y) (ne := ne) (n := n) (by omega) (by omega) ne 0 xfuel mA (by rw [A3 _ _ (by decide) (by decide)]; exact d1) (fun e he => by
        rw [A3 _ _ (by decide) (fun w => absurd w.1 (by decide))]
        exact ⟨(h10.1 e he).1, by have := (h10.1 e he).2.1; omega⟩) (by omega) (by rw [xfuel_eq]; omega)
      obtain ⟨mC, C1, C2, C3, C4, C5, C6, C7⟩ := c_renew (m := mB) (f := f) (κ := κ) (v := y) (by omega) (by omega) (by
        rw [B3 _ _ (fun w => absurd w.1 (by decide)), A3 _ _ (by decide) (fun w => absurd w.1 (by decide))]
        exact hκe)
      -- cells that both leave
      have FC : ∀ b j, ¬ (14 ≤ b ∧ b ≤ 16) → ¬ (b = 10 ∧ j = 7) → ¬ (59 ≤ b ∧ b ≤ 68) → b ≠ 8 → b ≠ 9 → b ≠ 4 → b ≠ 5 → mC.1 b j = m.1 b j := by
        intro b j w1 w2 w3 w4 w5 w6 w7
        rw [C3 b j (fun w => w4 w.1) (fun w => w5 w.1) (fun w => w6 w.1) (fun w => w7 w.1), B3 b j (fun w => w3 ⟨w.1, w.2.1⟩), A3 b j w1 w2]
      obtain ⟨mD, hmD⟩ : ∃ mD : xMem, mD = (xst mC.1 am fGuideBookModel_thrown 0, mC.2) := ⟨_, rfl⟩
      have FD : ∀ b j, ¬ (b = 87 ∧ j = 0) → mD.1 b j = mC.1 b j := by
        intro b j w
        rw [hmD]
        exact xst_n w
      have FDm : ∀ b j, ¬ (14 ≤ b ∧ b ≤ 16) → ¬ (b = 10 ∧ j = 7) → ¬ (59 ≤ b ∧ b ≤ 68) → b ≠ 8 → b ≠ 9 → b ≠ 4 → b ≠ 5 → ¬ (b = 87 ∧ j = 0) → mD.1 b j = m.1 b j := fun b j w1 w2 w3 w4 w5 w6 w7 w8 => (FD b j w8).trans (FC b j w1 w2 w3 w4 w5 w6 w7)
      have FDr : ∀ b, 17 ≤ b → ¬ (59 ≤ b ∧ b ≤ 68) → b ≠ 87 → mD.1 b = m.1 b := fun b w1 w2 w3 => funext fun j => FDm b j (by omega) (by omega) w2 (by omega) (by omega) (by omega) (by omega) (by omega)
      have FDa : ∀ j, j ≠ 0 → mD.1 87 j = m.1 87 j := fun j w => FDm 87 j (by omega) (by omega) (by omega) (by omega) (by omega) (by omega) (by omega) (by omega)
      obtain ⟨mF, F1, F2, F3, F4, F5, F6, F7, F8, F9, F10⟩ := m_check (m := mD) (f := f) (κ := κ) (v := y) (nl := nl) (ne := ne) (by omega) (by omega) (by
        rw [FDr _ (by decide) (by decide) (by decide)]
        exact kK ▸ hκe) (by omega) (by omega) ((FDa _ (by decide)).trans c2) ((FDa _ (by decide)).trans d2)
      have FFr : ∀ b, 17 ≤ b → ¬ (59 ≤ b ∧ b ≤ 68) → b ≠ 87 → b ≠ 116 → b ≠ 123 → b ≠ 109 → b ≠ 110 → b ≠ 105 → b ≠ 106 → mF.1 b = m.1 b := fun b w1 w2 w3 w4 w5 w6 w7 w8 w9 => funext fun j => (F3 b j w4 w5 (by omega) (by omega) (by omega) (by omega)).trans (congrFun (FDr b w1 w2 w3) j)
      have FFa : ∀ j, j ≠ 0 → mF.1 87 j = m.1 87 j := fun j w => (F3 87 j (by omega) (by omega) (by omega) (by omega) (by omega) (by omega)).trans (FDa j w)
      have FFs : ∀ b j, b < 14 → ¬ (b = 10 ∧ j = 7) → b ≠ 8 → b ≠ 9 → b ≠ 4 → b ≠ 5 → mF.1 b j = m.1 b j := fun b j w1 w2 w4 w5 w6 w7 => (F3 b j (by omega) (by omega) (by omega) (by omega) (by omega) (by omega)).trans (FDm b j (by omega) w2 (by omega) w4 w5 w6 w7 (by omega))
      have FFC : ∀ b j, b < 80 → mF.1 b j = mC.1 b j := fun b j w => (F3 b j (by omega) (by omega) (by omega) (by omega) (by omega) (by omega)).trans (FD b j (by omega))
      -- the value that both had
      have ev : mB.1 ag_facts_value f = m.1 ag_facts_value f := by rw [B3 _ _ (fun w => absurd w.1 (by decide)), A3 _ _ (by decide) (fun w => absurd w.1 (by decide))]
      have ev' : mD.1 am_worthNow f = m.1 ag_facts_value f := by rw [FDr _ (by decide) (by decide) (by decide)]; exact vV.symm
      rw [ev] at C1 C5
      rw [ev'] at F1 F5
      have enow : mB.1 ag_facts fFacts_now = Int32.ofNat nw := by rw [B3 _ _ (fun w => absurd w.1 (by decide)), A3 _ _ (by decide) (fun w => absurd w.1 (by decide))]; exact b1
      have enow' : mD.1 am fGuideBookModel_now = Int32.ofNat nw := (FDa _ (by decide)).trans b2
      have ey : mB.1 5 f = m.1 ag_facts_year f := by rw [B3 _ _ (fun w => absurd w.1 (by decide)), A3 _ _ (by decide) (fun w => absurd w.1 (by decide))]
      have ey' : mD.1 106 f = m.1 ag_facts_year f := by rw [FDr _ (by decide) (by decide) (by decide)]; exact yY.symm
      have e8 : ∀ b k, b < 10 → mB.1 b k = mA.1 b k := fun b k w => B3 b k (by omega)
      have e8' : ∀ b k, b < 10 → mB.1 b k = m.1 b k := fun b k w => (e8 b k w).trans (A3 b k (by omega) (by omega))
      rw [enow, ey, e8' _ _ (by decide)] at C4
      rw [e8' _ _ (by decide)] at C5
      rw [enow] at C7
      rw [enow', ey', FDr _ (by decide) (by decide) (by decide)] at F4
      rw [FDr _ (by decide) (by decide) (by decide)] at F5
      rw [enow'] at F7
      refine ⟨if m.1 ag_facts_value f = y then 0 else 1, mC, mF, ?_, ?_, ⟨nf, nw, nl, ne, tp, n, ?_⟩, ⟨fun b j q => ?_, ?_⟩⟩
      · rw [← o_zero] at A1 B1
        by_cases w : m.1 ag_facts_value f = y
        · rw [if_pos w] at C1
          simp (decide := true) only [Option.bind_some, ↓reduceIte, xst_f, xst_k, xst_s, ne_eq, not_false_eq_true, not_true_eq_false, and_self, and_true, true_and, and_false, false_and, or_true, true_or, or_false, false_or, F_X9_check, g_has, a1, hq, d10, g_isValue, gq, F_X3_settle, A1, F_X1_settle, B1, C1, w]
        · rw [if_neg w] at C1
          simp (decide := true) only [Option.bind_some, ↓reduceIte, xst_f, xst_k, xst_s, ne_eq, not_false_eq_true, not_true_eq_false, and_self, and_true, true_and, and_false, false_and, or_true, true_or, or_false, false_or, F_X9_check, g_has, a1, hq, d10, g_isValue, gq, F_X3_settle, A1, F_X1_settle, B1, C1, w]
      · have hi' : xin (Int32.ofNat f) 60 = true := o_in (by omega) (by omega)
        have hn' : (Int32.ofNat f).toNatClampNeg = f := o_nat (by omega)
        have am2 : mD.1 am fGuideBookModel_facts = Int32.ofNat nf := (FDa _ (by decide)).trans a2
        unfold F_X10_check
        rw [← hmD]
        simp (decide := true) only [Option.bind_some, ↓reduceIte, xst_f, xst_k, xst_s, ne_eq, not_false_eq_true, not_true_eq_false, and_self, and_true, true_and, and_false, false_and, or_true, true_or, or_false, false_or, g_mFact, am2, hq, d10, g_mValue, gq, hi', hn', ev']
        exact F1
      · -- the relation
        have hd : (Int32.ofNat nw - m.1 ag_facts_year f).toInt = nw - (m.1 ag_facts_year f).toInt ∧ 0 ≤ (m.1 ag_facts_year f).toInt ∧ (m.1 ag_facts_year f).toInt ≤ nw := by
          have y1 := Int32.le_iff_toInt_le.mp yR.1
          have y2 := Int32.le_iff_toInt_le.mp yR.2
          rw [o_toInt (by omega)] at y2
          have z : (0 : Int32).toInt = 0 := rfl
          rw [i_sub (by rw [o_toInt (by omega)]; omega) (by rw [o_toInt (by omega)]; omega), o_toInt (by omega)]
          omega
        refine ⟨?_, ?_, ?_, ?_, ?_, ?_, ?_, ?_, ?_, ?_⟩
        · unfold I_num
          rw [FFs ag_facts fFacts_size (by decide) (by decide) (by decide) (by decide) (by decide) (by decide), FFs ag_facts fFacts_now (by decide) (by decide) (by decide) (by decide) (by decide) (by decide), FFs ag_letters fLetters_size (by decide) (by decide) (by decide) (by decide) (by decide) (by decide), FFr ag_editions (by decide) (by decide) (by decide) (by decide) (by decide) (by decide) (by decide) (by decide) (by decide), FFr ag_tape (by decide) (by decide) (by decide) (by decide) (by decide) (by decide) (by decide) (by decide) (by decide)]
          have := FFa fGuideBookModel_facts (by decide)
          have q2 := FFa fGuideBookModel_now (by decide)
          have q3 := FFa fGuideBookModel_letters (by decide)
          have q4 := FFa fGuideBookModel_editions (by decide)
          have q5 := FFa fGuideBookModel_taped (by decide)
          rw [show am = 87 from rfl, this, q2, q3, q4, q5]
          exact h1
        · intro i hi
          have r2 : ∀ b, b < 14 → b ≠ 10 → b ≠ 8 → b ≠ 9 → b ≠ 4 → b ≠ 5 → mF.1 b i = m.1 b i := fun b w1 w2 w3 w4 w5 w6 => FFs b i w1 (by omega) w3 w4 w5 w6
          rw [r2 ag_facts_kind (by decide) (by decide) (by decide) (by decide) (by decide) (by decide), r2 ag_facts_place (by decide) (by decide) (by decide) (by decide) (by decide) (by decide), r2 ag_facts_length (by decide) (by decide) (by decide) (by decide) (by decide) (by decide), r2 ag_facts_worth (by decide) (by decide) (by decide) (by decide) (by decide) (by decide),
            FFr am_kindOf (by decide) (by decide) (by decide) (by decide) (by decide) (by decide) (by decide) (by decide) (by decide), FFr am_placeOf (by decide) (by decide) (by decide) (by decide) (by decide) (by decide) (by decide) (by decide) (by decide), FFr am_lengths (by decide) (by decide) (by decide) (by decide) (by decide) (by decide) (by decide) (by decide) (by decide), FFr am_worths (by decide) (by decide) (by decide) (by decide) (by decide) (by decide) (by decide) (by decide) (by decide)]
          obtain ⟨s1, s2, s3, s4, s5, s6⟩ := h2 i hi
          refine ⟨s1, s2, ?_, ?_, s5, s6⟩
          · by_cases e : i = f
            · subst e
              rw [show ag_facts_value = 4 from rfl, show am_worthNow = 105 from rfl, FFC 4 i (by omega), C6, F6]
              exact ⟨rfl, g⟩
            · have q1 : mF.1 4 i = m.1 4 i := by rw [FFC 4 i (by omega), C3 4 i (by omega) (by omega) (by omega) (by omega), e8' 4 i (by omega)]
              have q2 : mF.1 105 i = m.1 105 i := by rw [F3 105 i (by omega) (by omega) (by omega) (by omega) (by omega) (by omega), FDr 105 (by omega) (by omega) (by omega)]
              rw [show ag_facts_value = 4 from rfl, show am_worthNow = 105 from rfl, q1, q2]
              exact s3
          · by_cases e : i = f
            · subst e
              rw [show ag_facts_year = 5 from rfl, show am_checkedOn = 106 from rfl, FFC 5 i (by omega), C7, F7]
              exact ⟨rfl, by rw [o_zero, o_le (by omega) (by omega)]; omega, Int32.le_refl _⟩
            · have q1 : mF.1 5 i = m.1 5 i := by rw [FFC 5 i (by omega), C3 5 i (by omega) (by omega) (by omega) (by omega), e8' 5 i (by omega)]
              have q2 : mF.1 106 i = m.1 106 i := by rw [F3 106 i (by omega) (by omega) (by omega) (by omega) (by omega) (by omega), FDr 106 (by omega) (by omega) (by omega)]
              rw [show ag_facts_year = 5 from rfl, show am_checkedOn = 106 from rfl, q1, q2]
              exact s4
        · intro k hk
          by_cases e : k = κ
          · subst e
            rw [show ag_facts_kindYears = 8 from rfl, show am_kindYears = 109 from rfl, show ag_facts_kindChanges = 9 from rfl, show am_kindChanges = 110 from rfl, FFC 8 k (by omega), C4, F4, FFC 9 k (by omega), C5, F5]
            obtain ⟨⟨s1, s2, s3⟩, s4, s5, s6⟩ := h3 k hk
            rw [show ag_facts_kindYears = 8 from rfl] at s1 s2 s3
            rw [show ag_facts_kindChanges = 9 from rfl] at s4 s5 s6
            rw [show am_kindYears = 109 from rfl] at s1
            rw [show am_kindChanges = 110 from rfl] at s4
            refine ⟨⟨by rw [s1], ?_⟩, by rw [s4], ?_⟩
            · have z1 := Int32.le_iff_toInt_le.mp s2
              have z2 := Int32.le_iff_toInt_le.mp s3
              rw [o_toInt (by omega)] at z2
              have z : (0 : Int32).toInt = 0 := rfl
              refine ⟨Int32.le_iff_toInt_le.mpr ?_, Int32.le_iff_toInt_le.mpr ?_⟩
              · rw [i_add (by omega) (by omega)]; omega
              · rw [i_add (by omega) (by omega), o_toInt (by omega)]; omega
            · have z1 := Int32.le_iff_toInt_le.mp s5
              have z2 := Int32.le_iff_toInt_le.mp s6
              rw [o_toInt (by omega)] at z2
              have z : (0 : Int32).toInt = 0 := rfl
              have z' : (1 : Int32).toInt = 1 := rfl
              by_cases w : m.1 ag_facts_value f = y
              · rw [if_pos w, Int32.add_zero]
                exact ⟨s5, Int32.le_iff_toInt_le.mpr (by rw [o_toInt (by omega)]; omega)⟩
              · rw [if_neg w]
                refine ⟨Int32.le_iff_toInt_le.mpr ?_, Int32.le_iff_toInt_le.mpr ?_⟩
                · rw [i_add (by omega) (by omega)]; omega
                · rw [i_add (by omega) (by omega), o_toInt (by omega)]; omega
          · have q1 : ∀ b, b < 10 → b ≠ 4 → b ≠ 5 → mF.1 b k = m.1 b k := fun b w1 w2 w3 => by rw [FFC b k (by omega), C3 b k (by omega) (by omega) (by omega) (by omega), e8' b k (by omega)]
            have q2 : ∀ b, b = 109 ∨ b = 110 → mF.1 b k = m.1 b k := fun b w => by rw [F3 b k (by omega) (by omega) (by omega) (by omega) (by omega) (by omega), FDr b (by omega) (by omega) (by omega)]
            rw [q1 ag_facts_kindYears (by decide) (by decide) (by decide), q1 ag_facts_kindChanges (by decide) (by decide) (by decide), q2 am_kindYears (Or.inl rfl), q2 am_kindChanges (Or.inr rfl)]
            exact P_kind.up ht h3 k hk
        · unfold I_days
          rw [FFr ag_daysOf (by decide) (by decide) (by decide) (by decide) (by decide) (by decide) (by decide) (by decide) (by decide), FFr am_takes (by decide) (by decide) (by decide) (by decide) (by decide) (by decide) (by decide) (by decide) (by decide)]
          exact h4
        · have r2 : ∀ b l, 11 ≤ b → b ≤ 13 → mF.1 b l = m.1 b l := fun b l w1 w2 => FFs b l (by omega) (by omega) (by omega) (by omega) (by omega) (by omega)
          have zc : ∀ l, mF.1 14 l = mA.1 14 l := fun l => by rw [FFC 14 l (by omega), C3 14 l (by omega) (by omega) (by omega) (by omega), B3 14 l (by omega)]
          refine ⟨fun l hl => ?_, fun l hl => ?_⟩
          · rw [r2 ag_letters_reader l (by decide) (by decide), r2 ag_letters_about l (by decide) (by decide), r2 ag_letters_said l (by decide) (by decide), FFr am_readers (by decide) (by decide) (by decide) (by decide) (by decide) (by decide) (by decide) (by decide) (by decide), FFr am_about (by decide) (by decide) (by decide) (by decide) (by decide) (by decide) (by decide) (by decide) (by decide), FFr am_says (by decide) (by decide) (by decide) (by decide) (by decide) (by decide) (by decide) (by decide) (by decide)]
            exact h5.1 l hl
          · rw [show ag_letters_state = 14 from rfl, show am_proofs = 116 from rfl, zc, A4, F8, FDr 116 (by omega) (by omega) (by omega), FDr am_about (by decide) (by decide) (by decide), FDr am_says (by decide) (by decide) (by decide)]
            obtain ⟨⟨s1, s2⟩, s3⟩ := h5.2 l hl
            rw [show ag_letters_state = 14 from rfl] at s1 s2 s3
            rw [show am_proofs = 116 from rfl] at s1
            by_cases wl : l < nl
            · obtain ⟨-, t2, ⟨t3, -⟩⟩ := h5.1 l wl
              rw [← s1, ← t2, ← t3]
              by_cases wo : opn m.1 f l = true
              · have wo' : m.1 ag_letters_about l = Int32.ofNat f ∧ m.1 14 l = 0 := of_decide_eq_true wo
                rw [if_pos (c := 0 ≤ l ∧ l < nl ∧ opn m.1 f l = true) ⟨Nat.zero_le _, wl, wo⟩, if_pos (c := l < nl ∧ m.1 ag_letters_about l = Int32.ofNat f ∧ m.1 14 l = 0) ⟨wl, wo'⟩]
                refine ⟨⟨rfl, ?_⟩, fun w => absurd w (by omega)⟩
                by_cases ws : m.1 ag_letters_said l = y
                · rw [if_pos ws]; exact ⟨by decide, by decide⟩
                · rw [if_neg ws]; exact ⟨by decide, by decide⟩
              · have wo' : ¬ (m.1 ag_letters_about l = Int32.ofNat f ∧ m.1 14 l = 0) := fun w => wo (decide_eq_true w)
                rw [if_neg (fun w => wo w.2.2), if_neg (fun w => wo' w.2)]
                exact ⟨⟨rfl, s2⟩, fun w => absurd w (by omega)⟩
            · rw [if_neg (fun w => wl w.2.1), if_neg (fun w => wl w.1)]
              exact ⟨⟨s1, s2⟩, s3⟩
        · have r2 : ∀ l, mF.1 ag_letters_reader l = mA.1 ag_letters_reader l := fun l => by
            rw [FFC _ l (by decide), C3 _ l (fun w => absurd w.1 (by decide)) (fun w => absurd w.1 (by decide)) (fun w => absurd w.1 (by decide)) (fun w => absurd w.1 (by decide)), B3 _ l (fun w => absurd w.1 (by decide))]
          have r3 : ∀ b, 10 ≤ b → b ≤ 16 → mF.1 b = mA.1 b := fun b w1 w2 => funext fun l => by
            rw [FFC b l (by omega), C3 b l (by omega) (by omega) (by omega) (by omega), B3 b l (by omega)]
          unfold I_tal
          rw [r3 ag_letters_reader (by decide) (by decide), r3 ag_letters_state (by decide) (by decide), r3 ag_letters_rightOf (by decide) (by decide), r3 ag_letters_wrongOf (by decide) (by decide), r3 ag_letters (by decide) (by decide)]
          exact A5
        · unfold I_mark
          rw [FFr am_marks (by decide) (by decide) (by decide) (by decide) (by decide) (by decide) (by decide) (by decide) (by decide)]
          exact P_mark.mv (fun p hp => FFr (19 + p) (by omega) (by omega) (by omega) (by omega) (by omega) (by omega) (by omega) (by omega) (by omega)) h7
        · unfold I_paid
          rw [FFr ag_praised (by decide) (by decide) (by decide) (by decide) (by decide) (by decide) (by decide) (by decide) (by decide), FFr am_isPaid (by decide) (by decide) (by decide) (by decide) (by decide) (by decide) (by decide) (by decide) (by decide)]
          exact h8
        · unfold I_tape
          rw [FFr ag_tape_signs (by decide) (by decide) (by decide) (by decide) (by decide) (by decide) (by decide) (by decide) (by decide), FFr am_tape (by decide) (by decide) (by decide) (by decide) (by decide) (by decide) (by decide) (by decide) (by decide)]
          exact h9
        · have rs : ∀ e, e < 10 → mF.1 (59 + e) f = mB.1 (59 + e) f := fun e he => by rw [FFC _ _ (by omega), C3 _ _ (by omega) (by omega) (by omega) (by omega)]
          have ro : ∀ e j, e < 10 → j ≠ f → mF.1 (59 + e) j = m.1 (59 + e) j := fun e j he hj => by rw [FFC _ _ (by omega), C3 _ _ (by omega) (by omega) (by omega) (by omega), B3 _ _ (by omega), A3 _ _ (by omega) (by omega)]
          have rv : ∀ e, e < 10 → mF.1 (48 + e) = m.1 (48 + e) := fun e he => FFr (48 + e) (by omega) (by omega) (by omega) (by omega) (by omega) (by omega) (by omega) (by omega) (by omega)
          have rt : ∀ e, e < 10 → mF.1 (70 + e) = m.1 (70 + e) := fun e he => FFr (70 + e) (by omega) (by omega) (by omega) (by omega) (by omega) (by omega) (by omega) (by omega) (by omega)
          unfold I_ed
          rw [FFr ag_editions_facts (by decide) (by decide) (by decide) (by decide) (by decide) (by decide) (by decide) (by decide) (by decide), FFr am_asPrinted (by decide) (by decide) (by decide) (by decide) (by decide) (by decide) (by decide) (by decide) (by decide), FFr am_starred (by decide) (by decide) (by decide) (by decide) (by decide) (by decide) (by decide) (by decide) (by decide)]
          refine ⟨fun e he => ?_, fun e w1 w2 j hj => ?_⟩
          · obtain ⟨s1, s2, s3, s4⟩ := h10.1 e he
            refine ⟨s1, s2, fun j hj => ?_, fun p hp => by rw [rt e (by omega)]; exact s4 p hp⟩
            obtain ⟨u1, u2, u3, u4⟩ := s3 j hj
            rw [rv e (by omega)]
            refine ⟨u1, ?_⟩
            by_cases ej : j = f
            · subst ej
              rw [rs e (by omega), B4, A3 (59 + e) j (by omega) (by omega), A3 (48 + e) j (by omega) (by omega), show am_proved = 123 from rfl, F10, FDr 123 (by omega) (by omega) (by omega), FDr am_asPrinted (by decide) (by decide) (by decide)]
              rw [show am_proved = 123 from rfl] at u2
              rw [← u2]
              by_cases wn : j < n e
              · obtain ⟨v1, v2⟩ := u1.1 wn
                have v3 : ¬ m.1 am_asPrinted (60 * e + j) < 0 := by grind
                have v4 : (m.1 (59 + e) j ≤ 0) ↔ m.1 (59 + e) j = 0 := by
                  obtain ⟨z1, z2⟩ := u3
                  constructor
                  · intro w; grind
                  · intro w; rw [w]; exact Int32.le_refl _
                rw [← v1] at v3 ⊢
                by_cases w0 : m.1 (59 + e) j = 0
                · rw [if_pos (c := 0 ≤ e ∧ e < ne ∧ j < n e ∧ m.1 (59 + e) j = 0) ⟨Nat.zero_le _, he, wn, w0⟩, if_pos (c := e < ne ∧ ¬ m.1 (48 + e) j < 0 ∧ m.1 (59 + e) j ≤ 0) ⟨he, v3, v4.mpr w0⟩]
                  refine ⟨rfl, ?_, fun w => absurd w (by omega)⟩
                  by_cases ws : m.1 (48 + e) j = y
                  · rw [if_pos ws]; exact ⟨by decide, by decide⟩
                  · rw [if_neg ws]; exact ⟨by decide, by decide⟩
                · rw [if_neg (fun w => w0 w.2.2.2), if_neg (fun w => w0 (v4.mp w.2.2))]
                  exact ⟨rfl, u3, fun w => absurd w (by omega)⟩
              · have v2 := u1.2 (by omega)
                rw [v2, if_neg (fun w => wn w.2.2.1), if_neg (fun w => w.2.1 (by decide))]
                exact ⟨rfl, u3, u4⟩
            · rw [ro e j (by omega) ej, show am_proved = 123 from rfl, F9 _ (by omega), FDr 123 (by omega) (by omega) (by omega)]
              exact ⟨u2, u3, u4⟩
          · by_cases ej : j = f
            · subst ej
              rw [rs e w2, B4, if_neg (by omega), A3 _ _ (by omega) (by omega)]
              exact h10.2 e w1 w2 j hj
            · rw [ro e j w2 ej]
              exact h10.2 e w1 w2 j hj
      · -- the text's cells
        have w : (41 ≤ b ∧ b ≤ 44) ∨ (93 ≤ b ∧ b ≤ 97) ∨ (b = 87 ∧ j = 15) := by
          unfold xtx at q
          simp only [Bool.or_eq_true, Bool.and_eq_true, decide_eq_true_eq, beq_iff_eq] at q
          omega
        by_cases wb : b = 87
        · subst wb
          exact FFa j (by omega)
        · exact congrFun (FFr b (by omega) (by omega) wb (by omega) (by omega) (by omega) (by omega) (by omega) (by omega)) j
      · rw [F2, hmD]
        show mC.2 92 = m.2 92
        rw [C2, B2, A2]
    · have hq : (0 ≤ x ∧ x < Int32.ofNat nf) = True := eq_true h
      refine xPair.keep (m1 := m) (m2 := (xst m.1 am fGuideBookModel_thrown 0, m.2)) (v := -1) ht H ?_ (xKeep.refl m) ?_ (k_th m 0)
      · simp (decide := true) only [Option.bind_some, ↓reduceIte, xst_f, xst_k, xst_s, ne_eq, not_false_eq_true, not_true_eq_false, and_self, and_true, true_and, and_false, false_and, or_true, true_or, or_false, false_or, F_X9_check, g_has, a1, hq, g_isValue, g]
      · simp (decide := true) only [Option.bind_some, ↓reduceIte, xst_f, xst_k, xst_s, ne_eq, not_false_eq_true, not_true_eq_false, and_self, and_true, true_and, and_false, false_and, or_true, true_or, or_false, false_or, F_X10_check, g_mFact, a2, hq, g_mValue, g]
  · refine xPair.keep (m1 := m) (m2 := (xst m.1 am fGuideBookModel_thrown 0, m.2)) (v := -1) ht H ?_ (xKeep.refl m) ?_ (k_th m 0)
    · simp (decide := true) only [Option.bind_some, ↓reduceIte, xst_f, xst_k, xst_s, ne_eq, not_false_eq_true, not_true_eq_false, and_self, and_true, true_and, and_false, false_and, or_true, true_or, or_false, false_or, F_X9_check, g_has, a1, h]
    · simp (decide := true) only [Option.bind_some, ↓reduceIte, xst_f, xst_k, xst_s, ne_eq, not_false_eq_true, not_true_eq_false, and_self, and_true, true_and, and_false, false_and, or_true, true_or, or_false, false_or, F_X10_check, g_mFact, a2, h]
end CK4
