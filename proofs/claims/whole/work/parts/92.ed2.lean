section EE
variable {t nf nw nl ne tp : Nat} {n : Nat → Nat}
theorem xrw_f {a k : Nat} (h : xrw a k = true) : a < 31 ∨ a = 84 ∨ a = 85 ∨ (a = 87 ∧ (k = 2 ∨ k = 24 ∨ k = 25 ∨ k = 36)) ∨ a = 88 ∨ (103 ≤ a ∧ a ≤ 111) ∨ (113 ≤ a ∧ a ≤ 118) := by
  unfold xrw at h
  simp only [Bool.or_eq_true, Bool.and_eq_true, decide_eq_true_eq, beq_iff_eq] at h
  omega
theorem pr_edition {m : xMem} (ht : t ≤ 600) (H : xRel t nf nw nl ne tp n m.1) (T : xTxt m.1) : xPair F_X9_edition F_X10_edition t m := by
  obtain ⟨h1, h2, h3, h4, h5, h6, h7, h8, h9, h10⟩ := id H
  have hb := h1.1
  obtain ⟨-, ⟨a1, a2⟩, ⟨b1, b2⟩, ⟨c1, c2⟩, ⟨d1, d2⟩, e1, e2⟩ := id h1
  by_cases g : ne < 10
  · obtain ⟨ls, hd, hh, hho, hG, hC, hM⟩ := T
    have HW := H.w
    have d1' : m.1 46 4 = Int32.ofNat ne := d1
    have i0 : xin (Int32.ofNat ne) 10 = true := o_in (by omega) (by omega)
    have n0 : (Int32.ofNat ne).toNatClampNeg = ne := o_nat (by omega)
    have q0 : Int32.ofNat ne < 10 := (o_lt (b := 10) (by omega) (by omega)).mpr g
    have q1 : ¬ Int32.ofNat ne = 10 := fun w => by have := (o_eq (b := 10) (by omega) (by omega)).mp w; omega
    -- the class
    obtain ⟨m1, hm1⟩ : ∃ m1 : xMem, m1 = (xst (xst m.1 ag_editions_facts ne (Int32.ofNat nf)) ag_editions fEditions_size (Int32.ofNat (ne + 1)), m.2) := ⟨_, rfl⟩
    have f1 : ∀ b j, ¬ (b = 80 ∧ j = ne) → ¬ (b = 46 ∧ j = 4) → m1.1 b j = m.1 b j := fun b j w1 w2 => by
      rw [hm1]
      exact (xst_n (a := ag_editions) w2).trans (xst_n (a := ag_editions_facts) w1)
    have hst : F_X1_start (Int32.ofNat nf) m = some (Int32.ofNat ne, m1) := by
      rw [hm1]
      simp (decide := true) only [Option.bind_some, ↓reduceIte, xst_f, xst_k, xst_s, ne_eq, not_false_eq_true, not_true_eq_false, and_self, and_true, true_and, and_false, false_and, or_true, true_or, or_false, false_or, F_X1_start, d1, i0, n0, o_succ]
    obtain ⟨m2, r1, r2, r3, r4, -⟩ := c_ed1 (I := m.1) ht HW g (c := fun m_5 => L_X9_edition_66 (Int32.ofNat ne) xfuel 0 m_5) nf 0 xfuel m1 (by omega) (by rw [xfuel_eq]; omega) (fun b j w => by have := xrw_f w; exact f1 b j (by omega) (by omega))
    have f2 : ∀ b j, b ≠ 48 + ne → ¬ (b = 80 ∧ j = ne) → ¬ (b = 46 ∧ j = 4) → m2.1 b j = m.1 b j := fun b j w w1 w2 => (r3 b j w).trans (f1 b j w1 w2)
    obtain ⟨m3, u1, u2, u3, u4, -⟩ := c_ed2 (I := m.1) HW hG hC g 10 0 xfuel m2 (by omega) (by decide) (fun b j w => by have := xrw_f w; exact f2 b j (by omega) (by omega) (by omega)) (fun b j w1 w2 => f2 b j (by omega) (by omega) (by omega))
    have f3 : ∀ b j, b ≠ 70 + ne → b ≠ 45 → b ≠ 86 → b ≠ 48 + ne → ¬ (b = 80 ∧ j = ne) → ¬ (b = 46 ∧ j = 4) → m3.1 b j = m.1 b j := fun b j v1 v2 v3 w w1 w2 => (u3 b j v1 v2 v3).trans (f2 b j w w1 w2)
    -- the reference
    obtain ⟨mt, hmt⟩ : ∃ mt : xMem, mt = (xst m3.1 am fGuideBookModel_thrown 0, m3.2) := ⟨_, rfl⟩
    have ft3 : ∀ b j, ¬ (b = 87 ∧ j = 0) → mt.1 b j = m3.1 b j := fun b j w => by rw [hmt]; exact xst_n w
    have ft : ∀ b j, b ≠ 70 + ne → b ≠ 45 → b ≠ 86 → b ≠ 48 + ne → ¬ (b = 80 ∧ j = ne) → ¬ (b = 46 ∧ j = 4) → ¬ (b = 87 ∧ j = 0) → mt.1 b j = m.1 b j := fun b j v1 v2 v3 w w1 w2 w3 => (ft3 b j w3).trans (f3 b j v1 v2 v3 w w1 w2)
    obtain ⟨m4, s1, s2, s3, s4⟩ := m_ed1 (I := m.1) ht HW g (c := fun m_6 => L_X10_edition_78 (fun m_9 => some (((xst m_9.1 am fGuideBookModel_editions ((m_9.1 am fGuideBookModel_editions) + (1 : Int32))) am fGuideBookModel_editions) - (1 : Int32), (xst m_9.1 am fGuideBookModel_editions ((m_9.1 am fGuideBookModel_editions) + (1 : Int32)), m_9.2))) xfuel 0 m_6) 60 0 xfuel mt (by omega) (by decide) (fun b j w => by have := xrw_f w; exact ft b j (by omega) (by omega) (by omega) (by omega) (by omega) (by omega) (by omega)) ((ft 87 47 (by omega) (by omega) (by omega) (by omega) (by omega) (by omega) (by omega)).trans d2)
    have f4 : ∀ b j, ¬ ((b = 122 ∨ b = 123) ∧ 60 * ne ≤ j ∧ j < 60 * ne + 60) → m4.1 b j = mt.1 b j := fun b j w => s3 b j (by omega)
    obtain ⟨m5, v1, v2, v3, v4⟩ := m_ed2 (I := m.1) HW hh hho hG hM g (c := fun m_9 => some (((xst m_9.1 am fGuideBookModel_editions ((m_9.1 am fGuideBookModel_editions) + (1 : Int32))) am fGuideBookModel_editions) - (1 : Int32), (xst m_9.1 am fGuideBookModel_editions ((m_9.1 am fGuideBookModel_editions) + (1 : Int32)), m_9.2))) 10 0 xfuel m4 (by omega) (by decide) (fun b j w => by have := xrw_f w; exact (f4 b j (by omega)).trans (ft b j (by omega) (by omega) (by omega) (by omega) (by omega) (by omega) (by omega))) ((f4 87 47 (by omega)).trans ((ft 87 47 (by omega) (by omega) (by omega) (by omega) (by omega) (by omega) (by omega)).trans d2)) ((f4 87 15 (by omega)).trans (ft 87 15 (by omega) (by omega) (by omega) (by omega) (by omega) (by omega) (by omega))) (fun b j w1 w2 => (f4 b j (by omega)).trans (ft b j (by omega) (by omega) (by omega) (by omega) (by omega) (by omega) (by omega)))
    have f5 : ∀ b j, ¬ (b = 124 ∧ 10 * ne ≤ j ∧ j < 10 * ne + 10) → b ≠ 101 → b ≠ 102 → m5.1 b j = m4.1 b j := fun b j w w1 w2 => v3 b j (by omega) w1 w2
    have e5 : m5.1 am fGuideBookModel_editions = Int32.ofNat ne := (f5 87 47 (by omega) (by omega) (by omega)).trans ((f4 87 47 (by omega)).trans ((ft 87 47 (by omega) (by omega) (by omega) (by omega) (by omega) (by omega) (by omega)).trans d2))
    obtain ⟨m6, hm6⟩ : ∃ m6 : xMem, m6 = (xst m5.1 am fGuideBookModel_editions (Int32.ofNat (ne + 1)), m5.2) := ⟨_, rfl⟩
    have f6 : ∀ b j, ¬ (b = 87 ∧ j = 47) → m6.1 b j = m5.1 b j := fun b j w => by rw [hm6]; exact xst_n w
    have F : ∀ b j, b ≠ 70 + ne → b ≠ 45 → b ≠ 86 → b ≠ 48 + ne → ¬ (b = 80 ∧ j = ne) → ¬ (b = 46 ∧ j = 4) → ¬ (b = 87 ∧ (j = 0 ∨ j = 47)) → ¬ ((b = 122 ∨ b = 123) ∧ 60 * ne ≤ j ∧ j < 60 * ne + 60) → ¬ (b = 124 ∧ 10 * ne ≤ j ∧ j < 10 * ne + 10) → b ≠ 101 → b ≠ 102 → m6.1 b j = m.1 b j := fun b j w1 w2 w3 w4 w5 w6 w7 w8 w9 w10 w11 => (f6 b j (by omega)).trans ((f5 b j w9 w10 w11).trans ((f4 b j w8).trans (ft b j w1 w2 w3 w4 w5 w6 (by omega))))
    have FW : xrI m.1 m6 := fun b j w => by
      have := xrw_f w
      exact F b j (by omega) (by omega) (by omega) (by omega) (by omega) (by omega) (by omega) (by omega) (by omega) (by omega) (by omega)
    obtain ⟨w1, w2, w3, w4, w5, w6, w7, w8, w9⟩ := HW.cg FW
    refine ⟨Int32.ofNat ne, m3, m6, ?_, ?_, ⟨nf, nw, nl, ne + 1, tp, fun e => if e = ne then nf else n e, xRel.up ht ⟨?_, w2, w3, w4, w5, w6, w7, w8, w9, ?_⟩⟩, ⟨fun b j q => ?_, ?_⟩⟩
    · unfold F_X9_edition
      rw [d1, if_pos q0, a1, hst, Option.bind_some]
      exact r1.trans u1
    · unfold F_X10_edition
      have : (xst m3.1 am fGuideBookModel_thrown 0) am fGuideBookModel_editions = Int32.ofNat ne := by
        have := (ft 87 47 (by omega) (by omega) (by omega) (by omega) (by omega) (by omega) (by omega)).trans d2
        rw [hmt] at this
        exact this
      rw [this, if_neg q1, ← hmt]
      refine s1.trans (v1.trans ?_)
      rw [e5, o_succ, ← hm6, show xst m5.1 am fGuideBookModel_editions (Int32.ofNat (ne + 1)) am fGuideBookModel_editions = Int32.ofNat (ne + 1) from xst_s, o_pred]
    · obtain ⟨wb, wa, wn, wc, we⟩ := w1
      have k1 : m6.1 ag_editions fEditions_size = Int32.ofNat (ne + 1) := by
        have : m6.1 46 4 = m1.1 46 4 := (f6 46 4 (by omega)).trans ((f5 46 4 (by omega) (by omega) (by omega)).trans ((f4 46 4 (by omega)).trans ((ft3 46 4 (by omega)).trans ((u3 46 4 (by omega) (by omega) (by omega)).trans (r3 46 4 (by omega))))))
        refine this.trans ?_
        rw [hm1]
        show xst (xst m.1 80 ne (Int32.ofNat nf)) 46 4 (Int32.ofNat (ne + 1)) 46 4 = _
        exact xst_s
      have k2 : m6.1 am fGuideBookModel_editions = Int32.ofNat (ne + 1) := by
        rw [hm6]
        show xst m5.1 87 47 (Int32.ofNat (ne + 1)) 87 47 = _
        exact xst_s
      exact ⟨⟨hb.1, hb.2.1, hb.2.2.1, by omega, hb.2.2.2.2⟩, wa, wn, wc, ⟨k1, k2⟩, we⟩
    · refine ⟨fun e he => ?_, fun e e1 e2 f hf => ?_⟩
      · by_cases ee : e = ne
        · subst ee
          dsimp only
          rw [if_pos rfl]
          have k80 : m6.1 ag_editions_facts e = Int32.ofNat nf := by
            have : m6.1 80 e = m1.1 80 e := (f6 80 e (by omega)).trans ((f5 80 e (by omega) (by omega) (by omega)).trans ((f4 80 e (by omega)).trans ((ft3 80 e (by omega)).trans ((u3 80 e (by omega) (by omega) (by omega)).trans (r3 80 e (by omega))))))
            refine this.trans ?_
            rw [hm1]
            show xst (xst m.1 80 e (Int32.ofNat nf)) 46 4 (Int32.ofNat (e + 1)) 80 e = _
            rw [xst_f (a := 46) (b := 80) (by decide)]
            exact xst_s
          refine ⟨k80, Nat.le_refl _, fun f hf => ?_, fun p hp => ?_⟩
          · have c48 : m6.1 (48 + e) f = m2.1 (48 + e) f := (f6 _ f (by omega)).trans ((f5 _ f (by omega) (by omega) (by omega)).trans ((f4 _ f (by omega)).trans ((ft3 _ f (by omega)).trans (u3 _ f (by omega) (by omega) (by omega)))))
            have c122 : m6.1 122 (60 * e + f) = (if f < nf then blv m.1 nl nw f else -1) := (f6 _ _ (by omega)).trans ((f5 _ _ (by omega) (by omega) (by omega)).trans (s4 f hf (Nat.zero_le _)).1)
            have c123 : m6.1 123 (60 * e + f) = 0 := (f6 _ _ (by omega)).trans ((f5 _ _ (by omega) (by omega) (by omega)).trans (s4 f hf (Nat.zero_le _)).2)
            have c59 : m6.1 (59 + e) f = 0 := (F _ _ (by omega) (by omega) (by omega) (by omega) (by omega) (by omega) (by omega) (by omega) (by omega) (by omega) (by omega)).trans (h10.2 e (Nat.le_refl _) g f hf)
            refine ⟨⟨fun wf => ?_, fun wf => ?_⟩, ?_, ?_, fun _ => c59⟩
            · rw [show am_asPrinted = 122 from rfl, c122, if_pos wf, c48, r4 f wf (Nat.zero_le _)]
              refine ⟨rfl, ?_⟩
              obtain ⟨-, -, ⟨-, vr⟩, -⟩ := h2 f wf
              exact bl_rg nl 0 _ _ vr.1 (fun j _ hj => ((h5.1 j (by omega)).2.2.2).1)
            · rw [show am_asPrinted = 122 from rfl, c122, if_neg (by omega)]
            · rw [show am_proved = 123 from rfl, c123, c59]
            · rw [c59]; exact ⟨by decide, by decide⟩
          · have c70 : m6.1 (70 + e) p = m3.1 (70 + e) p := (f6 _ p (by omega)).trans ((f5 _ p (by omega) (by omega) (by omega)).trans ((f4 _ p (by omega)).trans (ft3 _ p (by omega))))
            have c124 : m6.1 124 (10 * e + p) = stv (nmv m.1 nf p) ls := (f6 _ _ (by omega)).trans (v4 p hp (Nat.zero_le _))
            rw [show am_starred = 124 from rfl, c124, c70, u4 p hp (Nat.zero_le _)]
        · obtain ⟨y1, y2, y3, y4⟩ := h10.1 e (by omega)
          dsimp only
          rw [if_neg ee]
          refine ⟨(F 80 e (by omega) (by omega) (by omega) (by omega) (by omega) (by omega) (by omega) (by omega) (by omega) (by omega) (by omega)).trans y1, y2, fun f hf => ?_, fun p hp => ?_⟩
          · have k48 : m6.1 (48 + e) f = m.1 (48 + e) f := F _ f (by omega) (by omega) (by omega) (by omega) (by omega) (by omega) (by omega) (by omega) (by omega) (by omega) (by omega)
            have k59 : m6.1 (59 + e) f = m.1 (59 + e) f := F _ f (by omega) (by omega) (by omega) (by omega) (by omega) (by omega) (by omega) (by omega) (by omega) (by omega) (by omega)
            have k122 : m6.1 am_asPrinted (60 * e + f) = m.1 am_asPrinted (60 * e + f) := F 122 _ (by omega) (by omega) (by omega) (by omega) (by omega) (by omega) (by omega) (by omega) (by omega) (by omega) (by omega)
            have k123 : m6.1 am_proved (60 * e + f) = m.1 am_proved (60 * e + f) := F 123 _ (by omega) (by omega) (by omega) (by omega) (by omega) (by omega) (by omega) (by omega) (by omega) (by omega) (by omega)
            rw [k48, k59, k122, k123]
            exact y3 f hf
          · have k70 : m6.1 (70 + e) p = m.1 (70 + e) p := F _ p (by omega) (by omega) (by omega) (by omega) (by omega) (by omega) (by omega) (by omega) (by omega) (by omega) (by omega)
            have k124 : m6.1 am_starred (10 * e + p) = m.1 am_starred (10 * e + p) := F 124 _ (by omega) (by omega) (by omega) (by omega) (by omega) (by omega) (by omega) (by omega) (by omega) (by omega) (by omega)
            rw [k70, k124]
            exact y4 p hp
      · have k59 : m6.1 (59 + e) f = m.1 (59 + e) f := F _ f (by omega) (by omega) (by omega) (by omega) (by omega) (by omega) (by omega) (by omega) (by omega) (by omega) (by omega)
        rw [k59]
        exact h10.2 e (by omega) e2 f hf
    · have w : (41 ≤ b ∧ b ≤ 44) ∨ (93 ≤ b ∧ b ≤ 97) ∨ (b = 87 ∧ j = 15) := by
        unfold xtx at q
        simp only [Bool.or_eq_true, Bool.and_eq_true, decide_eq_true_eq, beq_iff_eq] at q
        omega
      exact F b j (by omega) (by omega) (by omega) (by omega) (by omega) (by omega) (by omega) (by omega) (by omega) (by omega) (by omega)
    · rw [hm6]
      show m5.2 92 = _
      rw [v2, s2, hmt]
      show m3.2 92 = _
      rw [u2, r2, hm1]
  · have e : ne = 10 := by omega
    subst e
    have q0 : ¬ (Int32.ofNat 10 < 10) := by decide
    refine xPair.keep (m1 := m) (m2 := (xst m.1 am fGuideBookModel_thrown 0, m.2)) (v := -1) ht H ?_ (xKeep.refl m) ?_ (k_th m 0)
    · simp (decide := true) only [Option.bind_some, ↓reduceIte, xst_f, xst_k, xst_s, ne_eq, not_false_eq_true, not_true_eq_false, and_self, and_true, true_and, and_false, false_and, or_true, true_or, or_false, false_or, F_X9_edition, d1, q0]
    · simp (decide := true) only [Option.bind_some, ↓reduceIte, xst_f, xst_k, xst_s, ne_eq, not_false_eq_true, not_true_eq_false, and_self, and_true, true_and, and_false, false_and, or_true, true_or, or_false, false_or, F_X10_edition, d2]
theorem m_ct {m : xMem} (H : xRel t nf nw nl ne tp n m.1) (x : Int32) {c : Int32 → xMem → Option (Int32 × xMem)} : ∀ (k a fk : Nat), a + k = nl → k < fk → L_X10_count_9 x c fk (Int32.ofNat (xct (fun l => decide (m.1 ag_letters_state l = 0)) a)) (Int32.ofNat a) m = c (Int32.ofNat (xct (fun l => decide (m.1 ag_letters_state l = 0)) nl)) m
  | 0, a, fk + 1, h, _ => by
    obtain ⟨h1, h2, h3, h4, h5, h6, h7, h8, h9, h10⟩ := id H
    have hb := h1.1
    obtain ⟨-, ⟨a1, a2⟩, ⟨b1, b2⟩, ⟨c1, c2⟩, ⟨d1, d2⟩, e1, e2⟩ := id h1
    have q : Int32.ofNat nl ≤ Int32.ofNat a := (o_le (by omega) (by omega)).mpr (by omega)
    have ha : a = nl := by omega
    subst ha
    unfold L_X10_count_9
    rw [c2, if_pos q]
  | k + 1, a, fk + 1, h, hf => by
    have hrec := m_ct H x (c := c) k (a + 1) fk (by omega) (by omega)
    obtain ⟨h1, h2, h3, h4, h5, h6, h7, h8, h9, h10⟩ := id H
    have hb := h1.1
    obtain ⟨-, ⟨a1, a2⟩, ⟨b1, b2⟩, ⟨c1, c2⟩, ⟨d1, d2⟩, e1, e2⟩ := id h1
    have q : ¬ Int32.ofNat nl ≤ Int32.ofNat a := fun w => by have := (o_le (by omega) (by omega)).mp w; omega
    have hi : xin (Int32.ofNat a) 100 = true := o_in (by omega) (by omega)
    have hn : (Int32.ofNat a).toNatClampNeg = a := o_nat (by omega)
    have z := (h5.2 a (by omega)).1.1
    rw [xct_s] at hrec
    by_cases g : m.1 ag_letters_state a = 0
    · rw [decide_eq_true g] at hrec
      simp (decide := true) only [Option.bind_some, ↓reduceIte, xst_f, xst_k, xst_s, ne_eq, not_false_eq_true, not_true_eq_false, and_self, and_true, true_and, and_false, false_and, or_true, true_or, or_false, false_or, ← o_succ] at hrec
      simp (decide := true) only [Option.bind_some, ↓reduceIte, xst_f, xst_k, xst_s, ne_eq, not_false_eq_true, not_true_eq_false, and_self, and_true, true_and, and_false, false_and, or_true, true_or, or_false, false_or, L_X10_count_9, c2, q, hi, hn, ← z, g, J_X10_count_32, hrec]
    · rw [decide_eq_false g] at hrec
      simp (decide := true) only [Option.bind_some, ↓reduceIte, xst_f, xst_k, xst_s, ne_eq, not_false_eq_true, not_true_eq_false, and_self, and_true, true_and, and_false, false_and, or_true, true_or, or_false, false_or, ← o_succ, Bool.false_eq_true, Nat.add_zero] at hrec
      simp (decide := true) only [Option.bind_some, ↓reduceIte, xst_f, xst_k, xst_s, ne_eq, not_false_eq_true, not_true_eq_false, and_self, and_true, true_and, and_false, false_and, or_true, true_or, or_false, false_or, L_X10_count_9, c2, q, hi, hn, ← z, g, J_X10_count_32, Int32.add_zero, hrec]
theorem pr_count {m : xMem} (ht : t ≤ 600) (H : xRel t nf nw nl ne tp n m.1) (T : xTxt m.1) (x : Int32) : xPair (F_X9_count x) (F_X10_count x) t m := by
  obtain ⟨ls, h, hh, hho, hG, hC, hM⟩ := T
  obtain ⟨h1, h2, h3, h4, h5, h6, h7, h8, h9, h10⟩ := id H
  have hb := h1.1
  obtain ⟨-, ⟨a1, a2⟩, ⟨b1, b2⟩, ⟨c1, c2⟩, ⟨d1, d2⟩, e1, e2⟩ := id h1
  have H' := H.keep (k_th m 0)
  have e := fun c => m_ct H' x (c := c) nl 0 xfuel (by omega) (by rw [xfuel_eq]; omega)
  have i0 : xin (Int32.ofNat h) 2 = true := o_in (by omega) (by omega)
  have n0 : (Int32.ofNat h).toNatClampNeg = h := o_nat (by omega)
  have hl : m.1 am_lines h = Int32.ofNat ls.length := hM.1
  have hc : m.1 ag_script fScript_lines = Int32.ofNat ls.length := hC.1
  have ho : m.1 am fGuideBookModel_holds = Int32.ofNat h := hho
  have op := h6.2
  have eq0 : xct (fun l => decide ((xst m.1 am fGuideBookModel_thrown 0) ag_letters_state l = 0)) nl = xct (fun l => decide (m.1 ag_letters_state l = 0)) nl := rfl
  dsimp only at e
  rw [eq0, ← op] at e
  have z : Int32.ofNat (xct (fun l => decide ((xst m.1 am fGuideBookModel_thrown 0) ag_letters_state l = 0)) 0) = 0 := rfl
  rw [z, ← o_zero] at e
  by_cases y0 : x = 0
  · subst y0
    refine xPair.keep (m1 := m) (m2 := (xst m.1 am fGuideBookModel_thrown 0, m.2)) (v := Int32.ofNat nf) ht H ?_ (xKeep.refl m) ?_ (k_th m 0)
    · simp (decide := true) only [Option.bind_some, ↓reduceIte, xst_f, xst_k, xst_s, ne_eq, not_false_eq_true, not_true_eq_false, and_self, and_true, true_and, and_false, false_and, or_true, true_or, or_false, false_or, F_X9_count, a1]
    · simp (decide := true) only [Option.bind_some, ↓reduceIte, xst_f, xst_k, xst_s, ne_eq, not_false_eq_true, not_true_eq_false, and_self, and_true, true_and, and_false, false_and, or_true, true_or, or_false, false_or, F_X10_count, e, a2]
  by_cases y1 : x = 1
  · subst y1
    refine xPair.keep (m1 := m) (m2 := (xst m.1 am fGuideBookModel_thrown 0, m.2)) (v := Int32.ofNat nw) ht H ?_ (xKeep.refl m) ?_ (k_th m 0)
    · simp (decide := true) only [Option.bind_some, ↓reduceIte, xst_f, xst_k, xst_s, ne_eq, not_false_eq_true, not_true_eq_false, and_self, and_true, true_and, and_false, false_and, or_true, true_or, or_false, false_or, F_X9_count, b1, y0]
    · simp (decide := true) only [Option.bind_some, ↓reduceIte, xst_f, xst_k, xst_s, ne_eq, not_false_eq_true, not_true_eq_false, and_self, and_true, true_and, and_false, false_and, or_true, true_or, or_false, false_or, F_X10_count, e, b2, y0]
  by_cases y2 : x = 2
  · subst y2
    refine xPair.keep (m1 := m) (m2 := (xst m.1 am fGuideBookModel_thrown 0, m.2)) (v := Int32.ofNat nl) ht H ?_ (xKeep.refl m) ?_ (k_th m 0)
    · simp (decide := true) only [Option.bind_some, ↓reduceIte, xst_f, xst_k, xst_s, ne_eq, not_false_eq_true, not_true_eq_false, and_self, and_true, true_and, and_false, false_and, or_true, true_or, or_false, false_or, F_X9_count, c1, y0, y1]
    · simp (decide := true) only [Option.bind_some, ↓reduceIte, xst_f, xst_k, xst_s, ne_eq, not_false_eq_true, not_true_eq_false, and_self, and_true, true_and, and_false, false_and, or_true, true_or, or_false, false_or, F_X10_count, e, c2, y0, y1]
  by_cases y3 : x = 3
  · subst y3
    refine xPair.keep (m1 := m) (m2 := (xst m.1 am fGuideBookModel_thrown 0, m.2)) (v := m.1 ag_letters fLetters_open) ht H ?_ (xKeep.refl m) ?_ (k_th m 0)
    · simp (decide := true) only [Option.bind_some, ↓reduceIte, xst_f, xst_k, xst_s, ne_eq, not_false_eq_true, not_true_eq_false, and_self, and_true, true_and, and_false, false_and, or_true, true_or, or_false, false_or, F_X9_count, y0, y1, y2]
    · simp (decide := true) only [Option.bind_some, ↓reduceIte, xst_f, xst_k, xst_s, ne_eq, not_false_eq_true, not_true_eq_false, and_self, and_true, true_and, and_false, false_and, or_true, true_or, or_false, false_or, F_X10_count, e, y0, y1, y2]
  by_cases y4 : x = 4
  · subst y4
    refine xPair.keep (m1 := m) (m2 := (xst m.1 am fGuideBookModel_thrown 0, m.2)) (v := Int32.ofNat ne) ht H ?_ (xKeep.refl m) ?_ (k_th m 0)
    · simp (decide := true) only [Option.bind_some, ↓reduceIte, xst_f, xst_k, xst_s, ne_eq, not_false_eq_true, not_true_eq_false, and_self, and_true, true_and, and_false, false_and, or_true, true_or, or_false, false_or, F_X9_count, d1, y0, y1, y2, y3]
    · simp (decide := true) only [Option.bind_some, ↓reduceIte, xst_f, xst_k, xst_s, ne_eq, not_false_eq_true, not_true_eq_false, and_self, and_true, true_and, and_false, false_and, or_true, true_or, or_false, false_or, F_X10_count, e, d2, y0, y1, y2, y3]
  by_cases y5 : x = 5
  · subst y5
    refine xPair.keep (m1 := m) (m2 := (xst m.1 am fGuideBookModel_thrown 0, m.2)) (v := Int32.ofNat ls.length) ht H ?_ (xKeep.refl m) ?_ (k_th m 0)
    · simp (decide := true) only [Option.bind_some, ↓reduceIte, xst_f, xst_k, xst_s, ne_eq, not_false_eq_true, not_true_eq_false, and_self, and_true, true_and, and_false, false_and, or_true, true_or, or_false, false_or, F_X9_count, hc, y0, y1, y2, y3, y4]
    · simp (decide := true) only [Option.bind_some, ↓reduceIte, xst_f, xst_k, xst_s, ne_eq, not_false_eq_true, not_true_eq_false, and_self, and_true, true_and, and_false, false_and, or_true, true_or, or_false, false_or, F_X10_count, e, ho, i0, n0, hl, y0, y1, y2, y3, y4]
  by_cases y6 : x = 6
  · subst y6
    refine xPair.keep (m1 := m) (m2 := (xst m.1 am fGuideBookModel_thrown 0, m.2)) (v := Int32.ofNat tp) ht H ?_ (xKeep.refl m) ?_ (k_th m 0)
    · simp (decide := true) only [Option.bind_some, ↓reduceIte, xst_f, xst_k, xst_s, ne_eq, not_false_eq_true, not_true_eq_false, and_self, and_true, true_and, and_false, false_and, or_true, true_or, or_false, false_or, F_X9_count, e1, y0, y1, y2, y3, y4, y5]
    · simp (decide := true) only [Option.bind_some, ↓reduceIte, xst_f, xst_k, xst_s, ne_eq, not_false_eq_true, not_true_eq_false, and_self, and_true, true_and, and_false, false_and, or_true, true_or, or_false, false_or, F_X10_count, e, e2, y0, y1, y2, y3, y4, y5]
  refine xPair.keep (m1 := m) (m2 := (xst m.1 am fGuideBookModel_thrown 0, m.2)) (v := -1) ht H ?_ (xKeep.refl m) ?_ (k_th m 0)
  · simp (decide := true) only [Option.bind_some, ↓reduceIte, xst_f, xst_k, xst_s, ne_eq, not_false_eq_true, not_true_eq_false, and_self, and_true, true_and, and_false, false_and, or_true, true_or, or_false, false_or, F_X9_count, y0, y1, y2, y3, y4, y5, y6]
  · simp (decide := true) only [Option.bind_some, ↓reduceIte, xst_f, xst_k, xst_s, ne_eq, not_false_eq_true, not_true_eq_false, and_self, and_true, true_and, and_false, false_and, or_true, true_or, or_false, false_or, F_X10_count, e, y0, y1, y2, y3, y4, y5, y6]
end EE
