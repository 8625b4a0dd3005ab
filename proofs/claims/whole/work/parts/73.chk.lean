section CK2
variable {t nf nw nl ne tp : Nat} {n : Nat → Nat}
theorem e_settle {f : Nat} {v : Int32} (hne : ne ≤ 10) (hf60 : f < 60) : ∀ (k a fk : Nat) (m : xMem), m.1 ag_editions fEditions_size = Int32.ofNat ne → (∀ e, e < ne → m.1 ag_editions_facts e = Int32.ofNat (n e) ∧ n e ≤ 60) → a + k = ne → k < fk →
    ∃ m', L_X1_settle_2 (Int32.ofNat f) v fk (Int32.ofNat a) m = some (0, m') ∧ m'.2 = m.2 ∧ (∀ b j, ¬ (59 ≤ b ∧ b ≤ 68 ∧ j = f) → m'.1 b j = m.1 b j) ∧ (∀ e, m'.1 (59 + e) f = if a ≤ e ∧ e < ne ∧ f < n e ∧ m.1 (59 + e) f = 0 then (if m.1 (48 + e) f = v then 1 else 2) else m.1 (59 + e) f)
  | 0, a, fk + 1, m, h1, h2, h, _ => by
    have q : Int32.ofNat ne ≤ Int32.ofNat a := (o_le (by omega) (by omega)).mpr (by omega)
    refine ⟨m, ?_, rfl, fun _ _ _ => rfl, fun l => ?_⟩
    · simp (decide := true) only [Option.bind_some, ↓reduceIte, xst_f, xst_k, xst_s, ne_eq, not_false_eq_true, not_true_eq_false, and_self, and_true, true_and, and_false, false_and, or_true, true_or, or_false, false_or, L_X1_settle_2, h1, q]
    · rw [if_neg (by omega)]
  | k + 1, a, fk + 1, m, h1, h2, h, hfk => by
    have q : ¬ Int32.ofNat ne ≤ Int32.ofNat a := fun q => by have := (o_le (by omega) (by omega)).mp q; omega
    have hi : xin (Int32.ofNat a) 10 = true := o_in (by omega) (by omega)
    have hn : (Int32.ofNat a).toNatClampNeg = a := o_nat (by omega)
    have hi' : xin (Int32.ofNat f) 60 = true := o_in (by omega) (by omega)
    have hn' : (Int32.ofNat f).toNatClampNeg = f := o_nat (by omega)
    have ha10 : a < 10 := by omega
    have d10 : ¬ ((1 : Int32) = 0) := by decide
    obtain ⟨p1, p2⟩ := h2 a (by omega)
    have no : ¬ (f < n a ∧ m.1 (59 + a) f = 0) → L_X1_settle_2 (Int32.ofNat f) v (fk + 1) (Int32.ofNat a) m = L_X1_settle_2 (Int32.ofNat f) v fk (Int32.ofNat (a + 1)) m → ∃ m', L_X1_settle_2 (Int32.ofNat f) v (fk + 1) (Int32.ofNat a) m = some (0, m') ∧ m'.2 = m.2 ∧ (∀ b j, ¬ (59 ≤ b ∧ b ≤ 68 ∧ j = f) → m'.1 b j = m.1 b j) ∧ (∀ e, m'.1 (59 + e) f = if a ≤ e ∧ e < ne ∧ f < n e ∧ m.1 (59 + e) f = 0 then (if m.1 (48 + e) f = v then 1 else 2) else m.1 (59 + e) f) := by
      intro hno hstep
      obtain ⟨m', e1, e2, e3, e4⟩ := e_settle (f := f) (v := v) hne hf60 k (a + 1) fk m h1 h2 (by omega) (by omega)
      refine ⟨m', hstep.trans e1, e2, e3, fun e => ?_⟩
      rw [e4]
      by_cases el : e = a
      · subst el
        rw [if_neg (by omega), if_neg (fun w => hno w.2.2)]
      · exact ifc ⟨fun w => ⟨by omega, w.2⟩, fun w => ⟨by omega, w.2⟩⟩
    by_cases g : f < n a
    · have hq : (0 ≤ Int32.ofNat f ∧ Int32.ofNat f < Int32.ofNat (n a)) = True := eq_true ⟨by rw [o_zero, o_le (by omega) (by omega)]; omega, (o_lt (by omega) (by omega)).mpr g⟩
      by_cases g0 : m.1 (59 + a) f = 0
      · have step : ∀ y : Int32, (y = if m.1 (48 + a) f = v then 1 else 2) → L_X1_settle_2 (Int32.ofNat f) v (fk + 1) (Int32.ofNat a) m = L_X1_settle_2 (Int32.ofNat f) v fk (Int32.ofNat (a + 1)) (xst m.1 (59 + a) f y, m.2) → ∃ m', L_X1_settle_2 (Int32.ofNat f) v (fk + 1) (Int32.ofNat a) m = some (0, m') ∧ m'.2 = m.2 ∧ (∀ b j, ¬ (59 ≤ b ∧ b ≤ 68 ∧ j = f) → m'.1 b j = m.1 b j) ∧ (∀ e, m'.1 (59 + e) f = if a ≤ e ∧ e < ne ∧ f < n e ∧ m.1 (59 + e) f = 0 then (if m.1 (48 + e) f = v then 1 else 2) else m.1 (59 + e) f) := by
          intro y hy hstep
          have fr : ∀ b j, ¬ (59 ≤ b ∧ b ≤ 68 ∧ j = f) → xst m.1 (59 + a) f y b j = m.1 b j := fun b j w => xst_n (fun w' => w ⟨by omega, by omega, w'.2⟩)
          obtain ⟨m', e1, e2, e3, e4⟩ := e_settle (f := f) (v := v) hne hf60 k (a + 1) fk (xst m.1 (59 + a) f y, m.2) (by rw [← h1]; exact fr _ _ (by intro w; exact absurd w.1 (by decide))) (fun e he => by
            show xst m.1 (59 + a) f y ag_editions_facts e = _ ∧ _
            rw [fr ag_editions_facts e (by intro w; exact absurd w.2.1 (by decide))]
            exact h2 e he) (by omega) (by omega)
          refine ⟨m', hstep.trans e1, e2, fun b j w => (e3 b j w).trans (fr b j w), fun e => ?_⟩
          rw [e4]
          show (if a + 1 ≤ e ∧ e < ne ∧ f < n e ∧ xst m.1 (59 + a) f y (59 + e) f = 0 then (if xst m.1 (59 + a) f y (48 + e) f = v then 1 else 2) else xst m.1 (59 + a) f y (59 + e) f) = _
          by_cases el : e = a
          · subst el
            rw [if_neg (by omega), xst_s, hy]
            exact (if_pos ⟨Nat.le_refl _, by omega, g, g0⟩).symm
          · rw [xst_n (b := 59 + e) (by omega)]
            by_cases we : e < ne
            · rw [fr (48 + e) f (by omega)]
              exact ifc ⟨fun w => ⟨by omega, w.2⟩, fun w => ⟨by omega, w.2⟩⟩
            · exact (if_neg (fun w => we w.2.1)).trans (if_neg (fun w => we w.2.1)).symm
        by_cases g1 : m.1 (48 + a) f = v
        · refine step 1 (by rw [if_pos g1]) ?_
          rw [L_X1_settle_2]
          simp (decide := true) only [Option.bind_some, ↓reduceIte, xst_f, xst_k, xst_s, ne_eq, not_false_eq_true, not_true_eq_false, and_self, and_true, true_and, and_false, false_and, or_true, true_or, or_false, false_or, h1, q, g_hf ha10, p1, hq, d10, hi, hn, hi', hn', g0, g1, J_X1_settle_67, J_X1_settle_47, o_succ]
        · refine step 2 (by rw [if_neg g1]) ?_
          rw [L_X1_settle_2]
          simp (decide := true) only [Option.bind_some, ↓reduceIte, xst_f, xst_k, xst_s, ne_eq, not_false_eq_true, not_true_eq_false, and_self, and_true, true_and, and_false, false_and, or_true, true_or, or_false, false_or, h1, q, g_hf ha10, p1, hq, d10, hi, hn, hi', hn', g0, g1, J_X1_settle_67, J_X1_settle_47, o_succ]
      · refine no (fun w => g0 w.2) ?_
        rw [L_X1_settle_2]
        simp (decide := true) only [Option.bind_some, ↓reduceIte, xst_f, xst_k, xst_s, ne_eq, not_false_eq_true, not_true_eq_false, and_self, and_true, true_and, and_false, false_and, or_true, true_or, or_false, false_or, h1, q, g_hf ha10, p1, hq, d10, hi, hn, hi', hn', g0, J_X1_settle_67, J_X1_settle_47, o_succ]
    · have hq : ¬ (0 ≤ Int32.ofNat f ∧ Int32.ofNat f < Int32.ofNat (n a)) := fun w => g ((o_lt (by omega) (by omega)).mp w.2)
      refine no (fun w => g w.1) ?_
      rw [L_X1_settle_2]
      simp (decide := true) only [Option.bind_some, ↓reduceIte, xst_f, xst_k, xst_s, ne_eq, not_false_eq_true, not_true_eq_false, and_self, and_true, true_and, and_false, false_and, or_true, true_or, or_false, false_or, h1, q, g_hf ha10, p1, hq, J_X1_settle_67, J_X1_settle_47, o_succ]
theorem c_renew {m : xMem} {f κ : Nat} {v : Int32} (hf : f < 60) (hκ : κ < 6) (hK : m.1 ag_facts_kind f = Int32.ofNat κ) : ∃ m', F_X2_renew (Int32.ofNat f) v m = some (if m.1 ag_facts_value f = v then 0 else 1, m') ∧ m'.2 = m.2 ∧ (∀ b j, ¬ (b = 8 ∧ j = κ) → ¬ (b = 9 ∧ j = κ) → ¬ (b = 4 ∧ j = f) → ¬ (b = 5 ∧ j = f) → m'.1 b j = m.1 b j) ∧
    m'.1 8 κ = m.1 8 κ + (m.1 ag_facts fFacts_now - m.1 5 f) ∧ m'.1 9 κ = m.1 9 κ + (if m.1 ag_facts_value f = v then 0 else 1) ∧ m'.1 4 f = v ∧ m'.1 5 f = m.1 ag_facts fFacts_now := by
  have hi' : xin (Int32.ofNat f) 60 = true := o_in (by omega) (by omega)
  have hn' : (Int32.ofNat f).toNatClampNeg = f := o_nat (by omega)
  have hi : xin (Int32.ofNat κ) 6 = true := o_in (by omega) (by omega)
  have hn : (Int32.ofNat κ).toNatClampNeg = κ := o_nat (by omega)
  have d10 : ¬ ((1 : Int32) = 0) := by decide
  have b0 : xbb 0 = true := by decide
  have b1 : xbb 1 = true := by decide
  by_cases g : m.1 ag_facts_value f = v
  · refine ⟨(xst (xst (xst m.1 ag_facts_kindYears κ (m.1 ag_facts_kindYears κ + (m.1 ag_facts fFacts_now - m.1 ag_facts_year f))) ag_facts_value f v) ag_facts_year f (m.1 ag_facts fFacts_now), m.2), ?_, rfl, fun b j w1 w2 w3 w4 => ?_, ?_, ?_, ?_, ?_⟩
    · simp (decide := true) only [Option.bind_some, ↓reduceIte, xst_f, xst_k, xst_s, ne_eq, not_false_eq_true, not_true_eq_false, and_self, and_true, true_and, and_false, false_and, or_true, true_or, or_false, false_or, F_X2_renew, hi', hn', g, J_X2_renew_60, J_X2_renew_15, hK, hi, hn, b0]
    · exact (xst_n w4).trans ((xst_n w3).trans (xst_n w1))
    · simp (decide := true) only [Option.bind_some, ↓reduceIte, xst_f, xst_k, xst_s, ne_eq, not_false_eq_true, not_true_eq_false, and_self, and_true, true_and, and_false, false_and, or_true, true_or, or_false, false_or, show (8 : Nat) = ag_facts_kindYears from rfl]
    · rw [if_pos g, Int32.add_zero]
      simp (decide := true) only [Option.bind_some, ↓reduceIte, xst_f, xst_k, xst_s, ne_eq, not_false_eq_true, not_true_eq_false, and_self, and_true, true_and, and_false, false_and, or_true, true_or, or_false, false_or, show (9 : Nat) = ag_facts_kindChanges from rfl]
    · simp (decide := true) only [Option.bind_some, ↓reduceIte, xst_f, xst_k, xst_s, ne_eq, not_false_eq_true, not_true_eq_false, and_self, and_true, true_and, and_false, false_and, or_true, true_or, or_false, false_or, show (4 : Nat) = ag_facts_value from rfl]
    · simp (decide := true) only [Option.bind_some, ↓reduceIte, xst_f, xst_k, xst_s, ne_eq, not_false_eq_true, not_true_eq_false, and_self, and_true, true_and, and_false, false_and, or_true, true_or, or_false, false_or, show (5 : Nat) = ag_facts_year from rfl]
  · refine ⟨(xst (xst (xst (xst m.1 ag_facts_kindYears κ (m.1 ag_facts_kindYears κ + (m.1 ag_facts fFacts_now - m.1 ag_facts_year f))) ag_facts_kindChanges κ (m.1 ag_facts_kindChanges κ + 1)) ag_facts_value f v) ag_facts_year f (m.1 ag_facts fFacts_now), m.2), ?_, rfl, fun b j w1 w2 w3 w4 => ?_, ?_, ?_, ?_, ?_⟩
    · simp (decide := true) only [Option.bind_some, ↓reduceIte, xst_f, xst_k, xst_s, ne_eq, not_false_eq_true, not_true_eq_false, and_self, and_true, true_and, and_false, false_and, or_true, true_or, or_false, false_or, F_X2_renew, hi', hn', g, J_X2_renew_60, J_X2_renew_15, hK, hi, hn, b1, d10]
    · exact (xst_n w4).trans ((xst_n w3).trans ((xst_n w2).trans (xst_n w1)))
    · simp (decide := true) only [Option.bind_some, ↓reduceIte, xst_f, xst_k, xst_s, ne_eq, not_false_eq_true, not_true_eq_false, and_self, and_true, true_and, and_false, false_and, or_true, true_or, or_false, false_or, show (8 : Nat) = ag_facts_kindYears from rfl]
    · rw [if_neg g]
      simp (decide := true) only [Option.bind_some, ↓reduceIte, xst_f, xst_k, xst_s, ne_eq, not_false_eq_true, not_true_eq_false, and_self, and_true, true_and, and_false, false_and, or_true, true_or, or_false, false_or, show (9 : Nat) = ag_facts_kindChanges from rfl]
    · simp (decide := true) only [Option.bind_some, ↓reduceIte, xst_f, xst_k, xst_s, ne_eq, not_false_eq_true, not_true_eq_false, and_self, and_true, true_and, and_false, false_and, or_true, true_or, or_false, false_or, show (4 : Nat) = ag_facts_value from rfl]
    · simp (decide := true) only [Option.bind_some, ↓reduceIte, xst_f, xst_k, xst_s, ne_eq, not_false_eq_true, not_true_eq_false, and_self, and_true, true_and, and_false, false_and, or_true, true_or, or_false, false_or, show (5 : Nat) = ag_facts_year from rfl]
end CK2
