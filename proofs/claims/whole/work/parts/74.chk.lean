section CK3
variable {t nf nw nl ne tp : Nat} {n : Nat → Nat}
theorem m_chk {f : Nat} {v s : Int32} (hnl : nl ≤ 100) : ∀ (k a fk : Nat) (m : xMem), m.1 am fGuideBookModel_letters = Int32.ofNat nl → a + k = nl → k < fk →
    ∃ m', (∀ c, L_X10_check_106 (Int32.ofNat f) v s c fk (Int32.ofNat a) m = c m') ∧ m'.2 = m.2 ∧ (∀ b j, ¬ b = 116 → m'.1 b j = m.1 b j) ∧ (∀ l, m'.1 116 l = if a ≤ l ∧ l < nl ∧ m.1 am_about l = Int32.ofNat f ∧ m.1 116 l = 0 then (if m.1 am_says l = v then 1 else 2) else m.1 116 l)
  | 0, a, fk + 1, m, h1, h, _ => by
    have q : Int32.ofNat nl ≤ Int32.ofNat a := (o_le (by omega) (by omega)).mpr (by omega)
    refine ⟨m, fun c => ?_, rfl, fun _ _ _ => rfl, fun l => ?_⟩
    · simp (decide := true) only [Option.bind_some, ↓reduceIte, xst_f, xst_k, xst_s, ne_eq, not_false_eq_true, not_true_eq_false, and_self, and_true, true_and, and_false, false_and, or_true, true_or, or_false, false_or, L_X10_check_106, h1, q]
    · rw [if_neg (by omega)]
  | k + 1, a, fk + 1, m, h1, h, hf => by
    have q : ¬ Int32.ofNat nl ≤ Int32.ofNat a := fun q => by have := (o_le (by omega) (by omega)).mp q; omega
    have hi : xin (Int32.ofNat a) 100 = true := o_in (by omega) (by omega)
    have hn : (Int32.ofNat a).toNatClampNeg = a := o_nat (by omega)
    have step : ∀ (m1 : xMem) (y : Int32), (∀ c, L_X10_check_106 (Int32.ofNat f) v s c (fk + 1) (Int32.ofNat a) m = L_X10_check_106 (Int32.ofNat f) v s c fk (Int32.ofNat (a + 1)) m1) → m1 = (xst m.1 am_proofs a y, m.2) → (y = if m.1 am_about a = Int32.ofNat f ∧ m.1 116 a = 0 then (if m.1 am_says a = v then 1 else 2) else m.1 116 a) → ∃ m', (∀ c, L_X10_check_106 (Int32.ofNat f) v s c (fk + 1) (Int32.ofNat a) m = c m') ∧ m'.2 = m.2 ∧ (∀ b j, ¬ b = 116 → m'.1 b j = m.1 b j) ∧ (∀ l, m'.1 116 l = if a ≤ l ∧ l < nl ∧ m.1 am_about l = Int32.ofNat f ∧ m.1 116 l = 0 then (if m.1 am_says l = v then 1 else 2) else m.1 116 l) := by
      intro m1 y hst hm1 hy
      subst hm1
      have fr : ∀ b j, ¬ b = 116 → xst m.1 am_proofs a y b j = m.1 b j := fun b j w => xst_n (fun w' => w w'.1)
      obtain ⟨m', e1, e2, e3, e4⟩ := m_chk (f := f) (v := v) (s := s) hnl k (a + 1) fk (xst m.1 am_proofs a y, m.2) ((fr am fGuideBookModel_letters (by decide)).trans h1) (by omega) (by omega)
      refine ⟨m', fun c => (hst c).trans (e1 c), e2, fun b j w => (e3 b j w).trans (fr b j w), fun l => ?_⟩
      rw [e4]
      show (if a + 1 ≤ l ∧ l < nl ∧ xst m.1 am_proofs a y am_about l = Int32.ofNat f ∧ xst m.1 am_proofs a y 116 l = 0 then (if xst m.1 am_proofs a y am_says l = v then 1 else 2) else xst m.1 am_proofs a y 116 l) = _
      rw [fr am_about l (by decide), fr am_says l (by decide)]
      by_cases el : l = a
      · subst el
        have : xst m.1 am_proofs l y 116 l = y := xst_s
        rw [if_neg (by omega), this, hy]
        exact ifc ⟨fun w => ⟨Nat.le_refl _, by omega, w⟩, fun w => w.2.2⟩
      · rw [xst_n (b := 116) (j := l) (fun w => el w.2)]
        exact ifc ⟨fun w => ⟨by omega, w.2⟩, fun w => ⟨by omega, w.2⟩⟩
    have self : m = (xst m.1 am_proofs a (m.1 116 a), m.2) := by
      refine Prod.ext ?_ rfl
      funext b j
      by_cases w : b = am_proofs ∧ j = a
      · rw [w.1, w.2]; exact xst_s.symm
      · exact (xst_n w).symm
    by_cases g : m.1 am_about a = Int32.ofNat f
    · by_cases g0 : m.1 116 a = 0
      · have g0' : m.1 am_proofs a = 0 := g0
        by_cases g1 : m.1 am_says a = v
        · refine step _ 1 (fun c => ?_) rfl (by rw [if_pos ⟨g, g0⟩, if_pos g1])
          rw [L_X10_check_106]
          simp (decide := true) only [Option.bind_some, ↓reduceIte, xst_f, xst_k, xst_s, ne_eq, not_false_eq_true, not_true_eq_false, and_self, and_true, true_and, and_false, false_and, or_true, true_or, or_false, false_or, h1, q, hi, hn, g, g0', g1, J_X10_check_159, J_X10_check_37, o_succ]
        · refine step _ 2 (fun c => ?_) rfl (by rw [if_pos ⟨g, g0⟩, if_neg g1])
          rw [L_X10_check_106]
          simp (decide := true) only [Option.bind_some, ↓reduceIte, xst_f, xst_k, xst_s, ne_eq, not_false_eq_true, not_true_eq_false, and_self, and_true, true_and, and_false, false_and, or_true, true_or, or_false, false_or, h1, q, hi, hn, g, g0', g1, J_X10_check_159, J_X10_check_37, o_succ]
      · have g0' : ¬ m.1 am_proofs a = 0 := g0
        refine step m (m.1 116 a) (fun c => ?_) self (by rw [if_neg (fun w => g0 w.2)])
        rw [L_X10_check_106]
        simp (decide := true) only [Option.bind_some, ↓reduceIte, xst_f, xst_k, xst_s, ne_eq, not_false_eq_true, not_true_eq_false, and_self, and_true, true_and, and_false, false_and, or_true, true_or, or_false, false_or, h1, q, hi, hn, g, g0', J_X10_check_159, J_X10_check_37, o_succ]
    · refine step m (m.1 116 a) (fun c => ?_) self (by rw [if_neg (fun w => g w.1)])
      rw [L_X10_check_106]
      simp (decide := true) only [Option.bind_some, ↓reduceIte, xst_f, xst_k, xst_s, ne_eq, not_false_eq_true, not_true_eq_false, and_self, and_true, true_and, and_false, false_and, or_true, true_or, or_false, false_or, h1, q, hi, hn, g, J_X10_check_159, J_X10_check_37, o_succ]
theorem m_prv {f : Nat} {v : Int32} (hne : ne ≤ 10) (hf60 : f < 60) : ∀ (k a fk : Nat) (m : xMem), m.1 am fGuideBookModel_editions = Int32.ofNat ne → a + k = ne → k < fk →
    ∃ m', L_X10_proves_2 (Int32.ofNat f) v fk (Int32.ofNat a) m = some (0, m') ∧ m'.2 = m.2 ∧ (∀ b j, ¬ b = 123 → m'.1 b j = m.1 b j) ∧ (∀ j, ¬ j % 60 = f → m'.1 123 j = m.1 123 j) ∧ (∀ e, m'.1 123 (60 * e + f) = if a ≤ e ∧ e < ne ∧ ¬ m.1 am_asPrinted (60 * e + f) < 0 ∧ m.1 123 (60 * e + f) ≤ 0 then (if m.1 am_asPrinted (60 * e + f) = v then 1 else 2) else m.1 123 (60 * e + f))
  | 0, a, fk + 1, m, h1, h, _ => by
    have q : Int32.ofNat ne ≤ Int32.ofNat a := (o_le (by omega) (by omega)).mpr (by omega)
    refine ⟨m, ?_, rfl, fun _ _ _ => rfl, fun _ _ => rfl, fun l => ?_⟩
    · simp (decide := true) only [Option.bind_some, ↓reduceIte, xst_f, xst_k, xst_s, ne_eq, not_false_eq_true, not_true_eq_false, and_self, and_true, true_and, and_false, false_and, or_true, true_or, or_false, false_or, L_X10_proves_2, h1, q]
    · rw [if_neg (by omega)]
  | k + 1, a, fk + 1, m, h1, h, hfk => by
    have q : ¬ Int32.ofNat ne ≤ Int32.ofNat a := fun q => by have := (o_le (by omega) (by omega)).mp q; omega
    have hi : xin (Int32.ofNat (60 * a + f)) 600 = true := o_in (by omega) (by omega)
    have hn : (Int32.ofNat (60 * a + f)).toNatClampNeg = 60 * a + f := o_nat (by omega)
    have step : ∀ (y : Int32), L_X10_proves_2 (Int32.ofNat f) v (fk + 1) (Int32.ofNat a) m = L_X10_proves_2 (Int32.ofNat f) v fk (Int32.ofNat (a + 1)) (xst m.1 am_proved (60 * a + f) y, m.2) → (y = if ¬ m.1 am_asPrinted (60 * a + f) < 0 ∧ m.1 123 (60 * a + f) ≤ 0 then (if m.1 am_asPrinted (60 * a + f) = v then 1 else 2) else m.1 123 (60 * a + f)) → ∃ m', L_X10_proves_2 (Int32.ofNat f) v (fk + 1) (Int32.ofNat a) m = some (0, m') ∧ m'.2 = m.2 ∧ (∀ b j, ¬ b = 123 → m'.1 b j = m.1 b j) ∧ (∀ j, ¬ j % 60 = f → m'.1 123 j = m.1 123 j) ∧ (∀ e, m'.1 123 (60 * e + f) = if a ≤ e ∧ e < ne ∧ ¬ m.1 am_asPrinted (60 * e + f) < 0 ∧ m.1 123 (60 * e + f) ≤ 0 then (if m.1 am_asPrinted (60 * e + f) = v then 1 else 2) else m.1 123 (60 * e + f)) := by
      intro y hst hy
      have fr : ∀ b j, ¬ b = 123 → xst m.1 am_proved (60 * a + f) y b j = m.1 b j := fun b j w => xst_n (fun w' => w w'.1)
      obtain ⟨m', e1, e2, e3, e5, e4⟩ := m_prv (f := f) (v := v) hne hf60 k (a + 1) fk (xst m.1 am_proved (60 * a + f) y, m.2) ((fr am fGuideBookModel_editions (by decide)).trans h1) (by omega) (by omega)
      refine ⟨m', hst.trans e1, e2, fun b j w => (e3 b j w).trans (fr b j w), fun j w => (e5 j w).trans (xst_n (by omega)), fun e => ?_⟩
      rw [e4]
      show (if a + 1 ≤ e ∧ e < ne ∧ ¬ xst m.1 am_proved (60 * a + f) y am_asPrinted (60 * e + f) < 0 ∧ xst m.1 am_proved (60 * a + f) y 123 (60 * e + f) ≤ 0 then (if xst m.1 am_proved (60 * a + f) y am_asPrinted (60 * e + f) = v then 1 else 2) else xst m.1 am_proved (60 * a + f) y 123 (60 * e + f)) = _
      rw [fr am_asPrinted _ (by decide)]
      by_cases el : e = a
      · subst el
        have : xst m.1 am_proved (60 * e + f) y 123 (60 * e + f) = y := xst_s
        rw [if_neg (by omega), this, hy]
        exact ifc ⟨fun w => ⟨Nat.le_refl _, by omega, w⟩, fun w => w.2.2⟩
      · rw [xst_n (b := 123) (j := 60 * e + f) (by omega)]
        exact ifc ⟨fun w => ⟨by omega, w.2⟩, fun w => ⟨by omega, w.2⟩⟩
    by_cases g : m.1 am_asPrinted (60 * a + f) < 0
    · refine step (m.1 123 (60 * a + f)) ?_ (by rw [if_neg (fun w => w.1 g)])
      rw [L_X10_proves_2]
      simp (decide := true) only [Option.bind_some, ↓reduceIte, xst_f, xst_k, xst_s, ne_eq, not_false_eq_true, not_true_eq_false, and_self, and_true, true_and, and_false, false_and, or_true, true_or, or_false, false_or, h1, q, o_60, o_add, hi, hn, g, o_succ]
    · by_cases g0 : m.1 123 (60 * a + f) ≤ 0
      · have g0' : m.1 am_proved (60 * a + f) ≤ 0 := g0
        by_cases g1 : m.1 am_asPrinted (60 * a + f) = v
        · refine step 1 ?_ (by rw [if_pos ⟨g, g0⟩, if_pos g1])
          rw [g1] at g
          rw [L_X10_proves_2]
          simp (decide := true) only [Option.bind_some, ↓reduceIte, xst_f, xst_k, xst_s, ne_eq, not_false_eq_true, not_true_eq_false, and_self, and_true, true_and, and_false, false_and, or_true, true_or, or_false, false_or, h1, q, o_60, o_add, hi, hn, g1, g, g0', o_succ]
        · refine step 2 ?_ (by rw [if_pos ⟨g, g0⟩, if_neg g1])
          rw [L_X10_proves_2]
          simp (decide := true) only [Option.bind_some, ↓reduceIte, xst_f, xst_k, xst_s, ne_eq, not_false_eq_true, not_true_eq_false, and_self, and_true, true_and, and_false, false_and, or_true, true_or, or_false, false_or, h1, q, o_60, o_add, hi, hn, g1, g, g0', o_succ]
      · have g0' : ¬ m.1 am_proved (60 * a + f) ≤ 0 := g0
        refine step (m.1 123 (60 * a + f)) ?_ (by rw [if_neg (fun w => g0 w.2)])
        rw [L_X10_proves_2]
        simp (decide := true) only [Option.bind_some, ↓reduceIte, xst_f, xst_k, xst_s, ne_eq, not_false_eq_true, not_true_eq_false, and_self, and_true, true_and, and_false, false_and, or_true, true_or, or_false, false_or, h1, q, o_60, o_add, hi, hn, g, g0', o_succ]
/-- the reference's check, from the counts on -/
theorem m_check {m : xMem} {f κ : Nat} {v : Int32} (hf : f < 60) (hκ : κ < 6) (hK : m.1 am_kindOf f = Int32.ofNat κ) (hnl : nl ≤ 100) (hne : ne ≤ 10) (hl : m.1 am fGuideBookModel_letters = Int32.ofNat nl) (he : m.1 am fGuideBookModel_editions = Int32.ofNat ne) :
    ∃ m', (if v = m.1 am_worthNow f then J_X10_check_37 (Int32.ofNat f) v 0 m else J_X10_check_37 (Int32.ofNat f) v 1 m) = some (if m.1 am_worthNow f = v then 0 else 1, m') ∧ m'.2 = m.2 ∧ (∀ b j, ¬ b = 116 → ¬ b = 123 → ¬ (b = 109 ∧ j = κ) → ¬ (b = 110 ∧ j = κ) → ¬ (b = 105 ∧ j = f) → ¬ (b = 106 ∧ j = f) → m'.1 b j = m.1 b j) ∧
    m'.1 109 κ = m.1 109 κ + (m.1 am fGuideBookModel_now - m.1 106 f) ∧ m'.1 110 κ = m.1 110 κ + (if m.1 am_worthNow f = v then 0 else 1) ∧ m'.1 105 f = v ∧ m'.1 106 f = m.1 am fGuideBookModel_now ∧
    (∀ l, m'.1 116 l = if l < nl ∧ m.1 am_about l = Int32.ofNat f ∧ m.1 116 l = 0 then (if m.1 am_says l = v then 1 else 2) else m.1 116 l) ∧ (∀ j, ¬ j % 60 = f → m'.1 123 j = m.1 123 j) ∧ (∀ e, m'.1 123 (60 * e + f) = if e < ne ∧ ¬ m.1 am_asPrinted (60 * e + f) < 0 ∧ m.1 123 (60 * e + f) ≤ 0 then (if m.1 am_asPrinted (60 * e + f) = v then 1 else 2) else m.1 123 (60 * e + f)) := by
  have hi' : xin (Int32.ofNat f) 60 = true := o_in (by omega) (by omega)
  have hn' : (Int32.ofNat f).toNatClampNeg = f := o_nat (by omega)
  have hi : xin (Int32.ofNat κ) 6 = true := o_in (by omega) (by omega)
  have hn : (Int32.ofNat κ).toNatClampNeg = κ := o_nat (by omega)
  have d10 : ¬ ((1 : Int32) = 0) := by decide
  have mid : ∀ (s : Int32) (hs : s = if m.1 am_worthNow f = v then 0 else 1), ∃ m', J_X10_check_37 (Int32.ofNat f) v s m = some (s, m') ∧ m'.2 = m.2 ∧ (∀ b j, ¬ b = 116 → ¬ b = 123 → ¬ (b = 109 ∧ j = κ) → ¬ (b = 110 ∧ j = κ) → ¬ (b = 105 ∧ j = f) → ¬ (b = 106 ∧ j = f) → m'.1 b j = m.1 b j) ∧
    m'.1 109 κ = m.1 109 κ + (m.1 am fGuideBookModel_now - m.1 106 f) ∧ m'.1 110 κ = m.1 110 κ + s ∧ m'.1 105 f = v ∧ m'.1 106 f = m.1 am fGuideBookModel_now ∧
    (∀ l, m'.1 116 l = if l < nl ∧ m.1 am_about l = Int32.ofNat f ∧ m.1 116 l = 0 then (if m.1 am_says l = v then 1 else 2) else m.1 116 l) ∧ (∀ j, ¬ j % 60 = f → m'.1 123 j = m.1 123 j) ∧ (∀ e, m'.1 123 (60 * e + f) = if e < ne ∧ ¬ m.1 am_asPrinted (60 * e + f) < 0 ∧ m.1 123 (60 * e + f) ≤ 0 then (if m.1 am_asPrinted (60 * e + f) = v then 1 else 2) else m.1 123 (60 * e + f)) := by
    intro s hs
    have s01 : s = 0 ∨ s = 1 := by by_cases w : m.1 am_worthNow f = v <;> simp [w] at hs <;> simp [hs]
    obtain ⟨mD, hmD⟩ : ∃ mD : xMem, mD = (xst (xst (xst (xst m.1 am_kindYears κ (m.1 am_kindYears κ + (m.1 am fGuideBookModel_now - m.1 am_checkedOn f))) am_kindChanges κ (m.1 am_kindChanges κ + s)) am_worthNow f v) am_checkedOn f (m.1 am fGuideBookModel_now), m.2) := ⟨_, rfl⟩
    have frD : ∀ b j, ¬ (b = 109 ∧ j = κ) → ¬ (b = 110 ∧ j = κ) → ¬ (b = 105 ∧ j = f) → ¬ (b = 106 ∧ j = f) → mD.1 b j = m.1 b j := by
      intro b j w1 w2 w3 w4
      rw [hmD]
      exact (xst_n w4).trans ((xst_n w3).trans ((xst_n w2).trans (xst_n w1)))
    have n1 : ∀ {b j k x : Nat}, b ≠ x → ¬ (b = x ∧ j = k) := fun h w => h w.1
    obtain ⟨mE, e1, e2, e3, e4⟩ := m_chk (f := f) (v := v) (s := s) hnl nl 0 xfuel mD (by rw [frD _ _ (n1 (by decide)) (n1 (by decide)) (n1 (by decide)) (n1 (by decide))]; exact hl) (by omega) (by rw [xfuel_eq]; omega)
    obtain ⟨mF, g1, g2, g3, g5, g4⟩ := m_prv (f := f) (v := v) hne hf ne 0 xfuel mE (by rw [e3 _ _ (by decide), frD _ _ (n1 (by decide)) (n1 (by decide)) (n1 (by decide)) (n1 (by decide))]; exact he) (by omega) (by rw [xfuel_eq]; omega)
    have e1' := e1
    rw [← o_zero] at e1' g1
    refine ⟨mF, ?_, by rw [g2, e2, hmD], fun b j w1 w2 w3 w4 w5 w6 => ?_, ?_, ?_, ?_, ?_, fun l => ?_, fun j w => ?_, fun e => ?_⟩
    · rcases s01 with w | w
      · subst w
        simp (decide := true) only [Option.bind_some, ↓reduceIte, xst_f, xst_k, xst_s, ne_eq, not_false_eq_true, not_true_eq_false, and_self, and_true, true_and, and_false, false_and, or_true, true_or, or_false, false_or, J_X10_check_37, hi', hn', hK, hi, hn]
        rw [← hmD, e1']
        simp (decide := true) only [Option.bind_some, ↓reduceIte, xst_f, xst_k, xst_s, ne_eq, not_false_eq_true, not_true_eq_false, and_self, and_true, true_and, and_false, false_and, or_true, true_or, or_false, false_or, F_X10_proves, g1]
      · subst w
        simp (decide := true) only [Option.bind_some, ↓reduceIte, xst_f, xst_k, xst_s, ne_eq, not_false_eq_true, not_true_eq_false, and_self, and_true, true_and, and_false, false_and, or_true, true_or, or_false, false_or, J_X10_check_37, hi', hn', hK, hi, hn, d10]
        rw [← hmD, e1']
        simp (decide := true) only [Option.bind_some, ↓reduceIte, xst_f, xst_k, xst_s, ne_eq, not_false_eq_true, not_true_eq_false, and_self, and_true, true_and, and_false, false_and, or_true, true_or, or_false, false_or, F_X10_proves, g1, d10]
    · rw [g3 b j w2, e3 b j w1, frD b j w3 w4 w5 w6]
    · rw [g3 _ _ (by decide), e3 _ _ (by decide), hmD]
      simp (decide := true) only [Option.bind_some, ↓reduceIte, xst_f, xst_k, xst_s, ne_eq, not_false_eq_true, not_true_eq_false, and_self, and_true, true_and, and_false, false_and, or_true, true_or, or_false, false_or, show (109 : Nat) = am_kindYears from rfl]
    · rw [g3 _ _ (by decide), e3 _ _ (by decide), hmD]
      simp (decide := true) only [Option.bind_some, ↓reduceIte, xst_f, xst_k, xst_s, ne_eq, not_false_eq_true, not_true_eq_false, and_self, and_true, true_and, and_false, false_and, or_true, true_or, or_false, false_or, show (110 : Nat) = am_kindChanges from rfl]
    · rw [g3 _ _ (by decide), e3 _ _ (by decide), hmD]
      simp (decide := true) only [Option.bind_some, ↓reduceIte, xst_f, xst_k, xst_s, ne_eq, not_false_eq_true, not_true_eq_false, and_self, and_true, true_and, and_false, false_and, or_true, true_or, or_false, false_or, show (105 : Nat) = am_worthNow from rfl]
    · rw [g3 _ _ (by decide), e3 _ _ (by decide), hmD]
      simp (decide := true) only [Option.bind_some, ↓reduceIte, xst_f, xst_k, xst_s, ne_eq, not_false_eq_true, not_true_eq_false, and_self, and_true, true_and, and_false, false_and, or_true, true_or, or_false, false_or, show (106 : Nat) = am_checkedOn from rfl]
    · rw [g3 _ _ (by decide), e4, frD _ _ (n1 (by decide)) (n1 (by decide)) (n1 (by decide)) (n1 (by decide)), frD _ _ (n1 (by decide)) (n1 (by decide)) (n1 (by decide)) (n1 (by decide)), frD _ _ (n1 (by decide)) (n1 (by decide)) (n1 (by decide)) (n1 (by decide))]
      simp only [Nat.zero_le, true_and]
    · rw [g5 j w, e3 _ _ (by decide), frD _ _ (n1 (by decide)) (n1 (by decide)) (n1 (by decide)) (n1 (by decide))]
    · rw [g4, e3 _ _ (by decide), e3 _ _ (by decide), frD _ _ (n1 (by decide)) (n1 (by decide)) (n1 (by decide)) (n1 (by decide)), frD _ _ (n1 (by decide)) (n1 (by decide)) (n1 (by decide)) (n1 (by decide))]
      simp only [Nat.zero_le, true_and]
  by_cases g : m.1 am_worthNow f = v
  · obtain ⟨m', r⟩ := mid 0 (by rw [if_pos g])
    refine ⟨m', ?_⟩
    rw [if_pos g.symm, if_pos g]
    exact r
  · obtain ⟨m', r⟩ := mid 1 (by rw [if_neg g])
    refine ⟨m', ?_⟩
    rw [if_neg (fun w => g w.symm), if_neg g]
    exact r
end CK3
