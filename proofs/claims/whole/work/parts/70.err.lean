section ER
variable {t nf nw nl ne tp : Nat} {n : Nat → Nat} {m : xMem}
/-- wrong in edition e, of this kind -/
def ep (I : xI) (e : Nat) (x : Int32) (f : Nat) : Bool := decide (I (59 + e) f = 2 ∧ (x = -1 ∨ I ag_facts_kind f = x))
theorem c_er (H : xRel t nf nw nl ne tp n m.1) {e : Nat} (he : e < ne) (x s : Int32) (hs : (x = -1 ∧ s = 1) ∨ (¬ x = -1 ∧ s = 0)) : ∀ (k a fk : Nat), a + k = n e → k < fk → L_X9_errors_41 (Int32.ofNat e) x s fk (Int32.ofNat (xct (ep m.1 e x) a)) (Int32.ofNat a) m = some (Int32.ofNat (xct (ep m.1 e x) (n e)), m)
  | 0, a, fk + 1, h, _ => by
    obtain ⟨h1, h2, h3, h4, h5, h6, h7, h8, h9, h10⟩ := id H
    have hb := h1.1
    obtain ⟨-, ⟨a1, a2⟩, ⟨b1, b2⟩, ⟨c1, c2⟩, ⟨d1, d2⟩, e1, e2⟩ := id h1
    obtain ⟨p1, p2, p3, p4⟩ := h10.1 e he
    have hi : xin (Int32.ofNat e) 10 = true := o_in (by omega) (by omega)
    have hn : (Int32.ofNat e).toNatClampNeg = e := o_nat (by omega)
    have q : Int32.ofNat (n e) ≤ Int32.ofNat a := (o_le (by omega) (by omega)).mpr (by omega)
    have ha : a = n e := by omega
    simp (decide := true) only [Option.bind_some, ↓reduceIte, xst_f, xst_k, xst_s, ne_eq, not_false_eq_true, not_true_eq_false, and_self, and_true, true_and, and_false, false_and, or_true, true_or, or_false, false_or, L_X9_errors_41, hi, hn, p1, q, ha, Int32.le_refl]
  | k + 1, a, fk + 1, h, hf => by
    have hrec := c_er H he x s hs k (a + 1) fk (by omega) (by omega)
    obtain ⟨h1, h2, h3, h4, h5, h6, h7, h8, h9, h10⟩ := id H
    have hb := h1.1
    obtain ⟨-, ⟨a1, a2⟩, ⟨b1, b2⟩, ⟨c1, c2⟩, ⟨d1, d2⟩, e1, e2⟩ := id h1
    obtain ⟨p1, p2, p3, p4⟩ := h10.1 e he
    have hi : xin (Int32.ofNat e) 10 = true := o_in (by omega) (by omega)
    have hn : (Int32.ofNat e).toNatClampNeg = e := o_nat (by omega)
    have hi' : xin (Int32.ofNat a) 60 = true := o_in (by omega) (by omega)
    have hn' : (Int32.ofNat a).toNatClampNeg = a := o_nat (by omega)
    have q : ¬ Int32.ofNat (n e) ≤ Int32.ofNat a := fun q => by have := (o_le (by omega) (by omega)).mp q; omega
    have d10 : ¬ ((1 : Int32) = 0) := by decide
    rw [xct_s] at hrec
    by_cases g : m.1 (59 + e) a = 2
    · rcases hs with ⟨s1, s2⟩ | ⟨s1, s2⟩ <;> subst s2
      · have : ep m.1 e x a = true := decide_eq_true ⟨g, Or.inl s1⟩
        rw [this] at hrec
        simp (decide := true) only [Option.bind_some, ↓reduceIte, xst_f, xst_k, xst_s, ne_eq, not_false_eq_true, not_true_eq_false, and_self, and_true, true_and, and_false, false_and, or_true, true_or, or_false, false_or, ← o_succ] at hrec
        simp (decide := true) only [Option.bind_some, ↓reduceIte, xst_f, xst_k, xst_s, ne_eq, not_false_eq_true, not_true_eq_false, and_self, and_true, true_and, and_false, false_and, or_true, true_or, or_false, false_or, L_X9_errors_41, hi, hn, hi', hn', p1, q, d10, J_X9_errors_104, J_X9_errors_78, J_X9_errors_73, J_X9_errors_35, J_X9_errors_10, g, hrec]
      · by_cases g2 : m.1 ag_facts_kind a = x
        · have : ep m.1 e x a = true := decide_eq_true ⟨g, Or.inr g2⟩
          rw [this] at hrec
          simp (decide := true) only [Option.bind_some, ↓reduceIte, xst_f, xst_k, xst_s, ne_eq, not_false_eq_true, not_true_eq_false, and_self, and_true, true_and, and_false, false_and, or_true, true_or, or_false, false_or, ← o_succ] at hrec
          simp (decide := true) only [Option.bind_some, ↓reduceIte, xst_f, xst_k, xst_s, ne_eq, not_false_eq_true, not_true_eq_false, and_self, and_true, true_and, and_false, false_and, or_true, true_or, or_false, false_or, L_X9_errors_41, hi, hn, hi', hn', p1, q, d10, J_X9_errors_104, J_X9_errors_78, J_X9_errors_73, J_X9_errors_35, J_X9_errors_10, g, g2, hrec]
        · have : ep m.1 e x a = false := decide_eq_false (fun w => w.2.elim s1 g2)
          rw [this] at hrec
          simp (decide := true) only [Option.bind_some, ↓reduceIte, xst_f, xst_k, xst_s, ne_eq, not_false_eq_true, not_true_eq_false, and_self, and_true, true_and, and_false, false_and, or_true, true_or, or_false, false_or, ← o_succ, Bool.false_eq_true, Nat.add_zero] at hrec
          simp (decide := true) only [Option.bind_some, ↓reduceIte, xst_f, xst_k, xst_s, ne_eq, not_false_eq_true, not_true_eq_false, and_self, and_true, true_and, and_false, false_and, or_true, true_or, or_false, false_or, L_X9_errors_41, hi, hn, hi', hn', p1, q, d10, J_X9_errors_104, J_X9_errors_78, J_X9_errors_73, J_X9_errors_35, J_X9_errors_10, g, g2, hrec]
    · have : ep m.1 e x a = false := decide_eq_false (fun w => g w.1)
      rw [this] at hrec
      simp (decide := true) only [Option.bind_some, ↓reduceIte, xst_f, xst_k, xst_s, ne_eq, not_false_eq_true, not_true_eq_false, and_self, and_true, true_and, and_false, false_and, or_true, true_or, or_false, false_or, ← o_succ, Bool.false_eq_true, Nat.add_zero] at hrec
      rcases hs with ⟨s1, s2⟩ | ⟨s1, s2⟩ <;> subst s2
      · simp (decide := true) only [Option.bind_some, ↓reduceIte, xst_f, xst_k, xst_s, ne_eq, not_false_eq_true, not_true_eq_false, and_self, and_true, true_and, and_false, false_and, or_true, true_or, or_false, false_or, L_X9_errors_41, hi, hn, hi', hn', p1, q, d10, J_X9_errors_104, J_X9_errors_78, J_X9_errors_73, J_X9_errors_35, J_X9_errors_10, g, hrec]
      · by_cases g2 : m.1 ag_facts_kind a = x
        · simp (decide := true) only [Option.bind_some, ↓reduceIte, xst_f, xst_k, xst_s, ne_eq, not_false_eq_true, not_true_eq_false, and_self, and_true, true_and, and_false, false_and, or_true, true_or, or_false, false_or, L_X9_errors_41, hi, hn, hi', hn', p1, q, d10, J_X9_errors_104, J_X9_errors_78, J_X9_errors_73, J_X9_errors_35, J_X9_errors_10, g, g2, hrec]
        · simp (decide := true) only [Option.bind_some, ↓reduceIte, xst_f, xst_k, xst_s, ne_eq, not_false_eq_true, not_true_eq_false, and_self, and_true, true_and, and_false, false_and, or_true, true_or, or_false, false_or, L_X9_errors_41, hi, hn, hi', hn', p1, q, d10, J_X9_errors_104, J_X9_errors_78, J_X9_errors_73, J_X9_errors_35, J_X9_errors_10, g, g2, hrec]
theorem m_er (H : xRel t nf nw nl ne tp n m.1) {e : Nat} (he : e < ne) (x : Int32) (hx : -1 ≤ x) : ∀ (k a fk : Nat), a + k = 60 → k < fk → L_X10_errors_34 (Int32.ofNat e) x fk (Int32.ofNat (xct (ep m.1 e x) a)) (Int32.ofNat a) m = some (Int32.ofNat (xct (ep m.1 e x) 60), m)
  | 0, a, fk + 1, h, _ => by
    have q : 60 ≤ Int32.ofNat a := (o_le (a := 60) (by omega) (by omega)).mpr (by omega)
    have ha : a = 60 := by omega
    simp (decide := true) only [Option.bind_some, ↓reduceIte, xst_f, xst_k, xst_s, ne_eq, not_false_eq_true, not_true_eq_false, and_self, and_true, true_and, and_false, false_and, or_true, true_or, or_false, false_or, L_X10_errors_34, q, ha]
  | k + 1, a, fk + 1, h, hf => by
    have hrec := m_er H he x hx k (a + 1) fk (by omega) (by omega)
    obtain ⟨h1, h2, h3, h4, h5, h6, h7, h8, h9, h10⟩ := id H
    have hb := h1.1
    obtain ⟨-, ⟨a1, a2⟩, ⟨b1, b2⟩, ⟨c1, c2⟩, ⟨d1, d2⟩, e1, e2⟩ := id h1
    obtain ⟨p1, p2, p3, p4⟩ := h10.1 e he
    have hi : xin (Int32.ofNat (60 * e + a)) 600 = true := o_in (by omega) (by omega)
    have hn : (Int32.ofNat (60 * e + a)).toNatClampNeg = 60 * e + a := o_nat (by omega)
    have hi' : xin (Int32.ofNat a) 60 = true := o_in (by omega) (by omega)
    have hn' : (Int32.ofNat a).toNatClampNeg = a := o_nat (by omega)
    have q : ¬ 60 ≤ Int32.ofNat a := fun q => by have := (o_le (a := 60) (by omega) (by omega)).mp q; omega
    obtain ⟨r1, r2, r3⟩ := (p3 a (by omega)).2
    rw [xct_s] at hrec
    by_cases g : m.1 (59 + e) a = 2
    · have ha : a < n e := by
        rcases Nat.lt_or_ge a (n e) with w | w
        · exact w
        · rw [r3 w] at g; cases g
      have kk := (h2 a (by omega)).1.1
      by_cases s1 : x < 0
      · have s2 : x = -1 := by grind
        have : ep m.1 e x a = true := decide_eq_true ⟨g, Or.inl s2⟩
        rw [this] at hrec
        simp (decide := true) only [Option.bind_some, ↓reduceIte, xst_f, xst_k, xst_s, ne_eq, not_false_eq_true, not_true_eq_false, and_self, and_true, true_and, and_false, false_and, or_true, true_or, or_false, false_or, ← o_succ] at hrec
        simp (decide := true) only [Option.bind_some, ↓reduceIte, xst_f, xst_k, xst_s, ne_eq, not_false_eq_true, not_true_eq_false, and_self, and_true, true_and, and_false, false_and, or_true, true_or, or_false, false_or, L_X10_errors_34, q, o_60, o_add, hi, hn, ← r1, g, s1, J_X10_errors_78, J_X10_errors_77, J_X10_errors_73, hrec]
      · by_cases g2 : m.1 ag_facts_kind a = x
        · have : ep m.1 e x a = true := decide_eq_true ⟨g, Or.inr g2⟩
          rw [this] at hrec
          simp (decide := true) only [Option.bind_some, ↓reduceIte, xst_f, xst_k, xst_s, ne_eq, not_false_eq_true, not_true_eq_false, and_self, and_true, true_and, and_false, false_and, or_true, true_or, or_false, false_or, ← o_succ] at hrec
          simp (decide := true) only [Option.bind_some, ↓reduceIte, xst_f, xst_k, xst_s, ne_eq, not_false_eq_true, not_true_eq_false, and_self, and_true, true_and, and_false, false_and, or_true, true_or, or_false, false_or, L_X10_errors_34, q, o_60, o_add, hi, hn, hi', hn', ← r1, g, s1, ← kk, g2, J_X10_errors_78, J_X10_errors_77, J_X10_errors_73, hrec]
        · have : ep m.1 e x a = false := decide_eq_false (fun w => w.2.elim (fun w => s1 (by rw [w]; decide)) g2)
          rw [this] at hrec
          simp (decide := true) only [Option.bind_some, ↓reduceIte, xst_f, xst_k, xst_s, ne_eq, not_false_eq_true, not_true_eq_false, and_self, and_true, true_and, and_false, false_and, or_true, true_or, or_false, false_or, ← o_succ, Bool.false_eq_true, Nat.add_zero] at hrec
          simp (decide := true) only [Option.bind_some, ↓reduceIte, xst_f, xst_k, xst_s, ne_eq, not_false_eq_true, not_true_eq_false, and_self, and_true, true_and, and_false, false_and, or_true, true_or, or_false, false_or, L_X10_errors_34, q, o_60, o_add, hi, hn, hi', hn', ← r1, g, s1, ← kk, g2, J_X10_errors_78, J_X10_errors_77, J_X10_errors_73, Int32.add_zero, hrec]
    · have : ep m.1 e x a = false := decide_eq_false (fun w => g w.1)
      rw [this] at hrec
      simp (decide := true) only [Option.bind_some, ↓reduceIte, xst_f, xst_k, xst_s, ne_eq, not_false_eq_true, not_true_eq_false, and_self, and_true, true_and, and_false, false_and, or_true, true_or, or_false, false_or, ← o_succ, Bool.false_eq_true, Nat.add_zero] at hrec
      simp (decide := true) only [Option.bind_some, ↓reduceIte, xst_f, xst_k, xst_s, ne_eq, not_false_eq_true, not_true_eq_false, and_self, and_true, true_and, and_false, false_and, or_true, true_or, or_false, false_or, L_X10_errors_34, q, o_60, o_add, hi, hn, hi', hn', ← r1, g, J_X10_errors_78, J_X10_errors_77, J_X10_errors_73, Int32.add_zero, hrec]
theorem pr_errors (ht : t ≤ 600) (H : xRel t nf nw nl ne tp n m.1) (x y : Int32) : xPair (F_X9_errors x y) (F_X10_errors x y) t m := by
  obtain ⟨h1, h2, h3, h4, h5, h6, h7, h8, h9, h10⟩ := id H
  have hb := h1.1
  obtain ⟨-, ⟨a1, a2⟩, ⟨b1, b2⟩, ⟨c1, c2⟩, ⟨d1, d2⟩, e1, e2⟩ := id h1
  have d10 : ¬ ((1 : Int32) = 0) := by decide
  by_cases h : 0 ≤ x ∧ x < Int32.ofNat ne
  · obtain ⟨e, he, rfl⟩ := g_ix h (by omega)
    have k1 : ¬ Int32.ofNat e < 0 := by grind
    have k2 : ¬ Int32.ofNat ne ≤ Int32.ofNat e := by grind
    have hq : (0 ≤ Int32.ofNat e ∧ Int32.ofNat e < Int32.ofNat ne) = True := eq_true h
    by_cases g : -1 ≤ y ∧ y ≤ 5
    · have H' := H.keep (k_th m 0)
      have e1 := m_er H' he y g.1 60 0 xfuel (by omega) (by decide)
      have eq0 : xct (ep (xst m.1 am fGuideBookModel_thrown 0) e y) 60 = xct (ep m.1 e y) 60 := xct_cg 60 (fun k _ => by
        unfold ep
        rw [xst_f (b := 59 + e) (by show 87 ≠ 59 + e; omega)]
        rfl)
      have eq1 : xct (ep m.1 e y) 60 = xct (ep m.1 e y) (n e) := by
        obtain ⟨p1, p2, p3, p4⟩ := h10.1 e he
        have := xct_ext (P := ep m.1 e y) (a := n e) (60 - n e) (fun j q1 q2 => decide_eq_false (fun w => by
          have := (p3 j (by omega)).2.2.2 q1
          rw [this] at w; exact absurd w.1 (by decide)))
        rw [← this]; congr 1; omega
      rw [eq0, eq1] at e1
      have z : Int32.ofNat (xct (ep (xst m.1 am fGuideBookModel_thrown 0) e y) 0) = 0 := rfl
      rw [z, ← o_zero] at e1
      have k3 : ¬ y < -1 := by grind
      refine xPair.keep (m1 := m) (m2 := (xst m.1 am fGuideBookModel_thrown 0, m.2)) (v := Int32.ofNat (xct (ep m.1 e y) (n e))) ht H ?_ (xKeep.refl m) ?_ (k_th m 0)
      · by_cases y1 : y = -1
        · have e2 := c_er H he y 1 (Or.inl ⟨y1, rfl⟩) (n e) 0 xfuel (by omega) (by have := (h10.1 e he).2.1; rw [xfuel_eq]; omega)
          have z : Int32.ofNat (xct (ep m.1 e y) 0) = 0 := rfl
          rw [z, ← o_zero] at e2
          rw [show F_X9_errors (Int32.ofNat e) y m = J_X9_errors_10 (Int32.ofNat e) y 1 m by unfold F_X9_errors; rw [if_pos y1]]
          simp (decide := true) only [Option.bind_some, ↓reduceIte, xst_f, xst_k, xst_s, ne_eq, not_false_eq_true, not_true_eq_false, and_self, and_true, true_and, and_false, false_and, or_true, true_or, or_false, false_or, J_X9_errors_10, g_hasE, d1, hq, d10, J_X9_errors_35, e2]
        · have y2 : 0 ≤ y ∧ y ≤ 5 := by grind
          have y2' : (0 ≤ y ∧ y ≤ 5) = True := eq_true y2
          have e2 := c_er H he y 0 (Or.inr ⟨y1, rfl⟩) (n e) 0 xfuel (by omega) (by have := (h10.1 e he).2.1; rw [xfuel_eq]; omega)
          have z : Int32.ofNat (xct (ep m.1 e y) 0) = 0 := rfl
          rw [z, ← o_zero] at e2
          simp (decide := true) only [Option.bind_some, ↓reduceIte, xst_f, xst_k, xst_s, ne_eq, not_false_eq_true, not_true_eq_false, and_self, and_true, true_and, and_false, false_and, or_true, true_or, or_false, false_or, F_X9_errors, y1, J_X9_errors_10, g_hasE, d1, hq, d10, g_isKind, y2', J_X9_errors_35, e2]
      · simp (decide := true) only [Option.bind_some, ↓reduceIte, xst_f, xst_k, xst_s, ne_eq, not_false_eq_true, not_true_eq_false, and_self, and_true, true_and, and_false, false_and, or_true, true_or, or_false, false_or, F_X10_errors, k1, d2, k2, k3, g.2, e1]
    · refine xPair.keep (m1 := m) (m2 := (xst m.1 am fGuideBookModel_thrown 0, m.2)) (v := -1) ht H ?_ (xKeep.refl m) ?_ (k_th m 0)
      · have y1 : ¬ y = -1 := by intro w; subst w; exact g ⟨by decide, by decide⟩
        have y2 : ¬ (0 ≤ y ∧ y ≤ 5) := by grind
        simp (decide := true) only [Option.bind_some, ↓reduceIte, xst_f, xst_k, xst_s, ne_eq, not_false_eq_true, not_true_eq_false, and_self, and_true, true_and, and_false, false_and, or_true, true_or, or_false, false_or, F_X9_errors, y1, J_X9_errors_10, g_hasE, d1, hq, d10, g_isKind, y2]
      · by_cases k3 : y < -1
        · simp (decide := true) only [Option.bind_some, ↓reduceIte, xst_f, xst_k, xst_s, ne_eq, not_false_eq_true, not_true_eq_false, and_self, and_true, true_and, and_false, false_and, or_true, true_or, or_false, false_or, F_X10_errors, k1, d2, k2, k3]
        · have k4 : ¬ y ≤ 5 := by grind
          simp (decide := true) only [Option.bind_some, ↓reduceIte, xst_f, xst_k, xst_s, ne_eq, not_false_eq_true, not_true_eq_false, and_self, and_true, true_and, and_false, false_and, or_true, true_or, or_false, false_or, F_X10_errors, k1, d2, k2, k3, k4]
  · refine xPair.keep (m1 := m) (m2 := (xst m.1 am fGuideBookModel_thrown 0, m.2)) (v := -1) ht H ?_ (xKeep.refl m) ?_ (k_th m 0)
    · by_cases y1 : y = -1
      · simp (decide := true) only [Option.bind_some, ↓reduceIte, xst_f, xst_k, xst_s, ne_eq, not_false_eq_true, not_true_eq_false, and_self, and_true, true_and, and_false, false_and, or_true, true_or, or_false, false_or, F_X9_errors, y1, J_X9_errors_10, g_hasE, d1, h]
      · simp (decide := true) only [Option.bind_some, ↓reduceIte, xst_f, xst_k, xst_s, ne_eq, not_false_eq_true, not_true_eq_false, and_self, and_true, true_and, and_false, false_and, or_true, true_or, or_false, false_or, F_X9_errors, y1, J_X9_errors_10, g_hasE, d1, h]
    · by_cases k1 : x < 0
      · simp (decide := true) only [Option.bind_some, ↓reduceIte, xst_f, xst_k, xst_s, ne_eq, not_false_eq_true, not_true_eq_false, and_self, and_true, true_and, and_false, false_and, or_true, true_or, or_false, false_or, F_X10_errors, k1]
      · have k2 : Int32.ofNat ne ≤ x := by grind
        simp (decide := true) only [Option.bind_some, ↓reduceIte, xst_f, xst_k, xst_s, ne_eq, not_false_eq_true, not_true_eq_false, and_self, and_true, true_and, and_false, false_and, or_true, true_or, or_false, false_or, F_X10_errors, k1, d2, k2]
end ER
