section SA
variable {t nf nw nl ne tp : Nat} {n : Nat → Nat}
/-- a mark on the scale -/
def scl (I : xI) (p w : Nat) : Int32 := if 0 < (if I (19 + p) w - shv I w < 100 then I (19 + p) w - shv I w else 100) then (if I (19 + p) w - shv I w < 100 then I (19 + p) w - shv I w else 100) else 0
theorem scl_rg (I : xI) (p w : Nat) : 0 ≤ scl I p w ∧ scl I p w ≤ 100 := by
  unfold scl
  generalize I (19 + p) w - shv I w = v
  split
  · split at *
    · constructor <;> grind
    · exact ⟨by decide, by decide⟩
  · exact ⟨by decide, by decide⟩
theorem scl_m (I : xI) (p w : Nat) : (if 0 ≤ I (19 + p) w - shv I w then (if I (19 + p) w - shv I w ≤ 100 then I (19 + p) w - shv I w else 100) else 0) = scl I p w := by
  unfold scl
  generalize I (19 + p) w - shv I w = v
  by_cases h1 : 0 ≤ v
  · rw [if_pos h1]
    by_cases h2 : v ≤ 100
    · rw [if_pos h2]
      by_cases h3 : v < 100
      · rw [if_pos h3]
        by_cases h4 : 0 < v
        · rw [if_pos h4]
        · rw [if_neg h4]; grind
      · rw [if_neg h3, if_pos (by decide)]; grind
    · rw [if_neg h2, if_neg (show ¬ v < 100 by grind), if_pos (by decide)]
  · rw [if_neg h1, if_pos (show v < 100 by grind), if_neg (by grind)]
theorem c_onScale {m : xMem} {p w : Nat} (hp : p < 10) (hw : w < 5) : F_X4_onScale (Int32.ofNat p) (Int32.ofNat w) m = some (scl m.1 p w, m) := by
  have i1 : xin (Int32.ofNat p) 10 = true := o_in (by omega) (by omega)
  have n1 : (Int32.ofNat p).toNatClampNeg = p := o_nat (by omega)
  have i2 : xin (Int32.ofNat w) 5 = true := o_in (by omega) (by omega)
  have n2 : (Int32.ofNat w).toNatClampNeg = w := o_nat (by omega)
  unfold F_X4_onScale
  rw [if_pos i1, if_pos i2, c_shiftOf hw, Option.bind_some, n1, n2]
  rfl
def dsc (M Sc : Nat → Int32) : Nat → Nat → Nat → Int32 → Int32 → Int32 → Nat × Int32 × Int32 × Int32
  | 0, _, c, s, l, g => (c, s, l, g)
  | k + 1, a, c, s, l, g => if M a = -1 then dsc M Sc k (a + 1) c s l g else dsc M Sc k (a + 1) (c + 1) (s + Sc a) (if Sc a < l then Sc a else l) (if g < Sc a then Sc a else g)
theorem c_ds {m : xMem} {p : Nat} (hp : p < 10) {c : Int32 → Int32 → Int32 → Int32 → xMem → Option (Int32 × xMem)} : ∀ (k a fk x : Nat) (s l g : Int32), a + k = 5 → k < fk → L_X4_describe_15 (Int32.ofNat p) c fk (Int32.ofNat x) s l g (Int32.ofNat a) m = c (Int32.ofNat (dsc (m.1 (19 + p)) (scl m.1 p) k a x s l g).1) (dsc (m.1 (19 + p)) (scl m.1 p) k a x s l g).2.1 (dsc (m.1 (19 + p)) (scl m.1 p) k a x s l g).2.2.1 (dsc (m.1 (19 + p)) (scl m.1 p) k a x s l g).2.2.2 m
  | 0, a, fk + 1, x, s, l, g, h, _ => by
    have q : 5 ≤ Int32.ofNat a := (o_le (a := 5) (by omega) (by omega)).mpr (by omega)
    unfold L_X4_describe_15
    rw [if_pos q]
    rfl
  | k + 1, a, fk + 1, x, s, l, g, h, hf => by
    have hrec := fun x s l g => c_ds (m := m) hp (c := c) k (a + 1) fk x s l g (by omega) (by omega)
    have q : ¬ 5 ≤ Int32.ofNat a := fun w => by have := (o_le (a := 5) (by omega) (by omega)).mp w; omega
    have i1 : xin (Int32.ofNat p) 10 = true := o_in (by omega) (by omega)
    have n1 : (Int32.ofNat p).toNatClampNeg = p := o_nat (by omega)
    have i2 : xin (Int32.ofNat a) 5 = true := o_in (by omega) (by omega)
    have n2 : (Int32.ofNat a).toNatClampNeg = a := o_nat (by omega)
    unfold L_X4_describe_15 dsc
    rw [if_neg q, if_pos i1, if_pos i2, n1, n2]
    by_cases w : m.1 (19 + p) a = -1
    · rw [if_pos w, if_pos w]
      unfold J_X4_describe_71
      rw [o_succ]
      exact hrec x s l g
    · rw [if_neg w, if_neg w, c_onScale hp (show a < 5 by omega), Option.bind_some]
      dsimp only
      unfold J_X4_describe_71
      rw [o_succ, o_succ]
      exact hrec (x + 1) _ _ _
theorem m_ds {m : xMem} (H : I_mark m.1) {p : Nat} (hp : p < 10) {c : Int32 → Int32 → Int32 → Int32 → xMem → Option (Int32 × xMem)} : ∀ (k a fk x : Nat) (s l g l' g' : Int32), a + k = 5 → k < fk → x ≤ a → ((x = 0 ∧ l = 100 ∧ g = 0 ∧ l' = 0 ∧ g' = 0) ∨ (x ≠ 0 ∧ l' = l ∧ g' = g)) → L_X10_starsOf_13 (Int32.ofNat p) c fk (Int32.ofNat x) s l' g' (Int32.ofNat a) m = c (Int32.ofNat (dsc (m.1 (19 + p)) (scl m.1 p) k a x s l g).1) (dsc (m.1 (19 + p)) (scl m.1 p) k a x s l g).2.1 (if (dsc (m.1 (19 + p)) (scl m.1 p) k a x s l g).1 = 0 then 0 else (dsc (m.1 (19 + p)) (scl m.1 p) k a x s l g).2.2.1) (dsc (m.1 (19 + p)) (scl m.1 p) k a x s l g).2.2.2 m ∧ (dsc (m.1 (19 + p)) (scl m.1 p) k a x s l g).1 ≤ 5
  | 0, a, fk + 1, x, s, l, g, l', g', h, _, hx, hr => by
    have q : 5 ≤ Int32.ofNat a := (o_le (a := 5) (by omega) (by omega)).mpr (by omega)
    refine ⟨?_, by show x ≤ 5; omega⟩
    unfold L_X10_starsOf_13
    rw [if_pos q]
    show _ = c (Int32.ofNat x) s (if x = 0 then 0 else l) g m
    rcases hr with ⟨h1, h2, h3, h4, h5⟩ | ⟨h1, h2, h3⟩
    · rw [if_pos h1, h4, h5, h3]
    · rw [if_neg h1, h2, h3]
  | k + 1, a, fk + 1, x, s, l, g, l', g', h, hf, hx, hr => by
    have hrec := fun x s l g l' g' => m_ds H hp (c := c) k (a + 1) fk x s l g l' g' (by omega) (by omega)
    have q : ¬ 5 ≤ Int32.ofNat a := fun w => by have := (o_le (a := 5) (by omega) (by omega)).mp w; omega
    have i1 : xin (Int32.ofNat (5 * p + a)) 50 = true := o_in (by omega) (by omega)
    have n1 : (Int32.ofNat (5 * p + a)).toNatClampNeg = 5 * p + a := o_nat (by omega)
    obtain ⟨p1, p2, p3⟩ := H p hp a (by omega)
    have ds : dsc (m.1 (19 + p)) (scl m.1 p) (k + 1) a x s l g = if m.1 (19 + p) a = -1 then dsc (m.1 (19 + p)) (scl m.1 p) k (a + 1) x s l g else dsc (m.1 (19 + p)) (scl m.1 p) k (a + 1) (x + 1) (s + scl m.1 p a) (if scl m.1 p a < l then scl m.1 p a else l) (if g < scl m.1 p a then scl m.1 p a else g) := rfl
    rw [ds]
    unfold L_X10_starsOf_13
    rw [if_neg q, o_5, o_add, if_pos i1, n1, ← p1]
    by_cases w : m.1 (19 + p) a = -1
    · rw [if_pos (show m.1 (19 + p) a < 0 by rw [w]; decide), if_pos w]
      unfold J_X10_starsOf_126
      rw [o_succ]
      exact hrec x s l g l' g' (by omega) hr
    · rw [if_neg (show ¬ m.1 (19 + p) a < 0 by grind), if_neg w, if_pos i1, m_shiftOf H (show a < 5 by omega), Option.bind_some]
      dsimp only
      have e := scl_m m.1 p a
      obtain ⟨sr1, sr2⟩ := scl_rg m.1 p a
      have hj : ∀ v, v = scl m.1 p a → J_X10_starsOf_76 (fun y_64 y_65 y_66 y_67 y_68 m_69 => L_X10_starsOf_13 (Int32.ofNat p) c fk y_64 y_65 y_66 y_67 y_68 m_69) c (Int32.ofNat p) (Int32.ofNat x) s l' g' (Int32.ofNat a) v m = L_X10_starsOf_13 (Int32.ofNat p) c fk (Int32.ofNat (x + 1)) (s + scl m.1 p a) (if scl m.1 p a < l then scl m.1 p a else l) (if g < scl m.1 p a then scl m.1 p a else g) (Int32.ofNat (a + 1)) m := by
        intro v hv
        rw [hv]
        generalize scl m.1 p a = v' at *
        rcases hr with ⟨h1, h2, h3, h4, h5⟩ | ⟨h1, h2, h3⟩
        · subst h1 h2 h3 h4 h5
          have z : Int32.ofNat 0 = 0 := rfl
          have e1 : (if v' < 100 then v' else 100) = v' := by
            split
            · rfl
            · grind
          have e2 : (if 0 < v' then v' else 0) = v' := by
            split
            · rfl
            · grind
          rw [e1, e2]
          simp (decide := true) only [Option.bind_some, ↓reduceIte, xst_f, xst_k, xst_s, ne_eq, not_false_eq_true, not_true_eq_false, and_self, and_true, true_and, and_false, false_and, or_true, true_or, or_false, false_or, J_X10_starsOf_126, J_X10_starsOf_116, J_X10_starsOf_109, J_X10_starsOf_96, J_X10_starsOf_89, J_X10_starsOf_76, z, o_succ]
          rfl
        · subst h2 h3
          have x0 : ¬ Int32.ofNat x = 0 := fun u => h1 ((o_eq (b := 0) (by omega) (by omega)).mp u)
          by_cases u1 : l' ≤ v'
          · have u1' : ¬ v' < l' := by grind
            by_cases u2 : v' ≤ g'
            · have u2' : ¬ g' < v' := by grind
              simp (decide := true) only [Option.bind_some, ↓reduceIte, xst_f, xst_k, xst_s, ne_eq, not_false_eq_true, not_true_eq_false, and_self, and_true, true_and, and_false, false_and, or_true, true_or, or_false, false_or, J_X10_starsOf_126, J_X10_starsOf_116, J_X10_starsOf_109, J_X10_starsOf_96, J_X10_starsOf_89, J_X10_starsOf_76, x0, u1, u1', u2, u2', o_succ]
            · have u2' : g' < v' := by grind
              simp (decide := true) only [Option.bind_some, ↓reduceIte, xst_f, xst_k, xst_s, ne_eq, not_false_eq_true, not_true_eq_false, and_self, and_true, true_and, and_false, false_and, or_true, true_or, or_false, false_or, J_X10_starsOf_126, J_X10_starsOf_116, J_X10_starsOf_109, J_X10_starsOf_96, J_X10_starsOf_89, J_X10_starsOf_76, x0, u1, u1', u2, u2', o_succ]
          · have u1' : v' < l' := by grind
            by_cases u2 : v' ≤ g'
            · have u2' : ¬ g' < v' := by grind
              simp (decide := true) only [Option.bind_some, ↓reduceIte, xst_f, xst_k, xst_s, ne_eq, not_false_eq_true, not_true_eq_false, and_self, and_true, true_and, and_false, false_and, or_true, true_or, or_false, false_or, J_X10_starsOf_126, J_X10_starsOf_116, J_X10_starsOf_109, J_X10_starsOf_96, J_X10_starsOf_89, J_X10_starsOf_76, x0, u1, u1', u2, u2', o_succ]
            · have u2' : g' < v' := by grind
              simp (decide := true) only [Option.bind_some, ↓reduceIte, xst_f, xst_k, xst_s, ne_eq, not_false_eq_true, not_true_eq_false, and_self, and_true, true_and, and_false, false_and, or_true, true_or, or_false, false_or, J_X10_starsOf_126, J_X10_starsOf_116, J_X10_starsOf_109, J_X10_starsOf_96, J_X10_starsOf_89, J_X10_starsOf_76, x0, u1, u1', u2, u2', o_succ]
      have hr2 := hrec (x + 1) (s + scl m.1 p a) (if scl m.1 p a < l then scl m.1 p a else l) (if g < scl m.1 p a then scl m.1 p a else g) _ _ (by omega) (Or.inr ⟨by omega, rfl, rfl⟩)
      refine ⟨?_, hr2.2⟩
      rw [← hr2.1]
      by_cases c1 : 0 ≤ m.1 (19 + p) a - shv m.1 a
      · rw [if_pos c1] at e ⊢
        by_cases c2 : m.1 (19 + p) a - shv m.1 a ≤ 100
        · rw [if_pos c2] at e ⊢
          exact hj _ e
        · rw [if_neg c2] at e ⊢
          exact hj _ e
      · rw [if_neg c1] at e ⊢
        exact hj _ e
theorem c_cn {m : xMem} (H : xRel t nf nw nl ne tp n m.1) (p : Nat) : ∀ (k a fk : Nat), a + k = nf → k < fk → L_X2_countOf_4 (Int32.ofNat p) fk (Int32.ofNat (xct (fun f => decide (m.1 ag_facts_place f = Int32.ofNat p)) a)) (Int32.ofNat a) m = some (Int32.ofNat (xct (fun f => decide (m.1 ag_facts_place f = Int32.ofNat p)) nf), m)
  | 0, a, fk + 1, h, _ => by
    obtain ⟨h1, h2, h3, h4, h5, h6, h7, h8, h9, h10⟩ := id H
    have hb := h1.1
    obtain ⟨-, ⟨a1, a2⟩, ⟨b1, b2⟩, ⟨c1, c2⟩, ⟨d1, d2⟩, e1, e2⟩ := id h1
    have q : Int32.ofNat nf ≤ Int32.ofNat a := (o_le (by omega) (by omega)).mpr (by omega)
    have ha : a = nf := by omega
    subst ha
    unfold L_X2_countOf_4
    rw [a1, if_pos q]
  | k + 1, a, fk + 1, h, hf => by
    have hrec := c_cn H p k (a + 1) fk (by omega) (by omega)
    obtain ⟨h1, h2, h3, h4, h5, h6, h7, h8, h9, h10⟩ := id H
    have hb := h1.1
    obtain ⟨-, ⟨a1, a2⟩, ⟨b1, b2⟩, ⟨c1, c2⟩, ⟨d1, d2⟩, e1, e2⟩ := id h1
    have q : ¬ Int32.ofNat nf ≤ Int32.ofNat a := fun w => by have := (o_le (by omega) (by omega)).mp w; omega
    have hi : xin (Int32.ofNat a) 60 = true := o_in (by omega) (by omega)
    have hn : (Int32.ofNat a).toNatClampNeg = a := o_nat (by omega)
    rw [xct_s] at hrec
    by_cases g : m.1 ag_facts_place a = Int32.ofNat p
    · rw [decide_eq_true g] at hrec
      simp (decide := true) only [Option.bind_some, ↓reduceIte, xst_f, xst_k, xst_s, ne_eq, not_false_eq_true, not_true_eq_false, and_self, and_true, true_and, and_false, false_and, or_true, true_or, or_false, false_or, ← o_succ] at hrec
      simp (decide := true) only [Option.bind_some, ↓reduceIte, xst_f, xst_k, xst_s, ne_eq, not_false_eq_true, not_true_eq_false, and_self, and_true, true_and, and_false, false_and, or_true, true_or, or_false, false_or, L_X2_countOf_4, a1, q, hi, hn, g, J_X2_countOf_25, hrec]
    · rw [decide_eq_false g] at hrec
      simp (decide := true) only [Option.bind_some, ↓reduceIte, xst_f, xst_k, xst_s, ne_eq, not_false_eq_true, not_true_eq_false, and_self, and_true, true_and, and_false, false_and, or_true, true_or, or_false, false_or, ← o_succ, Bool.false_eq_true, Nat.add_zero] at hrec
      simp (decide := true) only [Option.bind_some, ↓reduceIte, xst_f, xst_k, xst_s, ne_eq, not_false_eq_true, not_true_eq_false, and_self, and_true, true_and, and_false, false_and, or_true, true_or, or_false, false_or, L_X2_countOf_4, a1, q, hi, hn, g, J_X2_countOf_25, hrec]
theorem m_cn {P : Nat → Int32} (hnf : nf ≤ 60) (p : Nat) {c : xMem → Option (Int32 × xMem)} : ∀ (k a fk : Nat) (m : xMem), a + k = nf → k < fk → m.1 am fGuideBookModel_facts = Int32.ofNat nf → (∀ i, i < nf → m.1 am_placeOf i = P i) → m.1 101 4 = Int32.ofNat (xct (fun f => decide (P f = Int32.ofNat p)) a) → ∃ m', L_X10_starsOf_182 (Int32.ofNat p) c fk (Int32.ofNat a) m = c m' ∧ m'.2 = m.2 ∧ (∀ b j, ¬ (b = 101 ∧ j = 4) → m'.1 b j = m.1 b j) ∧ m'.1 101 4 = Int32.ofNat (xct (fun f => decide (P f = Int32.ofNat p)) nf)
  | 0, a, fk + 1, m, h, _, h1, h2, h3 => by
    have q : Int32.ofNat nf ≤ Int32.ofNat a := (o_le (by omega) (by omega)).mpr (by omega)
    have ha : a = nf := by omega
    subst ha
    refine ⟨m, ?_, rfl, fun _ _ _ => rfl, h3⟩
    unfold L_X10_starsOf_182
    rw [h1, if_pos q]
  | k + 1, a, fk + 1, m, h, hf, h1, h2, h3 => by
    have q : ¬ Int32.ofNat nf ≤ Int32.ofNat a := fun w => by have := (o_le (by omega) (by omega)).mp w; omega
    have hi : xin (Int32.ofNat a) 60 = true := o_in (by omega) (by omega)
    have hn : (Int32.ofNat a).toNatClampNeg = a := o_nat (by omega)
    have i4 : xin (4 : Int32) 6 = true := rfl
    have n4 : (4 : Int32).toNatClampNeg = 4 := rfl
    have hpl := h2 a (by omega)
    have h3' : m.1 am_known 4 = _ := h3
    have step : ∀ v, v = Int32.ofNat (xct (fun f => decide (P f = Int32.ofNat p)) (a + 1)) → L_X10_starsOf_182 (Int32.ofNat p) c (fk + 1) (Int32.ofNat a) m = L_X10_starsOf_182 (Int32.ofNat p) c fk (Int32.ofNat (a + 1)) (xst m.1 am_known 4 v, m.2) → ∃ m', L_X10_starsOf_182 (Int32.ofNat p) c (fk + 1) (Int32.ofNat a) m = c m' ∧ m'.2 = m.2 ∧ (∀ b j, ¬ (b = 101 ∧ j = 4) → m'.1 b j = m.1 b j) ∧ m'.1 101 4 = Int32.ofNat (xct (fun f => decide (P f = Int32.ofNat p)) nf) := by
      intro v hv hs
      obtain ⟨m', r1, r2, r3, r4⟩ := m_cn (P := P) hnf p (c := c) k (a + 1) fk (xst m.1 am_known 4 v, m.2) (by omega) (by omega) (by show xst m.1 101 4 v 87 25 = _; rw [xst_n (by decide)]; exact h1) (fun i hi => by show xst m.1 101 4 v 104 i = _; rw [xst_n (fun w => absurd w.1 (by decide))]; exact h2 i hi) (by rw [← hv]; show xst m.1 101 4 v 101 4 = v; exact xst_s)
      exact ⟨m', hs.trans r1, r2, fun b j w => (r3 b j w).trans (xst_n w), r4⟩
    by_cases g : P a = Int32.ofNat p
    · refine step (Int32.ofNat (xct (fun f => decide (P f = Int32.ofNat p)) a) + 1) (by rw [o_succ, xct_s, decide_eq_true g]; rfl) ?_
      rw [L_X10_starsOf_182]
      simp (decide := true) only [Option.bind_some, ↓reduceIte, xst_f, xst_k, xst_s, ne_eq, not_false_eq_true, not_true_eq_false, and_self, and_true, true_and, and_false, false_and, or_true, true_or, or_false, false_or, h1, q, i4, n4, hi, hn, hpl, g, h3', o_succ]
    · refine step (Int32.ofNat (xct (fun f => decide (P f = Int32.ofNat p)) a) + 0) (by rw [Int32.add_zero, xct_s, decide_eq_false g]; rfl) ?_
      rw [L_X10_starsOf_182]
      simp (decide := true) only [Option.bind_some, ↓reduceIte, xst_f, xst_k, xst_s, ne_eq, not_false_eq_true, not_true_eq_false, and_self, and_true, true_and, and_false, false_and, or_true, true_or, or_false, false_or, h1, q, i4, n4, hi, hn, hpl, g, h3', o_succ]
/-- what the text's words mean for a place -/
def nmv (I : xI) (nf p : Nat) : Nat → Int32
  | 0 => Int32.ofNat (dsc (I (19 + p)) (scl I p) 5 0 0 0 100 0).1
  | 1 => if (dsc (I (19 + p)) (scl I p) 5 0 0 0 100 0).1 = 0 then 0 else (dsc (I (19 + p)) (scl I p) 5 0 0 0 100 0).2.1 / Int32.ofNat (dsc (I (19 + p)) (scl I p) 5 0 0 0 100 0).1
  | 2 => if (dsc (I (19 + p)) (scl I p) 5 0 0 0 100 0).1 = 0 then 0 else (dsc (I (19 + p)) (scl I p) 5 0 0 0 100 0).2.2.1
  | 3 => (dsc (I (19 + p)) (scl I p) 5 0 0 0 100 0).2.2.2
  | 4 => Int32.ofNat (xct (fun f => decide (I ag_facts_place f = Int32.ofNat p)) nf)
  | _ => if I ag_praised p = 0 then 0 else 1
end SA
