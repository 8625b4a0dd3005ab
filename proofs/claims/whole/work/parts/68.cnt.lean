theorem xct_ext {P : Nat → Bool} {a : Nat} : ∀ k, (∀ j, a ≤ j → j < a + k → P j = false) → xct P (a + k) = xct P a
  | 0, _ => rfl
  | k + 1, h => by
    show xct P (a + k) + (if P (a + k) then 1 else 0) = _
    rw [xct_ext k (fun j h1 h2 => h j h1 (by omega)), h (a + k) (by omega) (by omega)]
    rfl
theorem xct_add {P Q R : Nat → Bool} : ∀ n, (∀ k, k < n → R k = (P k || Q k) ∧ ¬ (P k = true ∧ Q k = true)) → xct R n = xct P n + xct Q n
  | 0, _ => rfl
  | n + 1, h => by
    have := xct_add n (fun k hk => h k (by omega))
    obtain ⟨h1, h2⟩ := h n (by omega)
    unfold xct
    rw [this, h1]
    cases hp : P n <;> cases hq : Q n <;> simp [hp, hq] at h2 ⊢ <;> omega
theorem o_zero : (0 : Int32) = Int32.ofNat 0 := rfl
section CT
variable {t nf nw nl ne tp : Nat} {n : Nat → Nat} {m : xMem}
/-- a reader's weight -/
def wtv (I : xI) (r : Nat) : Int32 := (1000 : Int32) * (I ag_letters_rightOf r + 1) / (I ag_letters_rightOf r + I ag_letters_wrongOf r + 2)
theorem wt_nz (H : xRel t nf nw nl ne tp n m.1) {r : Nat} (hr : r < 20) : ∃ a b, a ≤ 100 ∧ b ≤ 100 ∧ m.1 ag_letters_rightOf r = Int32.ofNat a ∧ m.1 ag_letters_wrongOf r = Int32.ofNat b ∧ a = xct (fun l => decide (m.1 ag_letters_reader l = Int32.ofNat r ∧ m.1 ag_letters_state l = 1)) nl ∧ b = xct (fun l => decide (m.1 ag_letters_reader l = Int32.ofNat r ∧ m.1 ag_letters_state l = 2)) nl := by
  obtain ⟨h1, h2, h3, h4, h5, h6, h7, h8, h9, h10⟩ := id H
  have hb := h1.1
  obtain ⟨-, ⟨a1, a2⟩, ⟨b1, b2⟩, ⟨c1, c2⟩, ⟨d1, d2⟩, e1, e2⟩ := id h1
  obtain ⟨q1, q2⟩ := h6.1 r hr
  exact ⟨_, _, Nat.le_trans (xct_le _) hb.2.2.1, Nat.le_trans (xct_le _) hb.2.2.1, q1, q2, rfl, rfl⟩
theorem c_weightOf (H : xRel t nf nw nl ne tp n m.1) {r : Nat} (hr : r < 20) : F_X3_weightOf (Int32.ofNat r) m = some (wtv m.1 r, m) := by
  obtain ⟨a, b, ha, hb, e1, e2, -, -⟩ := wt_nz H hr
  have hi : xin (Int32.ofNat r) 20 = true := o_in (by omega) (by omega)
  have hn : (Int32.ofNat r).toNatClampNeg = r := o_nat (by omega)
  have hz : ¬ m.1 ag_letters_rightOf r + m.1 ag_letters_wrongOf r + 2 = 0 := by
    rw [e1, e2, show (2 : Int32) = Int32.ofNat 2 from rfl, ← Int32.ofNat_add, ← Int32.ofNat_add, o_zero, o_eq (by omega) (by omega)]; omega
  simp (decide := true) only [Option.bind_some, ↓reduceIte, xst_f, xst_k, xst_s, ne_eq, not_false_eq_true, not_true_eq_false, and_self, and_true, true_and, and_false, false_and, or_true, true_or, or_false, false_or, F_X3_weightOf, hi, hn, cut_v, hz, wtv]
theorem wt_rg (H : xRel t nf nw nl ne tp n m.1) {r : Nat} (hr : r < 20) : 0 ≤ (wtv m.1 r).toInt ∧ (wtv m.1 r).toInt ≤ 1000 := by
  obtain ⟨a, b, ha, hb, e1, e2, -, -⟩ := wt_nz H hr
  unfold wtv
  rw [e1, e2, o_succ, show (2 : Int32) = Int32.ofNat 2 from rfl, show (1000 : Int32) = Int32.ofNat 1000 from rfl, ← Int32.ofNat_add, ← Int32.ofNat_add, ← Int32.ofNat_mul, Int32.toInt_div_of_ne_right _ _ (by
    intro q
    have := congrArg Int32.toInt q
    rw [o_toInt (by omega)] at this
    have e : (-1 : Int32).toInt = -1 := rfl
    omega), o_toInt (by omega), o_toInt (by omega), Int.tdiv_eq_ediv_of_nonneg (by omega)]
  refine ⟨Int.ediv_nonneg (by omega) (by omega), ?_⟩
  exact Int.ediv_le_of_le_mul (by omega) (by omega)
theorem m_wtl (H : xRel t nf nw nl ne tp n m.1) (r : Nat) (c : Int32 → Int32 → xMem → Option (Int32 × xMem)) : ∀ (k a fk : Nat), a + k = nl → k < fk → L_X10_weightOf_7 (Int32.ofNat r) c fk (Int32.ofNat (xct (fun l => decide (m.1 ag_letters_reader l = Int32.ofNat r ∧ m.1 ag_letters_state l = 1)) a)) (Int32.ofNat (xct (fun l => decide (m.1 ag_letters_reader l = Int32.ofNat r ∧ ¬ m.1 ag_letters_state l = 0)) a)) (Int32.ofNat a) m = c (Int32.ofNat (xct (fun l => decide (m.1 ag_letters_reader l = Int32.ofNat r ∧ m.1 ag_letters_state l = 1)) nl)) (Int32.ofNat (xct (fun l => decide (m.1 ag_letters_reader l = Int32.ofNat r ∧ ¬ m.1 ag_letters_state l = 0)) nl)) m
  | 0, a, fk + 1, h, _ => by
    obtain ⟨h1, h2, h3, h4, h5, h6, h7, h8, h9, h10⟩ := id H
    have hb := h1.1
    obtain ⟨-, ⟨a1, a2⟩, ⟨b1, b2⟩, ⟨c1, c2⟩, ⟨d1, d2⟩, e1, e2⟩ := id h1
    have h0 : a = nl := by omega
    subst h0
    have q : Int32.ofNat a ≤ Int32.ofNat a := Int32.le_refl _
    simp (decide := true) only [Option.bind_some, ↓reduceIte, xst_f, xst_k, xst_s, ne_eq, not_false_eq_true, not_true_eq_false, and_self, and_true, true_and, and_false, false_and, or_true, true_or, or_false, false_or, L_X10_weightOf_7, c2, q]
  | k + 1, a, fk + 1, h, hf => by
    have hrec := m_wtl H r c k (a + 1) fk (by omega) (by omega)
    obtain ⟨h1, h2, h3, h4, h5, h6, h7, h8, h9, h10⟩ := id H
    have hb := h1.1
    obtain ⟨-, ⟨a1, a2⟩, ⟨b1, b2⟩, ⟨c1, c2⟩, ⟨d1, d2⟩, e1, e2⟩ := id h1
    have q : ¬ Int32.ofNat nl ≤ Int32.ofNat a := fun q => by have := (o_le (by omega) (by omega)).mp q; omega
    have hi : xin (Int32.ofNat a) 100 = true := o_in (by omega) (by omega)
    have hn : (Int32.ofNat a).toNatClampNeg = a := o_nat (by omega)
    obtain ⟨⟨r1, -⟩, -⟩ := h5.1 a (by omega)
    obtain ⟨⟨z1, z2, z3⟩, -⟩ := h5.2 a (by omega)
    rw [xct_s, xct_s] at hrec
    by_cases g : m.1 ag_letters_reader a = Int32.ofNat r
    · by_cases s1 : m.1 ag_letters_state a = 1
      · have s0 : ¬ m.1 ag_letters_state a = 0 := by grind
        have s2 : ¬ m.1 ag_letters_state a ≤ 0 := by grind
        simp (decide := true) only [Option.bind_some, ↓reduceIte, xst_f, xst_k, xst_s, ne_eq, not_false_eq_true, not_true_eq_false, and_self, and_true, true_and, and_false, false_and, or_true, true_or, or_false, false_or, g, s1, s0, decide_true, ← o_succ] at hrec
        simp (decide := true) only [Option.bind_some, ↓reduceIte, xst_f, xst_k, xst_s, ne_eq, not_false_eq_true, not_true_eq_false, and_self, and_true, true_and, and_false, false_and, or_true, true_or, or_false, false_or, L_X10_weightOf_7, c2, q, hi, hn, ← r1, g, ← z1, s1, s2, J_X10_weightOf_73, J_X10_weightOf_72, J_X10_weightOf_44, J_X10_weightOf_43, hrec]
      · by_cases s0 : m.1 ag_letters_state a = 0
        · have s2 : m.1 ag_letters_state a ≤ 0 := by grind
          simp (decide := true) only [Option.bind_some, ↓reduceIte, xst_f, xst_k, xst_s, ne_eq, not_false_eq_true, not_true_eq_false, and_self, and_true, true_and, and_false, false_and, or_true, true_or, or_false, false_or, g, s1, s0, decide_true, decide_false, Nat.add_zero, Bool.false_eq_true] at hrec
          simp (decide := true) only [Option.bind_some, ↓reduceIte, xst_f, xst_k, xst_s, ne_eq, not_false_eq_true, not_true_eq_false, and_self, and_true, true_and, and_false, false_and, or_true, true_or, or_false, false_or, L_X10_weightOf_7, c2, q, hi, hn, ← r1, g, ← z1, s0, s1, s2, J_X10_weightOf_73, J_X10_weightOf_72, J_X10_weightOf_44, J_X10_weightOf_43, hrec, Int32.add_zero, o_succ]
        · have s2 : ¬ m.1 ag_letters_state a ≤ 0 := by grind
          simp (decide := true) only [Option.bind_some, ↓reduceIte, xst_f, xst_k, xst_s, ne_eq, not_false_eq_true, not_true_eq_false, and_self, and_true, true_and, and_false, false_and, or_true, true_or, or_false, false_or, g, s1, s0, decide_true, decide_false, Nat.add_zero, Bool.false_eq_true, ← o_succ] at hrec
          simp (decide := true) only [Option.bind_some, ↓reduceIte, xst_f, xst_k, xst_s, ne_eq, not_false_eq_true, not_true_eq_false, and_self, and_true, true_and, and_false, false_and, or_true, true_or, or_false, false_or, L_X10_weightOf_7, c2, q, hi, hn, ← r1, g, ← z1, s1, s2, J_X10_weightOf_73, J_X10_weightOf_72, J_X10_weightOf_44, J_X10_weightOf_43, hrec, Int32.add_zero]
    · simp (decide := true) only [Option.bind_some, ↓reduceIte, xst_f, xst_k, xst_s, ne_eq, not_false_eq_true, not_true_eq_false, and_self, and_true, true_and, and_false, false_and, or_true, true_or, or_false, false_or, g, decide_false, Nat.add_zero, Bool.false_eq_true] at hrec
      simp (decide := true) only [Option.bind_some, ↓reduceIte, xst_f, xst_k, xst_s, ne_eq, not_false_eq_true, not_true_eq_false, and_self, and_true, true_and, and_false, false_and, or_true, true_or, or_false, false_or, L_X10_weightOf_7, c2, q, hi, hn, ← r1, g, J_X10_weightOf_73, J_X10_weightOf_72, J_X10_weightOf_44, J_X10_weightOf_43, hrec, Int32.add_zero, o_succ]
theorem m_weightOf (H : xRel t nf nw nl ne tp n m.1) {r : Nat} (hr : r < 20) : F_X10_weightOf (Int32.ofNat r) m = some (wtv m.1 r, m) := by
  obtain ⟨a, b, ha, hb, e1, e2, e3, e4⟩ := wt_nz H hr
  have hl := m_wtl H r (fun x2_37 x3_38 m_39 => (
    if (x3_38 + (2 : Int32)) = 0 then none else (
    some (((1000 : Int32) * (x2_37 + (1 : Int32))) / (x3_38 + (2 : Int32)), m_39)))) nl 0 xfuel (by omega) (by rw [xfuel_eq]; have := H.1.1; omega)
  have hs : xct (fun l => decide (m.1 ag_letters_reader l = Int32.ofNat r ∧ ¬ m.1 ag_letters_state l = 0)) nl = a + b := by
    rw [e3, e4]
    refine xct_add nl (fun k hk => ?_)
    obtain ⟨⟨z1, z2, z3⟩, -⟩ := H.2.2.2.2.1.2 k (by have := H.1.1; omega)
    have : m.1 ag_letters_state k = 0 ∨ m.1 ag_letters_state k = 1 ∨ m.1 ag_letters_state k = 2 := by grind
    rcases this with q | q | q <;> simp [q]
  rw [hs, ← e3] at hl
  unfold F_X10_weightOf
  refine Eq.trans (b := _) hl ?_
  have hz : ¬ Int32.ofNat (a + b) + 2 = 0 := by
    rw [show (2 : Int32) = Int32.ofNat 2 from rfl, ← Int32.ofNat_add, o_zero, o_eq (by omega) (by omega)]; omega
  rw [if_neg hz]
  unfold wtv
  rw [e1, e2, ← Int32.ofNat_add]
theorem pr_weight (ht : t ≤ 600) (H : xRel t nf nw nl ne tp n m.1) (x : Int32) : xPair (F_X9_weight x) (F_X10_weight x) t m := by
  by_cases h : 0 ≤ x ∧ x ≤ 19
  · obtain ⟨k, hk, rfl⟩ := g_ixl (n := 19) h (by decide)
    have k1 : ¬ Int32.ofNat k < 0 := by grind
    have H' := H.keep (k_th m 0)
    refine xPair.keep (m1 := m) (m2 := (xst m.1 am fGuideBookModel_thrown 0, m.2)) (v := wtv m.1 k) ht H ?_ (xKeep.refl m) ?_ (k_th m 0)
    · simp (decide := true) only [Option.bind_some, ↓reduceIte, xst_f, xst_k, xst_s, ne_eq, not_false_eq_true, not_true_eq_false, and_self, and_true, true_and, and_false, false_and, or_true, true_or, or_false, false_or, F_X9_weight, g_isReader, h, c_weightOf H (show k < 20 by omega)]
    · have e := m_weightOf H' (show k < 20 by omega)
      simp (decide := true) only [Option.bind_some, ↓reduceIte, xst_f, xst_k, xst_s, ne_eq, not_false_eq_true, not_true_eq_false, and_self, and_true, true_and, and_false, false_and, or_true, true_or, or_false, false_or, F_X10_weight, k1, h.2, e]
      rfl
  · refine xPair.keep (m1 := m) (m2 := (xst m.1 am fGuideBookModel_thrown 0, m.2)) (v := -1) ht H ?_ (xKeep.refl m) ?_ (k_th m 0)
    · simp (decide := true) only [Option.bind_some, ↓reduceIte, xst_f, xst_k, xst_s, ne_eq, not_false_eq_true, not_true_eq_false, and_self, and_true, true_and, and_false, false_and, or_true, true_or, or_false, false_or, F_X9_weight, g_isReader, h]
    · by_cases k1 : x < 0
      · simp (decide := true) only [Option.bind_some, ↓reduceIte, xst_f, xst_k, xst_s, ne_eq, not_false_eq_true, not_true_eq_false, and_self, and_true, true_and, and_false, false_and, or_true, true_or, or_false, false_or, F_X10_weight, k1, J_X10_weight_15]
      · have k2 : ¬ x ≤ 19 := by grind
        simp (decide := true) only [Option.bind_some, ↓reduceIte, xst_f, xst_k, xst_s, ne_eq, not_false_eq_true, not_true_eq_false, and_self, and_true, true_and, and_false, false_and, or_true, true_or, or_false, false_or, F_X10_weight, k1, k2, J_X10_weight_15]
/-- open on f -/
def opn (I : xI) (f l : Nat) : Bool := decide (I ag_letters_about l = Int32.ofNat f ∧ I ag_letters_state l = 0)
theorem c_open {f l : Nat} (hl : l < 100) : F_X3_isOpenOn (Int32.ofNat l) (Int32.ofNat f) m = some (if opn m.1 f l then 1 else 0, m) := by
  have hi : xin (Int32.ofNat l) 100 = true := o_in (by omega) (by omega)
  have hn : (Int32.ofNat l).toNatClampNeg = l := o_nat (by omega)
  unfold opn
  by_cases h : m.1 ag_letters_about l = Int32.ofNat f
  · by_cases g : m.1 ag_letters_state l = 0
    · simp (decide := true) only [Option.bind_some, ↓reduceIte, xst_f, xst_k, xst_s, ne_eq, not_false_eq_true, not_true_eq_false, and_self, and_true, true_and, and_false, false_and, or_true, true_or, or_false, false_or, F_X3_isOpenOn, hi, hn, h, g, decide_true]
    · simp (decide := true) only [Option.bind_some, ↓reduceIte, xst_f, xst_k, xst_s, ne_eq, not_false_eq_true, not_true_eq_false, and_self, and_true, true_and, and_false, false_and, or_true, true_or, or_false, false_or, F_X3_isOpenOn, hi, hn, h, g, decide_false, Bool.false_eq_true]
  · simp (decide := true) only [Option.bind_some, ↓reduceIte, xst_f, xst_k, xst_s, ne_eq, not_false_eq_true, not_true_eq_false, and_self, and_true, true_and, and_false, false_and, or_true, true_or, or_false, false_or, F_X3_isOpenOn, hi, hn, h, decide_false, Bool.false_eq_true]
theorem m_open (H : xRel t nf nw nl ne tp n m.1) {f l : Nat} (hl : l < nl) : F_X10_isOpen (Int32.ofNat l) (Int32.ofNat f) m = some (if opn m.1 f l then 1 else 0, m) := by
  obtain ⟨h1, h2, h3, h4, h5, h6, h7, h8, h9, h10⟩ := id H
  have hb := h1.1
  obtain ⟨-, ⟨a1, a2⟩, ⟨b1, b2⟩, ⟨c1, c2⟩, ⟨d1, d2⟩, e1, e2⟩ := id h1
  have hi : xin (Int32.ofNat l) 100 = true := o_in (by omega) (by omega)
  have hn : (Int32.ofNat l).toNatClampNeg = l := o_nat (by omega)
  obtain ⟨-, r1, -⟩ := h5.1 l hl
  obtain ⟨⟨z1, -⟩, -⟩ := h5.2 l (by omega)
  unfold opn
  by_cases h : m.1 ag_letters_about l = Int32.ofNat f
  · by_cases g : m.1 ag_letters_state l = 0
    · simp (decide := true) only [Option.bind_some, ↓reduceIte, xst_f, xst_k, xst_s, ne_eq, not_false_eq_true, not_true_eq_false, and_self, and_true, true_and, and_false, false_and, or_true, true_or, or_false, false_or, F_X10_isOpen, hi, hn, ← r1, ← z1, h, g, decide_true]
    · simp (decide := true) only [Option.bind_some, ↓reduceIte, xst_f, xst_k, xst_s, ne_eq, not_false_eq_true, not_true_eq_false, and_self, and_true, true_and, and_false, false_and, or_true, true_or, or_false, false_or, F_X10_isOpen, hi, hn, ← r1, ← z1, h, g, decide_false, Bool.false_eq_true]
  · simp (decide := true) only [Option.bind_some, ↓reduceIte, xst_f, xst_k, xst_s, ne_eq, not_false_eq_true, not_true_eq_false, and_self, and_true, true_and, and_false, false_and, or_true, true_or, or_false, false_or, F_X10_isOpen, hi, hn, ← r1, ← z1, h, decide_false, Bool.false_eq_true]
def dq (op : Nat → Bool) (S : Nat → Int32) : Nat → Nat → Int32 → Int32
  | 0, _, _ => 0
  | k + 1, a, p => if op a then (if p = -1 then dq op S k (a + 1) (S a) else if p = S a then dq op S k (a + 1) (S a) else 1) else dq op S k (a + 1) p
theorem c_dq (H : xRel t nf nw nl ne tp n m.1) (f : Nat) : ∀ (k a fk : Nat) (p : Int32), a + k = nl → k < fk → L_X3_differOn_4 (Int32.ofNat f) fk p (Int32.ofNat a) m = some (dq (opn m.1 f) (m.1 ag_letters_said) k a p, m)
  | 0, a, fk + 1, p, h, _ => by
    obtain ⟨h1, h2, h3, h4, h5, h6, h7, h8, h9, h10⟩ := id H
    have hb := h1.1
    obtain ⟨-, ⟨a1, a2⟩, ⟨b1, b2⟩, ⟨c1, c2⟩, ⟨d1, d2⟩, e1, e2⟩ := id h1
    have q : Int32.ofNat nl ≤ Int32.ofNat a := (o_le (by omega) (by omega)).mpr (by omega)
    simp (decide := true) only [Option.bind_some, ↓reduceIte, xst_f, xst_k, xst_s, ne_eq, not_false_eq_true, not_true_eq_false, and_self, and_true, true_and, and_false, false_and, or_true, true_or, or_false, false_or, L_X3_differOn_4, c1, q, dq]
  | k + 1, a, fk + 1, p, h, hf => by
    have hrec := fun p => c_dq H f k (a + 1) fk p (by omega) (by omega)
    obtain ⟨h1, h2, h3, h4, h5, h6, h7, h8, h9, h10⟩ := id H
    have hb := h1.1
    obtain ⟨-, ⟨a1, a2⟩, ⟨b1, b2⟩, ⟨c1, c2⟩, ⟨d1, d2⟩, e1, e2⟩ := id h1
    have q : ¬ Int32.ofNat nl ≤ Int32.ofNat a := fun q => by have := (o_le (by omega) (by omega)).mp q; omega
    have hi : xin (Int32.ofNat a) 100 = true := o_in (by omega) (by omega)
    have hn : (Int32.ofNat a).toNatClampNeg = a := o_nat (by omega)
    cases ho : opn m.1 f a with
    | false => simp (decide := true) only [Option.bind_some, ↓reduceIte, xst_f, xst_k, xst_s, ne_eq, not_false_eq_true, not_true_eq_false, and_self, and_true, true_and, and_false, false_and, or_true, true_or, or_false, false_or, L_X3_differOn_4, c1, q, c_open (show a < 100 by omega), ho, Bool.false_eq_true, J_X3_differOn_48, J_X3_differOn_41, o_succ, hrec, dq]
    | true =>
      by_cases g : p = -1
      · simp (decide := true) only [Option.bind_some, ↓reduceIte, xst_f, xst_k, xst_s, ne_eq, not_false_eq_true, not_true_eq_false, and_self, and_true, true_and, and_false, false_and, or_true, true_or, or_false, false_or, L_X3_differOn_4, c1, q, c_open (show a < 100 by omega), ho, g, hi, hn, J_X3_differOn_48, J_X3_differOn_41, o_succ, hrec, dq]
      · by_cases g2 : p = m.1 ag_letters_said a
        · simp (decide := true) only [Option.bind_some, ↓reduceIte, xst_f, xst_k, xst_s, ne_eq, not_false_eq_true, not_true_eq_false, and_self, and_true, true_and, and_false, false_and, or_true, true_or, or_false, false_or, L_X3_differOn_4, c1, q, c_open (show a < 100 by omega), ho, g, hi, hn, ← g2, J_X3_differOn_48, J_X3_differOn_41, o_succ, hrec, dq]
        · simp (decide := true) only [Option.bind_some, ↓reduceIte, xst_f, xst_k, xst_s, ne_eq, not_false_eq_true, not_true_eq_false, and_self, and_true, true_and, and_false, false_and, or_true, true_or, or_false, false_or, L_X3_differOn_4, c1, q, c_open (show a < 100 by omega), ho, g, hi, hn, g2, J_X3_differOn_48, J_X3_differOn_41, o_succ, hrec, dq]
theorem m_dq (H : xRel t nf nw nl ne tp n m.1) (f : Nat) : ∀ (k a fk : Nat) (p v : Int32), a + k = nl → k < fk → (p = -1 ∨ 0 ≤ p) → L_X10_quarrel_22 (Int32.ofNat f) fk p v (Int32.ofNat a) m = some (if dq (opn m.1 f) (m.1 ag_letters_said) k a p = 1 then 1 else v, m)
  | 0, a, fk + 1, p, v, h, _, _ => by
    obtain ⟨h1, h2, h3, h4, h5, h6, h7, h8, h9, h10⟩ := id H
    have hb := h1.1
    obtain ⟨-, ⟨a1, a2⟩, ⟨b1, b2⟩, ⟨c1, c2⟩, ⟨d1, d2⟩, e1, e2⟩ := id h1
    have q : Int32.ofNat nl ≤ Int32.ofNat a := (o_le (by omega) (by omega)).mpr (by omega)
    simp (decide := true) only [Option.bind_some, ↓reduceIte, xst_f, xst_k, xst_s, ne_eq, not_false_eq_true, not_true_eq_false, and_self, and_true, true_and, and_false, false_and, or_true, true_or, or_false, false_or, L_X10_quarrel_22, c2, q, dq]
  | k + 1, a, fk + 1, p, v, h, hf, hp => by
    have hrec := fun p v hp => m_dq H f k (a + 1) fk p v (by omega) (by omega) hp
    obtain ⟨h1, h2, h3, h4, h5, h6, h7, h8, h9, h10⟩ := id H
    have hb := h1.1
    obtain ⟨-, ⟨a1, a2⟩, ⟨b1, b2⟩, ⟨c1, c2⟩, ⟨d1, d2⟩, e1, e2⟩ := id h1
    have q : ¬ Int32.ofNat nl ≤ Int32.ofNat a := fun q => by have := (o_le (by omega) (by omega)).mp q; omega
    have hi : xin (Int32.ofNat a) 100 = true := o_in (by omega) (by omega)
    have hn : (Int32.ofNat a).toNatClampNeg = a := o_nat (by omega)
    obtain ⟨-, -, s1, s2, s3⟩ := h5.1 a (by omega)
    have hr2 := fun v => hrec (m.1 ag_letters_said a) v (Or.inr s2)
    cases ho : opn m.1 f a with
    | false =>
      have hr3 := hrec p v hp
      simp (decide := true) only [Option.bind_some, ↓reduceIte, xst_f, xst_k, xst_s, ne_eq, not_false_eq_true, not_true_eq_false, and_self, and_true, true_and, and_false, false_and, or_true, true_or, or_false, false_or, L_X10_quarrel_22, c2, q, m_open H (show a < nl by omega), ho, Bool.false_eq_true, J_X10_quarrel_70, J_X10_quarrel_61, J_X10_quarrel_60, o_succ, hr3, dq]
    | true =>
      by_cases g : p = -1
      · subst g
        simp (decide := true) only [Option.bind_some, ↓reduceIte, xst_f, xst_k, xst_s, ne_eq, not_false_eq_true, not_true_eq_false, and_self, and_true, true_and, and_false, false_and, or_true, true_or, or_false, false_or, L_X10_quarrel_22, c2, q, m_open H (show a < nl by omega), ho, hi, hn, ← s1, J_X10_quarrel_70, J_X10_quarrel_61, J_X10_quarrel_60, o_succ, hr2, dq]
      · have g0 : ¬ p < 0 := by grind
        by_cases g2 : p = m.1 ag_letters_said a
        · simp (decide := true) only [Option.bind_some, ↓reduceIte, xst_f, xst_k, xst_s, ne_eq, not_false_eq_true, not_true_eq_false, and_self, and_true, true_and, and_false, false_and, or_true, true_or, or_false, false_or, L_X10_quarrel_22, c2, q, m_open H (show a < nl by omega), ho, g, g0, hi, hn, ← s1, ← g2, J_X10_quarrel_70, J_X10_quarrel_61, J_X10_quarrel_60, o_succ, dq]
          have hr4 := hr2 v
          rw [← g2] at hr4
          exact hr4
        · simp (decide := true) only [Option.bind_some, ↓reduceIte, xst_f, xst_k, xst_s, ne_eq, not_false_eq_true, not_true_eq_false, and_self, and_true, true_and, and_false, false_and, or_true, true_or, or_false, false_or, L_X10_quarrel_22, c2, q, m_open H (show a < nl by omega), ho, g, g0, hi, hn, ← s1, g2, J_X10_quarrel_70, J_X10_quarrel_61, J_X10_quarrel_60, o_succ, hr2, dq, ite_self]
theorem dq_01 (op : Nat → Bool) (S : Nat → Int32) : ∀ k a p, dq op S k a p = 0 ∨ dq op S k a p = 1
  | 0, _, _ => Or.inl rfl
  | k + 1, a, p => by
    unfold dq
    split
    · split
      · exact dq_01 op S k _ _
      · split
        · exact dq_01 op S k _ _
        · exact Or.inr rfl
    · exact dq_01 op S k _ _
theorem pr_quarrel (ht : t ≤ 600) (H : xRel t nf nw nl ne tp n m.1) (x : Int32) : xPair (F_X9_quarrel x) (F_X10_quarrel x) t m := by
  obtain ⟨h1, h2, h3, h4, h5, h6, h7, h8, h9, h10⟩ := id H
  have hb := h1.1
  obtain ⟨-, ⟨a1, a2⟩, ⟨b1, b2⟩, ⟨c1, c2⟩, ⟨d1, d2⟩, e1, e2⟩ := id h1
  by_cases h : 0 ≤ x ∧ x < Int32.ofNat nf
  · obtain ⟨f, hf, rfl⟩ := g_ix h (by omega)
    have H' := H.keep (k_th m 0)
    have e := c_dq H f nl 0 xfuel (-1) (by omega) (by rw [xfuel_eq]; omega)
    have e' := m_dq H' f nl 0 xfuel (-1) 0 (by omega) (by rw [xfuel_eq]; omega) (Or.inl rfl)
    have eq0 : dq (opn (xst m.1 am fGuideBookModel_thrown 0) f) ((xst m.1 am fGuideBookModel_thrown 0) ag_letters_said) nl 0 (-1) = dq (opn m.1 f) (m.1 ag_letters_said) nl 0 (-1) := rfl
    rw [eq0] at e'
    rw [← o_zero] at e e'
    refine xPair.keep (m1 := m) (m2 := (xst m.1 am fGuideBookModel_thrown 0, m.2)) (v := dq (opn m.1 f) (m.1 ag_letters_said) nl 0 (-1)) ht H ?_ (xKeep.refl m) ?_ (k_th m 0)
    · simp (decide := true) only [Option.bind_some, ↓reduceIte, xst_f, xst_k, xst_s, ne_eq, not_false_eq_true, not_true_eq_false, and_self, and_true, true_and, and_false, false_and, or_true, true_or, or_false, false_or, F_X9_quarrel, g_has, a1, h, F_X3_differOn, e]
      rcases dq_01 (opn m.1 f) (m.1 ag_letters_said) nl 0 (-1) with q | q <;> rw [q] <;> rfl
    · simp (decide := true) only [Option.bind_some, ↓reduceIte, xst_f, xst_k, xst_s, ne_eq, not_false_eq_true, not_true_eq_false, and_self, and_true, true_and, and_false, false_and, or_true, true_or, or_false, false_or, F_X10_quarrel, g_mFact, a2, h, e']
      rcases dq_01 (opn m.1 f) (m.1 ag_letters_said) nl 0 (-1) with q | q <;> rw [q] <;> rfl
  · refine xPair.keep (m1 := m) (m2 := (xst m.1 am fGuideBookModel_thrown 0, m.2)) (v := -1) ht H ?_ (xKeep.refl m) ?_ (k_th m 0)
    · simp (decide := true) only [Option.bind_some, ↓reduceIte, xst_f, xst_k, xst_s, ne_eq, not_false_eq_true, not_true_eq_false, and_self, and_true, true_and, and_false, false_and, or_true, true_or, or_false, false_or, F_X9_quarrel, g_has, a1, h]
    · simp (decide := true) only [Option.bind_some, ↓reduceIte, xst_f, xst_k, xst_s, ne_eq, not_false_eq_true, not_true_eq_false, and_self, and_true, true_and, and_false, false_and, or_true, true_or, or_false, false_or, F_X10_quarrel, g_mFact, a2, h]
end CT
