/-! the same without the editions -/
def P_numW (nf nw nl tp : Nat) (a a' b b' c c' e e' : Int32) : Prop :=
  (nf ≤ 60 ∧ nw ≤ 99 ∧ nl ≤ 100 ∧ tp ≤ 600) ∧ (a = Int32.ofNat nf ∧ a' = Int32.ofNat nf) ∧ (b = Int32.ofNat nw ∧ b' = Int32.ofNat nw) ∧ (c = Int32.ofNat nl ∧ c' = Int32.ofNat nl) ∧ (e = Int32.ofNat tp ∧ e' = Int32.ofNat tp)
abbrev I_numW (nf nw nl tp : Nat) (I : xI) : Prop := P_numW nf nw nl tp (I ag_facts fFacts_size) (I am fGuideBookModel_facts) (I ag_facts fFacts_now) (I am fGuideBookModel_now) (I ag_letters fLetters_size) (I am fGuideBookModel_letters) (I ag_tape fTape_length) (I am fGuideBookModel_taped)
def xRelW (t nf nw nl tp : Nat) (I : xI) : Prop :=
  I_numW nf nw nl tp I ∧ I_fact nf nw I ∧ I_kind t I ∧ I_days I ∧ I_let nl I ∧ I_tal nl I ∧ I_mark I ∧ I_paid I ∧ I_tape tp I
theorem xRel.w {t nf nw nl ne tp : Nat} {n : Nat → Nat} {I : xI} (H : xRel t nf nw nl ne tp n I) : xRelW t nf nw nl tp I := by
  obtain ⟨⟨b, c1, c2, c3, c4, c5⟩, h2, h3, h4, h5, h6, h7, h8, h9, h10⟩ := H
  exact ⟨⟨⟨b.1, b.2.1, b.2.2.1, b.2.2.2.2⟩, c1, c2, c3, c5⟩, h2, h3, h4, h5, h6, h7, h8, h9⟩
/-- the cells that the relation without editions speaks of -/
def xrw (a k : Nat) : Bool := (a < 31) || a == 84 || a == 85 || (a == 87 && (k == 2 || k == 24 || k == 25 || k == 36)) || a == 88 || (103 ≤ a && a ≤ 111) || (113 ≤ a && a ≤ 118)
theorem xRelW.cg {t nf nw nl tp : Nat} {I J : xI} (h : ∀ a k, xrw a k = true → J a k = I a k) (H : xRelW t nf nw nl tp I) : xRelW t nf nw nl tp J := by
  obtain ⟨h1, h2, h3, h4, h5, h6, h7, h8, h9⟩ := H
  have R : ∀ a, (a < 31 ∨ a = 84 ∨ a = 85 ∨ a = 88 ∨ (103 ≤ a ∧ a ≤ 111) ∨ (113 ≤ a ∧ a ≤ 118)) → J a = I a := fun a ha => funext fun k => h a k (by
    unfold xrw
    simp only [Bool.or_eq_true, Bool.and_eq_true, decide_eq_true_eq, beq_iff_eq]
    omega)
  have Q : ∀ k, (k = 2 ∨ k = 24 ∨ k = 25 ∨ k = 36) → J am k = I am k := fun k hk => h am k (by rcases hk with e | e | e | e <;> subst e <;> rfl)
  refine ⟨?_, ?_, ?_, ?_, ?_, ?_, ?_, ?_, ?_⟩
  · unfold I_numW
    rw [R ag_facts (by decide), R ag_letters (by decide), R ag_tape (by decide), Q fGuideBookModel_facts (by decide), Q fGuideBookModel_now (by decide), Q fGuideBookModel_letters (by decide), Q fGuideBookModel_taped (by decide)]
    exact h1
  · unfold I_fact
    rw [R ag_facts_kind (by decide), R ag_facts_place (by decide), R ag_facts_value (by decide), R ag_facts_year (by decide), R ag_facts_length (by decide), R ag_facts_worth (by decide), R am_kindOf (by decide), R am_placeOf (by decide), R am_worthNow (by decide), R am_checkedOn (by decide), R am_lengths (by decide), R am_worths (by decide)]
    exact h2
  · unfold I_kind
    rw [R ag_facts_kindYears (by decide), R ag_facts_kindChanges (by decide), R am_kindYears (by decide), R am_kindChanges (by decide)]
    exact h3
  · unfold I_days
    rw [R ag_daysOf (by decide), R am_takes (by decide)]
    exact h4
  · unfold I_let
    rw [R ag_letters_reader (by decide), R ag_letters_about (by decide), R ag_letters_said (by decide), R ag_letters_state (by decide), R am_readers (by decide), R am_about (by decide), R am_says (by decide), R am_proofs (by decide)]
    exact h5
  · unfold I_tal
    rw [R ag_letters_reader (by decide), R ag_letters_state (by decide), R ag_letters_rightOf (by decide), R ag_letters_wrongOf (by decide), R ag_letters (by decide)]
    exact h6
  · unfold I_mark
    rw [R am_marks (by decide)]
    exact P_mark.mv (fun p hp => R (19 + p) (by omega)) h7
  · unfold I_paid
    rw [R ag_praised (by decide), R am_isPaid (by decide)]
    exact h8
  · unfold I_tape
    rw [R ag_tape_signs (by decide), R am_tape (by decide)]
    exact h9
theorem xRelW.keep {t nf nw nl tp : Nat} {m m' : xMem} (h : xKeep m m') (H : xRelW t nf nw nl tp m.1) : xRelW t nf nw nl tp m'.1 := xRelW.cg (fun a k q => h.1 a k (by
  unfold xrw at q
  simp only [Bool.or_eq_true, Bool.and_eq_true, decide_eq_true_eq, beq_iff_eq] at q
  unfold xscr
  simp only [Bool.or_eq_false_iff, Bool.and_eq_false_iff, decide_eq_false_iff_not, beq_eq_false_iff_ne]
  omega)) H
section WW
variable {t nf nw nl tp : Nat} {m : xMem}
theorem c_rateOfW (ht : t ≤ 600) (H : xRelW t nf nw nl tp m.1) {k : Nat} (hk : k < 6) : F_X2_rateOf (Int32.ofNat k) m = some (rtv (m.1 ag_facts_kindYears k) (m.1 ag_facts_kindChanges k), m) := by
  obtain ⟨⟨q1, q2⟩, q3, q4⟩ := H.2.2.1 k hk
  have hi : xin (Int32.ofNat k) 6 = true := o_in (by omega) (by omega)
  have hn : (Int32.ofNat k).toNatClampNeg = k := o_nat (by omega)
  have e1 := rt_c (m := m) ht q2 q4
  unfold F_X2_rateOf
  rw [hn, if_pos hi, if_pos hi, if_pos hi, e1]
  rfl
theorem m_rateOfW (ht : t ≤ 600) (H : xRelW t nf nw nl tp m.1) {k : Nat} (hk : k < 6) : F_X10_rateOf (Int32.ofNat k) m = some (rtv (m.1 ag_facts_kindYears k) (m.1 ag_facts_kindChanges k), m) := by
  obtain ⟨⟨q1, q2⟩, q3, q4⟩ := H.2.2.1 k hk
  have hi : xin (Int32.ofNat k) 6 = true := o_in (by omega) (by omega)
  have hn : (Int32.ofNat k).toNatClampNeg = k := o_nat (by omega)
  have e1 := (rt_q ht q2 q4).1
  unfold F_X10_rateOf rtv
  simp (decide := true) only [Option.bind_some, ↓reduceIte, xst_f, xst_k, xst_s, ne_eq, not_false_eq_true, not_true_eq_false, and_self, and_true, true_and, and_false, false_and, or_true, true_or, or_false, false_or, hi, hn, ← q1, ← q3, e1]
  split <;> rfl
theorem m_chlW (ht : t ≤ 600) (H : xRelW t nf nw nl tp m.1) {i : Nat} (hi : i < nf) : ∀ (k a fk : Nat) (l : Int64), a + k = nw → k < fk → L_X10_chanceOf_12 (Int32.ofNat i) fk l (Int32.ofNat a) m = some ((chv (rtf m.1 i).toInt64 k l).toInt32, m)
  | 0, a, fk + 1, l, h, _ => by
    obtain ⟨h1, h2, h3, h4, h5, h6, h7, h8, h9⟩ := id H
    have hb := h1.1
    obtain ⟨-, ⟨a1, a2⟩, ⟨b1, b2⟩, ⟨c1, c2⟩, e1, e2⟩ := id h1
    have q : Int32.ofNat nw ≤ Int32.ofNat a := (o_le (by omega) (by omega)).mpr (by omega)
    simp (decide := true) only [Option.bind_some, ↓reduceIte, xst_f, xst_k, xst_s, ne_eq, not_false_eq_true, not_true_eq_false, and_self, and_true, true_and, and_false, false_and, or_true, true_or, or_false, false_or, L_X10_chanceOf_12, b2, q, chv]
  | k + 1, a, fk + 1, l, h, hf => by
    have hrec := m_chlW ht H hi k (a + 1) fk (l * (rtf m.1 i).toInt64 / 1000000) (by omega) (by omega)
    obtain ⟨h1, h2, h3, h4, h5, h6, h7, h8, h9⟩ := id H
    have hb := h1.1
    obtain ⟨-, ⟨a1, a2⟩, ⟨b1, b2⟩, ⟨c1, c2⟩, e1, e2⟩ := id h1
    have q : ¬ Int32.ofNat nw ≤ Int32.ofNat a := fun q => by have := (o_le (by omega) (by omega)).mp q; omega
    have hi1 : xin (Int32.ofNat i) 60 = true := o_in (by omega) (by omega)
    have hn : (Int32.ofNat i).toNatClampNeg = i := o_nat (by omega)
    obtain ⟨⟨q1, q2⟩, -⟩ := h2 i hi
    obtain ⟨kk, hkk, hke⟩ := g_rx (n := 5) q2 (by decide)
    have e := m_rateOfW ht H (show kk < 6 by omega)
    have hrt : rtf m.1 i = rtv (m.1 ag_facts_kindYears kk) (m.1 ag_facts_kindChanges kk) := by
      unfold rtf; rw [hke, o_nat (by omega)]
    rw [hrt] at hrec ⊢
    simp (decide := true) only [Option.bind_some, ↓reduceIte, xst_f, xst_k, xst_s, ne_eq, not_false_eq_true, not_true_eq_false, and_self, and_true, true_and, and_false, false_and, or_true, true_or, or_false, false_or, L_X10_chanceOf_12, b2, q, chv, hi1, hn, ← q1, hke, e, o_succ, hrec]
theorem c_chanceOfW (ht : t ≤ 600) (H : xRelW t nf nw nl tp m.1) {i : Nat} (hi : i < nf) : F_X2_chanceOf (Int32.ofNat i) m = some (chf m.1 nw i, m) := by
  obtain ⟨h1, h2, h3, h4, h5, h6, h7, h8, h9⟩ := id H
  have hb := h1.1
  obtain ⟨-, ⟨a1, a2⟩, ⟨b1, b2⟩, ⟨c1, c2⟩, e1, e2⟩ := id h1
  have hi1 : xin (Int32.ofNat i) 60 = true := o_in (by omega) (by omega)
  have hn : (Int32.ofNat i).toNatClampNeg = i := o_nat (by omega)
  obtain ⟨⟨q1, q2⟩, -, -, ⟨q3, q4⟩, -⟩ := h2 i hi
  obtain ⟨kk, hkk, hke⟩ := g_rx (n := 5) q2 (by decide)
  obtain ⟨y, hy, hye⟩ := g_rx (n := nw) q4 (by omega)
  have e := c_rateOfW ht H (show kk < 6 by omega)
  have l := c_chl b1 hb.2.1 (rtv (m.1 ag_facts_kindYears kk) (m.1 ag_facts_kindChanges kk)).toInt64 (nw - y) y xfuel 1000000 (by omega) (by rw [xfuel_eq]; omega)
  unfold chf rtf
  rw [hke, hye, o_nat (show kk < 2147483648 by omega), o_nat (show y < 2147483648 by omega)]
  simp (decide := true) only [Option.bind_some, ↓reduceIte, xst_f, xst_k, xst_s, ne_eq, not_false_eq_true, not_true_eq_false, and_self, and_true, true_and, and_false, false_and, or_true, true_or, or_false, false_or, F_X2_chanceOf, hi1, hn, hke, e, hye, l]
theorem m_chanceOfW (ht : t ≤ 600) (H : xRelW t nf nw nl tp m.1) {i : Nat} (hi : i < nf) : F_X10_chanceOf (Int32.ofNat i) m = some (chf m.1 nw i, m) := by
  obtain ⟨h1, h2, h3, h4, h5, h6, h7, h8, h9⟩ := id H
  have hb := h1.1
  obtain ⟨-, ⟨a1, a2⟩, ⟨b1, b2⟩, ⟨c1, c2⟩, e1, e2⟩ := id h1
  have hi1 : xin (Int32.ofNat i) 60 = true := o_in (by omega) (by omega)
  have hn : (Int32.ofNat i).toNatClampNeg = i := o_nat (by omega)
  obtain ⟨-, -, -, ⟨q3, q4⟩, -⟩ := h2 i hi
  obtain ⟨y, hy, hye⟩ := g_rx (n := nw) q4 (by omega)
  have l := m_chlW ht H hi (nw - y) y xfuel 1000000 (by omega) (by rw [xfuel_eq]; omega)
  unfold chf
  rw [hye, o_nat (show y < 2147483648 by omega)]
  simp (decide := true) only [Option.bind_some, ↓reduceIte, xst_f, xst_k, xst_s, ne_eq, not_false_eq_true, not_true_eq_false, and_self, and_true, true_and, and_false, false_and, or_true, true_or, or_false, false_or, F_X10_chanceOf, hi1, hn, ← q3, hye, l]
theorem chf_rgW (ht : t ≤ 600) (H : xRelW t nf nw nl tp m.1) {i : Nat} (hi : i < nf) : 0 ≤ (chf m.1 nw i).toInt ∧ (chf m.1 nw i).toInt ≤ 1000000 := by
  obtain ⟨⟨-, q2⟩, -⟩ := H.2.1 i hi
  obtain ⟨kk, hkk, hke⟩ := g_rx (n := 5) q2 (by decide)
  obtain ⟨⟨-, r2⟩, -, r4⟩ := H.2.2.1 kk (by omega)
  obtain ⟨g1, g2⟩ := rt_rg ht r2 r4
  have hrt : rtf m.1 i = rtv (m.1 ag_facts_kindYears kk) (m.1 ag_facts_kindChanges kk) := by
    unfold rtf; rw [hke, o_nat (by omega)]
  have z : (0 : Int32).toInt = 0 := rfl
  have m6 : (1000000 : Int32).toInt = 1000000 := rfl
  have k6 : (1000000 : Int64).toInt = 1000000 := rfl
  rw [Int32.le_iff_toInt_le] at g1 g2
  rw [z] at g1
  rw [m6] at g2
  have c := ch_rg (r := (rtf m.1 i).toInt64) (by rw [Int32.toInt_toInt64, hrt]; exact g1) (by rw [Int32.toInt_toInt64, hrt]; exact g2) (nw - (m.1 ag_facts_year i).toNatClampNeg) 1000000 (by rw [k6]; decide) (by rw [k6]; decide)
  unfold chf
  rw [j_i32 (by omega) (by omega)]
  exact c
theorem wt_nzW (H : xRelW t nf nw nl tp m.1) {r : Nat} (hr : r < 20) : ∃ a b, a ≤ 100 ∧ b ≤ 100 ∧ m.1 ag_letters_rightOf r = Int32.ofNat a ∧ m.1 ag_letters_wrongOf r = Int32.ofNat b ∧ a = xct (fun l => decide (m.1 ag_letters_reader l = Int32.ofNat r ∧ m.1 ag_letters_state l = 1)) nl ∧ b = xct (fun l => decide (m.1 ag_letters_reader l = Int32.ofNat r ∧ m.1 ag_letters_state l = 2)) nl := by
  obtain ⟨h1, h2, h3, h4, h5, h6, h7, h8, h9⟩ := id H
  have hb := h1.1
  obtain ⟨-, ⟨a1, a2⟩, ⟨b1, b2⟩, ⟨c1, c2⟩, e1, e2⟩ := id h1
  obtain ⟨q1, q2⟩ := h6.1 r hr
  exact ⟨_, _, Nat.le_trans (xct_le _) hb.2.2.1, Nat.le_trans (xct_le _) hb.2.2.1, q1, q2, rfl, rfl⟩
theorem c_weightOfW (H : xRelW t nf nw nl tp m.1) {r : Nat} (hr : r < 20) : F_X3_weightOf (Int32.ofNat r) m = some (wtv m.1 r, m) := by
  obtain ⟨a, b, ha, hb, e1, e2, -, -⟩ := wt_nzW H hr
  have hi : xin (Int32.ofNat r) 20 = true := o_in (by omega) (by omega)
  have hn : (Int32.ofNat r).toNatClampNeg = r := o_nat (by omega)
  have hz : ¬ m.1 ag_letters_rightOf r + m.1 ag_letters_wrongOf r + 2 = 0 := by
    rw [e1, e2, show (2 : Int32) = Int32.ofNat 2 from rfl, ← Int32.ofNat_add, ← Int32.ofNat_add, o_zero, o_eq (by omega) (by omega)]; omega
  simp (decide := true) only [Option.bind_some, ↓reduceIte, xst_f, xst_k, xst_s, ne_eq, not_false_eq_true, not_true_eq_false, and_self, and_true, true_and, and_false, false_and, or_true, true_or, or_false, false_or, F_X3_weightOf, hi, hn, cut_v, hz, wtv]
theorem wt_rgW (H : xRelW t nf nw nl tp m.1) {r : Nat} (hr : r < 20) : 0 ≤ (wtv m.1 r).toInt ∧ (wtv m.1 r).toInt ≤ 1000 := by
  obtain ⟨a, b, ha, hb, e1, e2, -, -⟩ := wt_nzW H hr
  unfold wtv
  rw [e1, e2, o_succ, show (2 : Int32) = Int32.ofNat 2 from rfl, show (1000 : Int32) = Int32.ofNat 1000 from rfl, ← Int32.ofNat_add, ← Int32.ofNat_add, ← Int32.ofNat_mul, Int32.toInt_div_of_ne_right _ _ (by
    intro q
    have := congrArg Int32.toInt q
    rw [o_toInt (by omega)] at this
    have e : (-1 : Int32).toInt = -1 := rfl
    omega), o_toInt (by omega), o_toInt (by omega), Int.tdiv_eq_ediv_of_nonneg (by omega)]
  refine ⟨Int.ediv_nonneg (by omega) (by omega), ?_⟩
  exact Int.ediv_le_of_le_mul (by omega) (by omega)
theorem m_wtlW (H : xRelW t nf nw nl tp m.1) (r : Nat) (c : Int32 → Int32 → xMem → Option (Int32 × xMem)) : ∀ (k a fk : Nat), a + k = nl → k < fk → L_X10_weightOf_7 (Int32.ofNat r) c fk (Int32.ofNat (xct (fun l => decide (m.1 ag_letters_reader l = Int32.ofNat r ∧ m.1 ag_letters_state l = 1)) a)) (Int32.ofNat (xct (fun l => decide (m.1 ag_letters_reader l = Int32.ofNat r ∧ ¬ m.1 ag_letters_state l = 0)) a)) (Int32.ofNat a) m = c (Int32.ofNat (xct (fun l => decide (m.1 ag_letters_reader l = Int32.ofNat r ∧ m.1 ag_letters_state l = 1)) nl)) (Int32.ofNat (xct (fun l => decide (m.1 ag_letters_reader l = Int32.ofNat r ∧ ¬ m.1 ag_letters_state l = 0)) nl)) m
  | 0, a, fk + 1, h, _ => by
    obtain ⟨h1, h2, h3, h4, h5, h6, h7, h8, h9⟩ := id H
    have hb := h1.1
    obtain ⟨-, ⟨a1, a2⟩, ⟨b1, b2⟩, ⟨c1, c2⟩, e1, e2⟩ := id h1
    have h0 : a = nl := by omega
    subst h0
    have q : Int32.ofNat a ≤ Int32.ofNat a := Int32.le_refl _
    simp (decide := true) only [Option.bind_some, ↓reduceIte, xst_f, xst_k, xst_s, ne_eq, not_false_eq_true, not_true_eq_false, and_self, and_true, true_and, and_false, false_and, or_true, true_or, or_false, false_or, L_X10_weightOf_7, c2, q]
  | k + 1, a, fk + 1, h, hf => by
    have hrec := m_wtlW H r c k (a + 1) fk (by omega) (by omega)
    obtain ⟨h1, h2, h3, h4, h5, h6, h7, h8, h9⟩ := id H
    have hb := h1.1
    obtain ⟨-, ⟨a1, a2⟩, ⟨b1, b2⟩, ⟨c1, c2⟩, e1, e2⟩ := id h1
    have q : ¬ Int32.ofNat nl ≤ Int32.ofNat a := fun q => by have := (o_le (by omega) (by omega)).mp q; omega
    have hi : xin (Int32.ofNat a) 100 = true := o_in (by omega) (by omega)
    have hn : (Int32.ofNat a).toNatClampNeg = a := o_nat (by omega)
    obtain ⟨⟨r1, -⟩, -⟩ := h5.1 a (by omega)
    obtain ⟨⟨z1, z2, z3⟩, -⟩ := h5.2 a (by omega)
    rw [xct_s, xct_s] at hrec
    by_cases g : m.1 ag_letters_reader a = Int32.ofNat r
    · by_cases s1 : m.1 ag_letters_state a = 1
      · have s0 : ¬ m.1 ag_letters_state a = 0 := by grind
        have s2 : ¬ m.1 ag_letters_state a ≤ 0 := by grind
        simp (decide := true) only [Option.bind_some, ↓reduceIte, xst_f, xst_k, xst_s, ne_eq, not_false_eq_true, not_true_eq_false, and_self, and_true, true_and, and_false, false_and, or_true, true_or, or_false, false_or, g, s1, s0, decide_true, ← o_succ] at hrec
        simp (decide := true) only [Option.bind_some, ↓reduceIte, xst_f, xst_k, xst_s, ne_eq, not_false_eq_true, not_true_eq_false, and_self, and_true, true_and, and_false, false_and, or_true, true_or, or_false, false_or, L_X10_weightOf_7, c2, q, hi, hn, ← r1, g, ← z1, s1, s2, J_X10_weightOf_73, J_X10_weightOf_72, J_X10_weightOf_44, J_X10_weightOf_43, hrec]
      · by_cases s0 : m.1 ag_letters_state a = 0
        · have s2 : m.1 ag_letters_state a ≤ 0 := by grind
          simp (decide := true) only [Option.bind_some, ↓reduceIte, xst_f, xst_k, xst_s, ne_eq, not_false_eq_true, not_true_eq_false, and_self, and_true, true_and, and_false, false_and, or_true, true_or, or_false, false_or, g, s1, s0, decide_true, decide_false, Nat.add_zero, Bool.false_eq_true] at hrec
          simp (decide := true) only [Option.bind_some, ↓reduceIte, xst_f, xst_k, xst_s, ne_eq, not_false_eq_true, not_true_eq_false, and_self, and_true, true_and, and_false, false_and, or_true, true_or, or_false, false_or, L_X10_weightOf_7, c2, q, hi, hn, ← r1, g, ← z1, s0, s1, s2, J_X10_weightOf_73, J_X10_weightOf_72, J_X10_weightOf_44, J_X10_weightOf_43, hrec, Int32.add_zero, o_succ]
        · have s2 : ¬ m.1 ag_letters_state a ≤ 0 := by grind
          simp (decide := true) only [Option.bind_some, ↓reduceIte, xst_f, xst_k, xst_s, ne_eq, not_false_eq_true, not_true_eq_false, and_self, and_true, true_and, and_false, false_and, or_true, true_or, or_false, false_or, g, s1, s0, decide_true, decide_false, Nat.add_zero, Bool.false_eq_true, ← o_succ] at hrec
          simp (decide := true) only [Option.bind_some, ↓reduceIte, xst_f, xst_k, xst_s, ne_eq, not_false_eq_true, not_true_eq_false, and_self, and_true, true_and, and_false, false_and, or_true, true_or, or_false, false_or, L_X10_weightOf_7, c2, q, hi, hn, ← r1, g, ← z1, s1, s2, J_X10_weightOf_73, J_X10_weightOf_72, J_X10_weightOf_44, J_X10_weightOf_43, hrec, Int32.add_zero]
    · simp (decide := true) only [Option.bind_some, ↓reduceIte, xst_f, xst_k, xst_s, ne_eq, not_false_eq_true, not_true_eq_false, and_self, and_true, true_and, and_false, false_and, or_true, true_or, or_false, false_or, g, decide_false, Nat.add_zero, Bool.false_eq_true] at hrec
      simp (decide := true) only [Option.bind_some, ↓reduceIte, xst_f, xst_k, xst_s, ne_eq, not_false_eq_true, not_true_eq_false, and_self, and_true, true_and, and_false, false_and, or_true, true_or, or_false, false_or, L_X10_weightOf_7, c2, q, hi, hn, ← r1, g, J_X10_weightOf_73, J_X10_weightOf_72, J_X10_weightOf_44, J_X10_weightOf_43, hrec, Int32.add_zero, o_succ]
theorem m_weightOfW (H : xRelW t nf nw nl tp m.1) {r : Nat} (hr : r < 20) : F_X10_weightOf (Int32.ofNat r) m = some (wtv m.1 r, m) := by
  obtain ⟨a, b, ha, hb, e1, e2, e3, e4⟩ := wt_nzW H hr
  have hl := m_wtlW H r (fun x2_37 x3_38 m_39 => (
    if (x3_38 + (2 : Int32)) = 0 then none else (
    some (((1000 : Int32) * (x2_37 + (1 : Int32))) / (x3_38 + (2 : Int32)), m_39)))) nl 0 xfuel (by omega) (by rw [xfuel_eq]; have := H.1.1; omega)
  have hs : xct (fun l => decide (m.1 ag_letters_reader l = Int32.ofNat r ∧ ¬ m.1 ag_letters_state l = 0)) nl = a + b := by
    rw [e3, e4]
    refine xct_add nl (fun k hk => ?_)
    obtain ⟨⟨z1, z2, z3⟩, -⟩ := H.2.2.2.2.1.2 k (by have := H.1.1; omega)
    have : m.1 ag_letters_state k = 0 ∨ m.1 ag_letters_state k = 1 ∨ m.1 ag_letters_state k = 2 := by grind
    rcases this with q | q | q <;> simp [q]
  rw [hs, ← e3] at hl
  unfold F_X10_weightOf
  refine Eq.trans (b := _) hl ?_
  have hz : ¬ Int32.ofNat (a + b) + 2 = 0 := by
    rw [show (2 : Int32) = Int32.ofNat 2 from rfl, ← Int32.ofNat_add, o_zero, o_eq (by omega) (by omega)]; omega
  rw [if_neg hz]
  unfold wtv
  rw [e1, e2, ← Int32.ofNat_add]
theorem m_openW (H : xRelW t nf nw nl tp m.1) {f l : Nat} (hl : l < nl) : F_X10_isOpen (Int32.ofNat l) (Int32.ofNat f) m = some (if opn m.1 f l then 1 else 0, m) := by
  obtain ⟨h1, h2, h3, h4, h5, h6, h7, h8, h9⟩ := id H
  have hb := h1.1
  obtain ⟨-, ⟨a1, a2⟩, ⟨b1, b2⟩, ⟨c1, c2⟩, e1, e2⟩ := id h1
  have hi : xin (Int32.ofNat l) 100 = true := o_in (by omega) (by omega)
  have hn : (Int32.ofNat l).toNatClampNeg = l := o_nat (by omega)
  obtain ⟨-, r1, -⟩ := h5.1 l hl
  obtain ⟨⟨z1, -⟩, -⟩ := h5.2 l (by omega)
  unfold opn
  by_cases h : m.1 ag_letters_about l = Int32.ofNat f
  · by_cases g : m.1 ag_letters_state l = 0
    · simp (decide := true) only [Option.bind_some, ↓reduceIte, xst_f, xst_k, xst_s, ne_eq, not_false_eq_true, not_true_eq_false, and_self, and_true, true_and, and_false, false_and, or_true, true_or, or_false, false_or, F_X10_isOpen, hi, hn, ← r1, ← z1, h, g, decide_true]
    · simp (decide := true) only [Option.bind_some, ↓reduceIte, xst_f, xst_k, xst_s, ne_eq, not_false_eq_true, not_true_eq_false, and_self, and_true, true_and, and_false, false_and, or_true, true_or, or_false, false_or, F_X10_isOpen, hi, hn, ← r1, ← z1, h, g, decide_false, Bool.false_eq_true]
  · simp (decide := true) only [Option.bind_some, ↓reduceIte, xst_f, xst_k, xst_s, ne_eq, not_false_eq_true, not_true_eq_false, and_self, and_true, true_and, and_false, false_and, or_true, true_or, or_false, false_or, F_X10_isOpen, hi, hn, ← r1, ← z1, h, decide_false, Bool.false_eq_true]
theorem c_wfW (H : xRelW t nf nw nl tp m.1) (f : Nat) (v : Int32) : ∀ (k a fk : Nat) (x : Int32), a + k = nl → k < fk → (∀ r, r < 20 → x.toBitVec.getLsbD r = hx (sy m.1 f v r) a) → L_X3_weightFor_8 (Int32.ofNat f) v fk x (hs (fun r => hx (sy m.1 f v r) a) (wtv m.1) 20) (Int32.ofNat a) m = some (wfv m.1 nl f v, m)
  | 0, a, fk + 1, x, h, _, hb => by
    obtain ⟨h1, h2, h3, h4, h5, h6, h7, h8, h9⟩ := id H
    have hb := h1.1
    obtain ⟨-, ⟨a1, a2⟩, ⟨b1, b2⟩, ⟨c1, c2⟩, e1, e2⟩ := id h1
    have q : Int32.ofNat nl ≤ Int32.ofNat a := (o_le (by omega) (by omega)).mpr (by omega)
    have ha : a = nl := by omega
    simp (decide := true) only [Option.bind_some, ↓reduceIte, xst_f, xst_k, xst_s, ne_eq, not_false_eq_true, not_true_eq_false, and_self, and_true, true_and, and_false, false_and, or_true, true_or, or_false, false_or, L_X3_weightFor_8, c1, q, wfv, ha, Int32.le_refl]
  | k + 1, a, fk + 1, x, h, hf, hB => by
    have hrec := fun x hx => c_wfW H f v k (a + 1) fk x (by omega) (by omega) hx
    obtain ⟨h1, h2, h3, h4, h5, h6, h7, h8, h9⟩ := id H
    have hb := h1.1
    obtain ⟨-, ⟨a1, a2⟩, ⟨b1, b2⟩, ⟨c1, c2⟩, e1, e2⟩ := id h1
    have q : ¬ Int32.ofNat nl ≤ Int32.ofNat a := fun q => by have := (o_le (by omega) (by omega)).mp q; omega
    have hi : xin (Int32.ofNat a) 100 = true := o_in (by omega) (by omega)
    have hn : (Int32.ofNat a).toNatClampNeg = a := o_nat (by omega)
    have ha100 : a < 100 := by omega
    have d10 : ¬ ((1 : Int32) = 0) := by decide
    obtain ⟨⟨-, r1⟩, -⟩ := h5.1 a (by omega)
    obtain ⟨i, hi19, hie⟩ := g_rx (n := 19) r1 (by omega)
    have hi20 : i < 20 := by omega
    have keep : (opn m.1 f a && decide (m.1 ag_letters_said a = v)) = false → L_X3_weightFor_8 (Int32.ofNat f) v fk x (hs (fun r => hx (sy m.1 f v r) a) (wtv m.1) 20) (Int32.ofNat (a + 1)) m = some (wfv m.1 nl f v, m) := by
      intro hno
      have e : ∀ r, hx (sy m.1 f v r) (a + 1) = hx (sy m.1 f v r) a := by
        intro r
        show (hx _ a || sy m.1 f v r a) = _
        unfold sy
        rw [hno, Bool.and_false, Bool.or_false]
      have := hrec x (fun r hr => by rw [hB r hr, e r])
      rw [hs_cg 20 (fun r _ => e r)] at this
      exact this
    by_cases ho : opn m.1 f a = true
    · by_cases hv : m.1 ag_letters_said a = v
      · have e : ∀ r, r < 20 → hx (sy m.1 f v r) (a + 1) = (hx (sy m.1 f v r) a || decide (i = r)) := by
          intro r hr
          show (hx _ a || sy m.1 f v r a) = _
          unfold sy
          rw [ho, hv, hie, decide_eq_true rfl, Bool.and_true, Bool.and_true]
          exact congrArg _ (decide_eq_decide.mpr (o_eq (by omega) (by omega)))
        by_cases hm : hx (sy m.1 f v i) a = true
        · have b : ¬ x &&& (1 : Int32) <<< (Int32.ofNat i &&& 31) = 0 := by rw [bit_and hi20, hB i hi20, hm]; decide
          have e' : ∀ r, r < 20 → hx (sy m.1 f v r) (a + 1) = hx (sy m.1 f v r) a := by
            intro r hr
            rw [e r hr]
            by_cases w : i = r
            · rw [← w, hm]; rfl
            · rw [decide_eq_false w, Bool.or_false]
          have := hrec x (fun r hr => by rw [hB r hr, e' r hr])
          rw [hs_cg 20 (fun r hr => e' r hr)] at this
          simp (decide := true) only [Option.bind_some, ↓reduceIte, xst_f, xst_k, xst_s, ne_eq, not_false_eq_true, not_true_eq_false, and_self, and_true, true_and, and_false, false_and, or_true, true_or, or_false, false_or, L_X3_weightFor_8, c1, q, hi, hn, c_open ha100, ho, d10, hv, hie, J_X3_weightFor_89, J_X3_weightFor_54, J_X3_weightFor_53, b, o_succ, this]
        · have hm' : hx (sy m.1 f v i) a = false := by simpa using hm
          have b : x &&& (1 : Int32) <<< (Int32.ofNat i &&& 31) = 0 := by rw [bit_and hi20, hB i hi20, hm']
          have := hrec (x ||| (1 : Int32) <<< (Int32.ofNat i &&& 31)) (fun r hr => by rw [bit_or hi20 hr, hB r hr, e r hr])
          rw [hs_up (i := i) (B := fun r => hx (sy m.1 f v r) a) hm' (by show hx (sy m.1 f v i) (a + 1) = true; rw [e i hi20]; simp) 20 (fun r hr he => by show hx (sy m.1 f v r) (a + 1) = hx (sy m.1 f v r) a; rw [e r hr, decide_eq_false (fun w => he w.symm), Bool.or_false]) hi20] at this
          simp (decide := true) only [Option.bind_some, ↓reduceIte, xst_f, xst_k, xst_s, ne_eq, not_false_eq_true, not_true_eq_false, and_self, and_true, true_and, and_false, false_and, or_true, true_or, or_false, false_or, L_X3_weightFor_8, c1, q, hi, hn, c_open ha100, ho, d10, hv, hie, J_X3_weightFor_89, J_X3_weightFor_54, J_X3_weightFor_53, b, c_weightOfW H hi20, o_succ, this]
      · have := keep (by rw [decide_eq_false hv, Bool.and_false])
        simp (decide := true) only [Option.bind_some, ↓reduceIte, xst_f, xst_k, xst_s, ne_eq, not_false_eq_true, not_true_eq_false, and_self, and_true, true_and, and_false, false_and, or_true, true_or, or_false, false_or, L_X3_weightFor_8, c1, q, hi, hn, c_open ha100, ho, d10, hv, J_X3_weightFor_89, J_X3_weightFor_54, J_X3_weightFor_53, o_succ, this]
    · have ho' : opn m.1 f a = false := by simpa using ho
      have := keep (by rw [ho', Bool.false_and])
      simp (decide := true) only [Option.bind_some, ↓reduceIte, xst_f, xst_k, xst_s, ne_eq, not_false_eq_true, not_true_eq_false, and_self, and_true, true_and, and_false, false_and, or_true, true_or, or_false, false_or, L_X3_weightFor_8, c1, q, hi, hn, c_open ha100, ho', Bool.false_eq_true, J_X3_weightFor_89, J_X3_weightFor_54, J_X3_weightFor_53, o_succ, this]
theorem c_weightForW (H : xRelW t nf nw nl tp m.1) (f : Nat) (v : Int32) : F_X3_weightFor (Int32.ofNat f) v m = some (wfv m.1 nl f v, m) := by
  have := c_wfW H f v nl 0 xfuel 0 (by omega) (by have := H.1.1; rw [xfuel_eq]; omega) (fun r _ => by
    show (0#32).getLsbD r = false
    exact BitVec.getLsbD_zero)
  have z : hs (fun r => hx (sy m.1 f v r) 0) (wtv m.1) 20 = 0 := hs_0 20
  rw [z] at this
  exact this
theorem wf_rgW (H : xRelW t nf nw nl tp m.1) (f : Nat) (v : Int32) : 0 ≤ (wfv m.1 nl f v).toInt ∧ (wfv m.1 nl f v).toInt ≤ 20000 := hs_rg (fun r hr => wt_rgW H hr) 20 (by omega)
/-- the reference: has reader r said it -/
theorem m_hdW (H : xRelW t nf nw nl tp m.1) (f : Nat) (v s : Int32) {r : Nat} (c : Int32 → xMem → Option (Int32 × xMem)) : ∀ (k a fk : Nat), a + k = nl → k < fk → L_X10_heard_40 (Int32.ofNat f) v s (Int32.ofNat r) c fk (if hx (sy m.1 f v r) a then 1 else 0) (Int32.ofNat a) m = c (if hx (sy m.1 f v r) nl then 1 else 0) m
  | 0, a, fk + 1, h, _ => by
    obtain ⟨h1, h2, h3, h4, h5, h6, h7, h8, h9⟩ := id H
    have hb := h1.1
    obtain ⟨-, ⟨a1, a2⟩, ⟨b1, b2⟩, ⟨c1, c2⟩, e1, e2⟩ := id h1
    have q : Int32.ofNat nl ≤ Int32.ofNat a := (o_le (by omega) (by omega)).mpr (by omega)
    have ha : a = nl := by omega
    simp (decide := true) only [Option.bind_some, ↓reduceIte, xst_f, xst_k, xst_s, ne_eq, not_false_eq_true, not_true_eq_false, and_self, and_true, true_and, and_false, false_and, or_true, true_or, or_false, false_or, L_X10_heard_40, c2, q, ha, Int32.le_refl]
  | k + 1, a, fk + 1, h, hf => by
    have hrec := m_hdW H f v s (r := r) c k (a + 1) fk (by omega) (by omega)
    obtain ⟨h1, h2, h3, h4, h5, h6, h7, h8, h9⟩ := id H
    have hb := h1.1
    obtain ⟨-, ⟨a1, a2⟩, ⟨b1, b2⟩, ⟨c1, c2⟩, e1, e2⟩ := id h1
    have q : ¬ Int32.ofNat nl ≤ Int32.ofNat a := fun q => by have := (o_le (by omega) (by omega)).mp q; omega
    have hi : xin (Int32.ofNat a) 100 = true := o_in (by omega) (by omega)
    have hn : (Int32.ofNat a).toNatClampNeg = a := o_nat (by omega)
    have hal : a < nl := by omega
    have d10 : ¬ ((1 : Int32) = 0) := by decide
    obtain ⟨⟨r1, -⟩, -, ⟨s1, -⟩⟩ := h5.1 a hal
    have e : hx (sy m.1 f v r) (a + 1) = (hx (sy m.1 f v r) a || sy m.1 f v r a) := rfl
    rw [e] at hrec
    cases hm : hx (sy m.1 f v r) a with
    | true =>
      rw [hm, Bool.true_or] at hrec
      simp (decide := true) only [Option.bind_some, ↓reduceIte, xst_f, xst_k, xst_s, ne_eq, not_false_eq_true, not_true_eq_false, and_self, and_true, true_and, and_false, false_and, or_true, true_or, or_false, false_or, ] at hrec
      simp (decide := true) only [Option.bind_some, ↓reduceIte, xst_f, xst_k, xst_s, ne_eq, not_false_eq_true, not_true_eq_false, and_self, and_true, true_and, and_false, false_and, or_true, true_or, or_false, false_or, L_X10_heard_40, c2, q, d10, J_X10_heard_92, J_X10_heard_87, J_X10_heard_91, J_X10_heard_116, J_X10_heard_23, o_succ, hrec]
    | false =>
      rw [hm, Bool.false_or] at hrec
      have e9 : sy m.1 f v r a = (decide (m.1 ag_letters_reader a = Int32.ofNat r) && (opn m.1 f a && decide (m.1 ag_letters_said a = v))) := rfl
      rw [e9] at hrec
      by_cases g : m.1 ag_letters_reader a = Int32.ofNat r
      · cases ho : opn m.1 f a with
        | true =>
          by_cases hv : m.1 ag_letters_said a = v
          · rw [ho, decide_eq_true g, decide_eq_true hv] at hrec
            simp (decide := true) only [Option.bind_some, ↓reduceIte, xst_f, xst_k, xst_s, ne_eq, not_false_eq_true, not_true_eq_false, and_self, and_true, true_and, and_false, false_and, or_true, true_or, or_false, false_or, Bool.and_self, Bool.and_true] at hrec
            simp (decide := true) only [Option.bind_some, ↓reduceIte, xst_f, xst_k, xst_s, ne_eq, not_false_eq_true, not_true_eq_false, and_self, and_true, true_and, and_false, false_and, or_true, true_or, or_false, false_or, L_X10_heard_40, c2, q, hi, hn, Bool.false_eq_true, ← r1, g, m_openW H hal, ho, d10, ← s1, hv, J_X10_heard_92, J_X10_heard_87, J_X10_heard_91, J_X10_heard_116, J_X10_heard_23, o_succ, hrec]
          · rw [ho, decide_eq_true g, decide_eq_false hv] at hrec
            simp (decide := true) only [Option.bind_some, ↓reduceIte, xst_f, xst_k, xst_s, ne_eq, not_false_eq_true, not_true_eq_false, and_self, and_true, true_and, and_false, false_and, or_true, true_or, or_false, false_or, Bool.and_false, Bool.false_eq_true] at hrec
            simp (decide := true) only [Option.bind_some, ↓reduceIte, xst_f, xst_k, xst_s, ne_eq, not_false_eq_true, not_true_eq_false, and_self, and_true, true_and, and_false, false_and, or_true, true_or, or_false, false_or, L_X10_heard_40, c2, q, hi, hn, Bool.false_eq_true, ← r1, g, m_openW H hal, ho, d10, ← s1, hv, J_X10_heard_92, J_X10_heard_87, J_X10_heard_91, J_X10_heard_116, J_X10_heard_23, o_succ, hrec]
        | false =>
          rw [ho, Bool.false_and, Bool.and_false] at hrec
          simp (decide := true) only [Option.bind_some, ↓reduceIte, xst_f, xst_k, xst_s, ne_eq, not_false_eq_true, not_true_eq_false, and_self, and_true, true_and, and_false, false_and, or_true, true_or, or_false, false_or, Bool.false_eq_true] at hrec
          simp (decide := true) only [Option.bind_some, ↓reduceIte, xst_f, xst_k, xst_s, ne_eq, not_false_eq_true, not_true_eq_false, and_self, and_true, true_and, and_false, false_and, or_true, true_or, or_false, false_or, L_X10_heard_40, c2, q, hi, hn, Bool.false_eq_true, ← r1, g, m_openW H hal, ho, J_X10_heard_92, J_X10_heard_87, J_X10_heard_91, J_X10_heard_116, J_X10_heard_23, o_succ, hrec]
      · rw [decide_eq_false g, Bool.false_and] at hrec
        simp (decide := true) only [Option.bind_some, ↓reduceIte, xst_f, xst_k, xst_s, ne_eq, not_false_eq_true, not_true_eq_false, and_self, and_true, true_and, and_false, false_and, or_true, true_or, or_false, false_or, Bool.false_eq_true] at hrec
        simp (decide := true) only [Option.bind_some, ↓reduceIte, xst_f, xst_k, xst_s, ne_eq, not_false_eq_true, not_true_eq_false, and_self, and_true, true_and, and_false, false_and, or_true, true_or, or_false, false_or, L_X10_heard_40, c2, q, hi, hn, Bool.false_eq_true, ← r1, g, J_X10_heard_92, J_X10_heard_87, J_X10_heard_91, J_X10_heard_116, J_X10_heard_23, o_succ, hrec]
theorem m_hrW (H : xRelW t nf nw nl tp m.1) (f : Nat) (v s : Int32) : ∀ (k a fk : Nat), a + k = 20 → k < fk → L_X10_heard_27 (Int32.ofNat f) v fk (s + hs (fun r => hx (sy m.1 f v r) nl) (wtv m.1) a) (Int32.ofNat a) m = some (s + wfv m.1 nl f v, m)
  | 0, a, fk + 1, h, _ => by
    have q : 20 ≤ Int32.ofNat a := (o_le (a := 20) (by omega) (by omega)).mpr (by omega)
    have ha : a = 20 := by omega
    simp (decide := true) only [Option.bind_some, ↓reduceIte, xst_f, xst_k, xst_s, ne_eq, not_false_eq_true, not_true_eq_false, and_self, and_true, true_and, and_false, false_and, or_true, true_or, or_false, false_or, L_X10_heard_27, q, ha, wfv]
  | k + 1, a, fk + 1, h, hf => by
    have hrec := m_hrW H f v s k (a + 1) fk (by omega) (by omega)
    have q : ¬ 20 ≤ Int32.ofNat a := fun q => by have := (o_le (a := 20) (by omega) (by omega)).mp q; omega
    have d10 : ¬ ((1 : Int32) = 0) := by decide
    have hl := fun c => m_hdW H f v (s + hs (fun r => hx (sy m.1 f v r) nl) (wtv m.1) a) (r := a) c nl 0 xfuel (by omega) (by have := H.1.1; rw [xfuel_eq]; omega)
    have z : (if hx (sy m.1 f v a) 0 then 1 else 0 : Int32) = 0 := rfl
    rw [z, ← o_zero] at hl
    have e : hs (fun r => hx (sy m.1 f v r) nl) (wtv m.1) (a + 1) = hs (fun r => hx (sy m.1 f v r) nl) (wtv m.1) a + (if hx (sy m.1 f v a) nl then wtv m.1 a else 0) := rfl
    rw [e, ← Int32.add_assoc] at hrec
    cases hm : hx (sy m.1 f v a) nl with
    | true =>
      rw [hm] at hrec
      simp (decide := true) only [Option.bind_some, ↓reduceIte, xst_f, xst_k, xst_s, ne_eq, not_false_eq_true, not_true_eq_false, and_self, and_true, true_and, and_false, false_and, or_true, true_or, or_false, false_or, ] at hrec
      simp (decide := true) only [Option.bind_some, ↓reduceIte, xst_f, xst_k, xst_s, ne_eq, not_false_eq_true, not_true_eq_false, and_self, and_true, true_and, and_false, false_and, or_true, true_or, or_false, false_or, L_X10_heard_27, q, hl, hm, d10, m_weightOfW H (show a < 20 by omega), J_X10_heard_92, J_X10_heard_87, J_X10_heard_91, J_X10_heard_116, J_X10_heard_23, o_succ, hrec]
    | false =>
      rw [hm] at hrec
      simp (decide := true) only [Option.bind_some, ↓reduceIte, xst_f, xst_k, xst_s, ne_eq, not_false_eq_true, not_true_eq_false, and_self, and_true, true_and, and_false, false_and, or_true, true_or, or_false, false_or, Bool.false_eq_true] at hrec
      simp (decide := true) only [Option.bind_some, ↓reduceIte, xst_f, xst_k, xst_s, ne_eq, not_false_eq_true, not_true_eq_false, and_self, and_true, true_and, and_false, false_and, or_true, true_or, or_false, false_or, L_X10_heard_27, q, hl, hm, Bool.false_eq_true, J_X10_heard_92, J_X10_heard_87, J_X10_heard_91, J_X10_heard_116, J_X10_heard_23, o_succ, hrec]
theorem m_heardW (ht : t ≤ 600) (H : xRelW t nf nw nl tp m.1) {f : Nat} (hf : f < nf) (v : Int32) : F_X10_heard (Int32.ofNat f) v m = some (hdv m.1 nl f (chf m.1 nw f) v, m) := by
  have hb := H.1.1
  have hi : xin (Int32.ofNat f) 60 = true := o_in (by omega) (by omega)
  have hn : (Int32.ofNat f).toNatClampNeg = f := o_nat (by omega)
  obtain ⟨-, -, ⟨p3, -⟩, -⟩ := H.2.1 f hf
  have hl := fun s => m_hrW H f v s 20 0 xfuel rfl (by decide)
  have z : ∀ s : Int32, s + hs (fun r => hx (sy m.1 f v r) nl) (wtv m.1) 0 = s := fun s => Int32.add_zero s
  unfold hdv
  by_cases g : v = m.1 ag_facts_value f
  · have := hl (chf m.1 nw f / 1000)
    rw [z, ← o_zero] at this
    simp (decide := true) only [Option.bind_some, ↓reduceIte, xst_f, xst_k, xst_s, ne_eq, not_false_eq_true, not_true_eq_false, and_self, and_true, true_and, and_false, false_and, or_true, true_or, or_false, false_or, F_X10_heard, hi, hn, ← p3, g, m_chanceOfW ht H hf, J_X10_heard_92, J_X10_heard_87, J_X10_heard_91, J_X10_heard_116, J_X10_heard_23]
    rw [← g]
    exact this
  · have := hl 0
    rw [z, ← o_zero] at this
    simp (decide := true) only [Option.bind_some, ↓reduceIte, xst_f, xst_k, xst_s, ne_eq, not_false_eq_true, not_true_eq_false, and_self, and_true, true_and, and_false, false_and, or_true, true_or, or_false, false_or, F_X10_heard, hi, hn, ← p3, g, J_X10_heard_92, J_X10_heard_87, J_X10_heard_91, J_X10_heard_116, J_X10_heard_23, this]
theorem c_blW (H : xRelW t nf nw nl tp m.1) (f : Nat) (own : Int32) : ∀ (k a fk : Nat) (b s : Int32), a + k = nl → k < fk → L_X9_beliefOf_39 (Int32.ofNat f) own fk b s (Int32.ofNat a) m = some (bl (opn m.1 f) (m.1 ag_letters_said) (wfv m.1 nl f) own k a b s, m)
  | 0, a, fk + 1, b, s, h, _ => by
    obtain ⟨h1, h2, h3, h4, h5, h6, h7, h8, h9⟩ := id H
    have hb := h1.1
    obtain ⟨-, ⟨a1, a2⟩, ⟨b1, b2⟩, ⟨c1, c2⟩, e1, e2⟩ := id h1
    have q : Int32.ofNat nl ≤ Int32.ofNat a := (o_le (by omega) (by omega)).mpr (by omega)
    simp (decide := true) only [Option.bind_some, ↓reduceIte, xst_f, xst_k, xst_s, ne_eq, not_false_eq_true, not_true_eq_false, and_self, and_true, true_and, and_false, false_and, or_true, true_or, or_false, false_or, L_X9_beliefOf_39, c1, q, bl]
  | k + 1, a, fk + 1, b, s, h, hf => by
    have hrec := fun b s => c_blW H f own k (a + 1) fk b s (by omega) (by omega)
    obtain ⟨h1, h2, h3, h4, h5, h6, h7, h8, h9⟩ := id H
    have hb := h1.1
    obtain ⟨-, ⟨a1, a2⟩, ⟨b1, b2⟩, ⟨c1, c2⟩, e1, e2⟩ := id h1
    have q : ¬ Int32.ofNat nl ≤ Int32.ofNat a := fun q => by have := (o_le (by omega) (by omega)).mp q; omega
    have hi : xin (Int32.ofNat a) 100 = true := o_in (by omega) (by omega)
    have hn : (Int32.ofNat a).toNatClampNeg = a := o_nat (by omega)
    have ha100 : a < 100 := by omega
    have d10 : ¬ ((1 : Int32) = 0) := by decide
    unfold bl
    cases ho : opn m.1 f a with
    | false => simp (decide := true) only [Option.bind_some, ↓reduceIte, xst_f, xst_k, xst_s, ne_eq, not_false_eq_true, not_true_eq_false, and_self, and_true, true_and, and_false, false_and, or_true, true_or, or_false, false_or, L_X9_beliefOf_39, c1, q, hi, hn, c_open ha100, ho, Bool.false_eq_true, J_X9_beliefOf_141, J_X9_beliefOf_134, J_X9_beliefOf_120, J_X9_beliefOf_119, o_succ, hrec]
    | true =>
      by_cases g : m.1 ag_letters_said a = own
      · simp (decide := true) only [Option.bind_some, ↓reduceIte, xst_f, xst_k, xst_s, ne_eq, not_false_eq_true, not_true_eq_false, and_self, and_true, true_and, and_false, false_and, or_true, true_or, or_false, false_or, L_X9_beliefOf_39, c1, q, hi, hn, c_open ha100, ho, d10, g, J_X9_beliefOf_141, J_X9_beliefOf_134, J_X9_beliefOf_120, J_X9_beliefOf_119, o_succ, hrec]
      · by_cases g1 : s < wfv m.1 nl f (m.1 ag_letters_said a)
        · have g2 : ¬ wfv m.1 nl f (m.1 ag_letters_said a) = s := by intro w; rw [w] at g1; exact absurd g1 (Int32.lt_irrefl)
          simp (decide := true) only [Option.bind_some, ↓reduceIte, xst_f, xst_k, xst_s, ne_eq, not_false_eq_true, not_true_eq_false, and_self, and_true, true_and, and_false, false_and, or_true, true_or, or_false, false_or, L_X9_beliefOf_39, c1, q, hi, hn, c_open ha100, ho, d10, g, c_weightForW H f, g1, g2, J_X9_beliefOf_141, J_X9_beliefOf_134, J_X9_beliefOf_120, J_X9_beliefOf_119, o_succ, hrec]
        · by_cases g2 : wfv m.1 nl f (m.1 ag_letters_said a) = s
          · by_cases g3 : b = own
            · simp (decide := true) only [Option.bind_some, ↓reduceIte, xst_f, xst_k, xst_s, ne_eq, not_false_eq_true, not_true_eq_false, and_self, and_true, true_and, and_false, false_and, or_true, true_or, or_false, false_or, L_X9_beliefOf_39, c1, q, hi, hn, c_open ha100, ho, d10, g, c_weightForW H f, g1, g2, g3, J_X9_beliefOf_141, J_X9_beliefOf_134, J_X9_beliefOf_120, J_X9_beliefOf_119, o_succ, hrec, Int32.lt_irrefl]
            · by_cases g4 : b ≤ m.1 ag_letters_said a
              · simp (decide := true) only [Option.bind_some, ↓reduceIte, xst_f, xst_k, xst_s, ne_eq, not_false_eq_true, not_true_eq_false, and_self, and_true, true_and, and_false, false_and, or_true, true_or, or_false, false_or, L_X9_beliefOf_39, c1, q, hi, hn, c_open ha100, ho, d10, g, c_weightForW H f, g1, g2, g3, g4, J_X9_beliefOf_141, J_X9_beliefOf_134, J_X9_beliefOf_120, J_X9_beliefOf_119, o_succ, hrec, Int32.lt_irrefl]
              · simp (decide := true) only [Option.bind_some, ↓reduceIte, xst_f, xst_k, xst_s, ne_eq, not_false_eq_true, not_true_eq_false, and_self, and_true, true_and, and_false, false_and, or_true, true_or, or_false, false_or, L_X9_beliefOf_39, c1, q, hi, hn, c_open ha100, ho, d10, g, c_weightForW H f, g1, g2, g3, g4, J_X9_beliefOf_141, J_X9_beliefOf_134, J_X9_beliefOf_120, J_X9_beliefOf_119, o_succ, hrec, Int32.lt_irrefl]
          · simp (decide := true) only [Option.bind_some, ↓reduceIte, xst_f, xst_k, xst_s, ne_eq, not_false_eq_true, not_true_eq_false, and_self, and_true, true_and, and_false, false_and, or_true, true_or, or_false, false_or, L_X9_beliefOf_39, c1, q, hi, hn, c_open ha100, ho, d10, g, c_weightForW H f, g1, g2, J_X9_beliefOf_141, J_X9_beliefOf_134, J_X9_beliefOf_120, J_X9_beliefOf_119, o_succ, hrec]
theorem m_blW (ht : t ≤ 600) (H : xRelW t nf nw nl tp m.1) {f : Nat} (hf : f < nf) : ∀ (k a fk : Nat) (b s x : Int32), a + k = nl → k < fk → 0 ≤ s → (x = s ∨ (x = -1 ∧ s = hdv m.1 nl f (chf m.1 nw f) (m.1 ag_facts_value f))) → L_X10_believes_12 (Int32.ofNat f) fk b x (Int32.ofNat a) m = some (bl (opn m.1 f) (m.1 ag_letters_said) (wfv m.1 nl f) (m.1 ag_facts_value f) k a b s, m)
  | 0, a, fk + 1, b, s, x, h, _, _, _ => by
    obtain ⟨h1, h2, h3, h4, h5, h6, h7, h8, h9⟩ := id H
    have hb := h1.1
    obtain ⟨-, ⟨a1, a2⟩, ⟨b1, b2⟩, ⟨c1, c2⟩, e1, e2⟩ := id h1
    have q : Int32.ofNat nl ≤ Int32.ofNat a := (o_le (by omega) (by omega)).mpr (by omega)
    simp (decide := true) only [Option.bind_some, ↓reduceIte, xst_f, xst_k, xst_s, ne_eq, not_false_eq_true, not_true_eq_false, and_self, and_true, true_and, and_false, false_and, or_true, true_or, or_false, false_or, L_X10_believes_12, c2, q, bl]
  | k + 1, a, fk + 1, b, s, x, h, hk, hs0, hx => by
    have hrec := fun b s x => m_blW ht H hf k (a + 1) fk b s x (by omega) (by omega)
    obtain ⟨h1, h2, h3, h4, h5, h6, h7, h8, h9⟩ := id H
    have hb := h1.1
    obtain ⟨-, ⟨a1, a2⟩, ⟨b1, b2⟩, ⟨c1, c2⟩, e1, e2⟩ := id h1
    have q : ¬ Int32.ofNat nl ≤ Int32.ofNat a := fun q => by have := (o_le (by omega) (by omega)).mp q; omega
    have hi : xin (Int32.ofNat a) 100 = true := o_in (by omega) (by omega)
    have hn : (Int32.ofNat a).toNatClampNeg = a := o_nat (by omega)
    have hi' : xin (Int32.ofNat f) 60 = true := o_in (by omega) (by omega)
    have hn' : (Int32.ofNat f).toNatClampNeg = f := o_nat (by omega)
    have hal : a < nl := by omega
    have d10 : ¬ ((1 : Int32) = 0) := by decide
    obtain ⟨-, -, ⟨s1, -⟩⟩ := h5.1 a hal
    obtain ⟨-, -, ⟨p3, -⟩, -⟩ := h2 f hf
    have r0 := hrec b s x hs0 hx
    unfold bl
    cases ho : opn m.1 f a with
    | false => simp (decide := true) only [Option.bind_some, ↓reduceIte, xst_f, xst_k, xst_s, ne_eq, not_false_eq_true, not_true_eq_false, and_self, and_true, true_and, and_false, false_and, or_true, true_or, or_false, false_or, L_X10_believes_12, c2, q, m_openW H hal, ho, Bool.false_eq_true, J_X10_believes_125, J_X10_believes_114, J_X10_believes_66, o_succ, r0]
    | true =>
      by_cases g : m.1 ag_letters_said a = m.1 ag_facts_value f
      · simp (decide := true) only [Option.bind_some, ↓reduceIte, xst_f, xst_k, xst_s, ne_eq, not_false_eq_true, not_true_eq_false, and_self, and_true, true_and, and_false, false_and, or_true, true_or, or_false, false_or, L_X10_believes_12, c2, q, m_openW H hal, ho, d10, hi, hn, hi', hn', ← s1, ← p3, g, J_X10_believes_125, J_X10_believes_114, J_X10_believes_66, o_succ, r0]
      · have hw : hdv m.1 nl f (chf m.1 nw f) (m.1 ag_letters_said a) = wfv m.1 nl f (m.1 ag_letters_said a) := by
          unfold hdv
          rw [if_neg g, Int32.zero_add]
        have hw0 : 0 ≤ wfv m.1 nl f (m.1 ag_letters_said a) := i_0.mpr (wf_rgW H f _).1
        have r1 := hrec b s s hs0 (Or.inl rfl)
        have r2 := hrec (m.1 ag_letters_said a) (wfv m.1 nl f (m.1 ag_letters_said a)) _ hw0 (Or.inl rfl)
        have hj : J_X10_believes_66 (fun y z w m_1 => L_X10_believes_12 (Int32.ofNat f) fk y z w m_1) (Int32.ofNat f) b (Int32.ofNat a) s m = some (if s < wfv m.1 nl f (m.1 ag_letters_said a) then bl (opn m.1 f) (m.1 ag_letters_said) (wfv m.1 nl f) (m.1 ag_facts_value f) k (a + 1) (m.1 ag_letters_said a) (wfv m.1 nl f (m.1 ag_letters_said a)) else if wfv m.1 nl f (m.1 ag_letters_said a) = s then (if b = m.1 ag_facts_value f then bl (opn m.1 f) (m.1 ag_letters_said) (wfv m.1 nl f) (m.1 ag_facts_value f) k (a + 1) b s else if b ≤ m.1 ag_letters_said a then bl (opn m.1 f) (m.1 ag_letters_said) (wfv m.1 nl f) (m.1 ag_facts_value f) k (a + 1) b s else bl (opn m.1 f) (m.1 ag_letters_said) (wfv m.1 nl f) (m.1 ag_facts_value f) k (a + 1) (m.1 ag_letters_said a) (wfv m.1 nl f (m.1 ag_letters_said a))) else bl (opn m.1 f) (m.1 ag_letters_said) (wfv m.1 nl f) (m.1 ag_facts_value f) k (a + 1) b s, m) := by
          by_cases g1 : s < wfv m.1 nl f (m.1 ag_letters_said a)
          · simp (decide := true) only [Option.bind_some, ↓reduceIte, xst_f, xst_k, xst_s, ne_eq, not_false_eq_true, not_true_eq_false, and_self, and_true, true_and, and_false, false_and, or_true, true_or, or_false, false_or, J_X10_believes_125, J_X10_believes_114, J_X10_believes_66, hi, hn, ← s1, m_heardW ht H hf, hw, g1, o_succ, r2]
          · by_cases g2 : wfv m.1 nl f (m.1 ag_letters_said a) = s
            · by_cases g3 : b = m.1 ag_facts_value f
              · simp (decide := true) only [Option.bind_some, ↓reduceIte, xst_f, xst_k, xst_s, ne_eq, not_false_eq_true, not_true_eq_false, and_self, and_true, true_and, and_false, false_and, or_true, true_or, or_false, false_or, J_X10_believes_125, J_X10_believes_114, J_X10_believes_66, hi, hn, hi', hn', ← s1, ← p3, m_heardW ht H hf, hw, g1, g2, Int32.lt_irrefl, g3, o_succ]
                subst g3
                exact r1
              · by_cases g4 : b ≤ m.1 ag_letters_said a
                · simp (decide := true) only [Option.bind_some, ↓reduceIte, xst_f, xst_k, xst_s, ne_eq, not_false_eq_true, not_true_eq_false, and_self, and_true, true_and, and_false, false_and, or_true, true_or, or_false, false_or, J_X10_believes_125, J_X10_believes_114, J_X10_believes_66, hi, hn, hi', hn', ← s1, ← p3, m_heardW ht H hf, hw, g1, g2, Int32.lt_irrefl, g3, g4, o_succ, r1]
                · rw [g2] at r2
                  simp (decide := true) only [Option.bind_some, ↓reduceIte, xst_f, xst_k, xst_s, ne_eq, not_false_eq_true, not_true_eq_false, and_self, and_true, true_and, and_false, false_and, or_true, true_or, or_false, false_or, J_X10_believes_125, J_X10_believes_114, J_X10_believes_66, hi, hn, hi', hn', ← s1, ← p3, m_heardW ht H hf, hw, g1, g2, Int32.lt_irrefl, g3, g4, o_succ, r2]
            · simp (decide := true) only [Option.bind_some, ↓reduceIte, xst_f, xst_k, xst_s, ne_eq, not_false_eq_true, not_true_eq_false, and_self, and_true, true_and, and_false, false_and, or_true, true_or, or_false, false_or, J_X10_believes_125, J_X10_believes_114, J_X10_believes_66, hi, hn, ← s1, m_heardW ht H hf, hw, g1, g2, o_succ, r1]
        rcases hx with e | ⟨e, e'⟩
        · subst e
          simp (decide := true) only [Option.bind_some, ↓reduceIte, xst_f, xst_k, xst_s, ne_eq, not_false_eq_true, not_true_eq_false, and_self, and_true, true_and, and_false, false_and, or_true, true_or, or_false, false_or, L_X10_believes_12, c2, q, m_openW H hal, ho, d10, hi, hn, hi', hn', ← s1, ← p3, g, hs0, hj]
        · subst e
          have dm : ¬ (0 : Int32) ≤ -1 := by decide
          simp (decide := true) only [Option.bind_some, ↓reduceIte, xst_f, xst_k, xst_s, ne_eq, not_false_eq_true, not_true_eq_false, and_self, and_true, true_and, and_false, false_and, or_true, true_or, or_false, false_or, L_X10_believes_12, c2, q, m_openW H hal, ho, d10, hi, hn, hi', hn', ← s1, ← p3, g, dm, m_heardW ht H hf, ← e', hj]
theorem c_beliefOfW (ht : t ≤ 600) (H : xRelW t nf nw nl tp m.1) {f : Nat} (hf : f < nf) : F_X9_beliefOf (Int32.ofNat f) m = some (blv m.1 nl nw f, m) := by
  have hb := H.1.1
  have hi' : xin (Int32.ofNat f) 60 = true := o_in (by omega) (by omega)
  have hn' : (Int32.ofNat f).toNatClampNeg = f := o_nat (by omega)
  have e := c_blW H f (m.1 ag_facts_value f) nl 0 xfuel (m.1 ag_facts_value f) (chf m.1 nw f / 1000 + wfv m.1 nl f (m.1 ag_facts_value f)) (by omega) (by rw [xfuel_eq]; omega)
  rw [← o_zero] at e
  simp (decide := true) only [Option.bind_some, ↓reduceIte, xst_f, xst_k, xst_s, ne_eq, not_false_eq_true, not_true_eq_false, and_self, and_true, true_and, and_false, false_and, or_true, true_or, or_false, false_or, F_X9_beliefOf, hi', hn', c_chanceOfW ht H hf, c_weightForW H f, e, blv]
theorem m_believesW (ht : t ≤ 600) (H : xRelW t nf nw nl tp m.1) {f : Nat} (hf : f < nf) : F_X10_believes (Int32.ofNat f) m = some (blv m.1 nl nw f, m) := by
  have hb := H.1.1
  have hi' : xin (Int32.ofNat f) 60 = true := o_in (by omega) (by omega)
  have hn' : (Int32.ofNat f).toNatClampNeg = f := o_nat (by omega)
  obtain ⟨-, -, ⟨p3, -⟩, -⟩ := H.2.1 f hf
  have c := chf_rgW ht H hf
  have c' := d1000 c.1 c.2
  have w := wf_rgW H f (m.1 ag_facts_value f)
  have e := m_blW ht H hf nl 0 xfuel (m.1 ag_facts_value f) (chf m.1 nw f / 1000 + wfv m.1 nl f (m.1 ag_facts_value f)) (-1) (by omega) (by rw [xfuel_eq]; omega) (i_0.mpr (by rw [i_add (by omega) (by omega)]; omega)) (Or.inr ⟨rfl, by unfold hdv; rw [if_pos rfl]⟩)
  rw [← o_zero] at e
  simp (decide := true) only [Option.bind_some, ↓reduceIte, xst_f, xst_k, xst_s, ne_eq, not_false_eq_true, not_true_eq_false, and_self, and_true, true_and, and_false, false_and, or_true, true_or, or_false, false_or, F_X10_believes, hi', hn', ← p3, e, blv]
theorem c_cnW {m : xMem} (H : xRelW t nf nw nl tp m.1) (p : Nat) : ∀ (k a fk : Nat), a + k = nf → k < fk → L_X2_countOf_4 (Int32.ofNat p) fk (Int32.ofNat (xct (fun f => decide (m.1 ag_facts_place f = Int32.ofNat p)) a)) (Int32.ofNat a) m = some (Int32.ofNat (xct (fun f => decide (m.1 ag_facts_place f = Int32.ofNat p)) nf), m)
  | 0, a, fk + 1, h, _ => by
    obtain ⟨h1, h2, h3, h4, h5, h6, h7, h8, h9⟩ := id H
    have hb := h1.1
    obtain ⟨-, ⟨a1, a2⟩, ⟨b1, b2⟩, ⟨c1, c2⟩, e1, e2⟩ := id h1
    have q : Int32.ofNat nf ≤ Int32.ofNat a := (o_le (by omega) (by omega)).mpr (by omega)
    have ha : a = nf := by omega
    subst ha
    unfold L_X2_countOf_4
    rw [a1, if_pos q]
  | k + 1, a, fk + 1, h, hf => by
    have hrec := c_cnW H p k (a + 1) fk (by omega) (by omega)
    obtain ⟨h1, h2, h3, h4, h5, h6, h7, h8, h9⟩ := id H
    have hb := h1.1
    obtain ⟨-, ⟨a1, a2⟩, ⟨b1, b2⟩, ⟨c1, c2⟩, e1, e2⟩ := id h1
    have q : ¬ Int32.ofNat nf ≤ Int32.ofNat a := fun w => by have := (o_le (by omega) (by omega)).mp w; omega
    have hi : xin (Int32.ofNat a) 60 = true := o_in (by omega) (by omega)
    have hn : (Int32.ofNat a).toNatClampNeg = a := o_nat (by omega)
    rw [xct_s] at hrec
    by_cases g : m.1 ag_facts_place a = Int32.ofNat p
    · rw [decide_eq_true g] at hrec
      simp (decide := true) only [Option.bind_some, ↓reduceIte, xst_f, xst_k, xst_s, ne_eq, not_false_eq_true, not_true_eq_false, and_self, and_true, true_and, and_false, false_and, or_true, true_or, or_false, false_or, ← o_succ] at hrec
      simp (decide := true) only [Option.bind_some, ↓reduceIte, xst_f, xst_k, xst_s, ne_eq, not_false_eq_true, not_true_eq_false, and_self, and_true, true_and, and_false, false_and, or_true, true_or, or_false, false_or, L_X2_countOf_4, a1, q, hi, hn, g, J_X2_countOf_25, hrec]
    · rw [decide_eq_false g] at hrec
      simp (decide := true) only [Option.bind_some, ↓reduceIte, xst_f, xst_k, xst_s, ne_eq, not_false_eq_true, not_true_eq_false, and_self, and_true, true_and, and_false, false_and, or_true, true_or, or_false, false_or, ← o_succ, Bool.false_eq_true, Nat.add_zero] at hrec
      simp (decide := true) only [Option.bind_some, ↓reduceIte, xst_f, xst_k, xst_s, ne_eq, not_false_eq_true, not_true_eq_false, and_self, and_true, true_and, and_false, false_and, or_true, true_or, or_false, false_or, L_X2_countOf_4, a1, q, hi, hn, g, J_X2_countOf_25, hrec]
/-- rows of the class's scratch and the reference's -/
theorem c_starsOfW {m : xMem} (H : xRelW t nf nw nl tp m.1) {ls : List xLine} (hG : txG ls) (hC : txC m.1 41 42 43 44 ls) {p : Nat} (hp : p < 10) : ∃ m', F_X9_starsOf (Int32.ofNat p) m = some (stv (nmv m.1 nf p) ls, m') ∧ m'.2 = m.2 ∧ ∀ b j, b ≠ 45 → b ≠ 86 → m'.1 b j = m.1 b j := by
  have hb := H.1.1
  have i1 : xin (Int32.ofNat p) 10 = true := o_in (by omega) (by omega)
  have n1 : (Int32.ofNat p).toNatClampNeg = p := o_nat (by omega)
  obtain ⟨r, hr⟩ : ∃ r, r = dsc (m.1 (19 + p)) (scl m.1 p) 5 0 0 0 100 0 := ⟨_, rfl⟩
  have hr5 : r.1 ≤ 5 := by
    rw [hr]
    exact (m_ds (m := m) H.2.2.2.2.2.2.1 hp (c := fun _ _ _ _ _ => none) 5 0 xfuel 0 0 100 0 0 0 (by omega) (by decide) (by omega) (Or.inl ⟨rfl, rfl, rfl, rfl, rfl⟩)).2
  -- describe
  obtain ⟨I1, hI1⟩ : ∃ I1 : xI, I1 = xst (xst (xst (xst m.1 ag_named 0 (Int32.ofNat r.1)) ag_named 1 (if r.1 = 0 then 0 else r.2.1 / Int32.ofNat r.1)) ag_named 2 (if r.1 = 0 then 0 else r.2.2.1)) ag_named 3 r.2.2.2 := ⟨_, rfl⟩
  have hde : F_X4_describe (Int32.ofNat p) m = some (0, (I1, m.2)) := by
    unfold F_X4_describe
    refine Eq.trans (c_ds hp 5 0 xfuel 0 0 100 0 (by omega) (by decide)) ?_
    rw [← hr, hI1]
    have z0 : (0 : Int32).toNatClampNeg = 0 := rfl
    have z1 : (1 : Int32).toNatClampNeg = 1 := rfl
    have z2 : (2 : Int32).toNatClampNeg = 2 := rfl
    have z3 : (3 : Int32).toNatClampNeg = 3 := rfl
    have x0 : xin (0 : Int32) 6 = true := rfl
    have x1 : xin (1 : Int32) 6 = true := rfl
    have x2 : xin (2 : Int32) 6 = true := rfl
    have x3 : xin (3 : Int32) 6 = true := rfl
    by_cases w : r.1 = 0
    · have w' : Int32.ofNat r.1 = 0 := by rw [w]; rfl
      simp only [if_pos x0, if_pos x1, if_pos x2, if_pos x3, cut_v, Option.bind_some, if_pos w', if_pos w, z0, z1, z2, z3]
    · have w' : ¬ Int32.ofNat r.1 = 0 := fun u => w ((o_eq (b := 0) (by omega) (by omega)).mp u)
      simp only [if_pos x0, if_pos x1, if_pos x2, if_pos x3, cut_v, Option.bind_some, if_neg w', if_neg w, z0, z1, z2, z3]
  have fr1 : ∀ b j, b ≠ 86 → I1 b j = m.1 b j := by
    intro b j w
    rw [hI1, xst_n (a := ag_named) (fun u => w u.1), xst_n (a := ag_named) (fun u => w u.1), xst_n (a := ag_named) (fun u => w u.1), xst_n (a := ag_named) (fun u => w u.1)]
  have K1 : xKeep m (I1, m.2) := ⟨fun b j q => fr1 b j (fun w => by subst w; revert q; unfold xscr; simp), rfl⟩
  have hco : F_X2_countOf (Int32.ofNat p) (I1, m.2) = some (Int32.ofNat (xct (fun f => decide (m.1 ag_facts_place f = Int32.ofNat p)) nf), (I1, m.2)) := by
    have := c_cnW (m := (I1, m.2)) (H.keep K1) p nf 0 xfuel (by omega) (by rw [xfuel_eq]; omega)
    have er : (I1, m.2).1 ag_facts_place = m.1 ag_facts_place := funext fun j => fr1 _ j (by decide)
    rw [er, ← o_zero] at this
    exact this
  obtain ⟨pv, hpv⟩ : ∃ pv : Int32, pv = if m.1 ag_praised p = 0 then 0 else 1 := ⟨_, rfl⟩
  obtain ⟨I2, hI2⟩ : ∃ I2 : xI, I2 = xst (xst I1 ag_named 4 (Int32.ofNat (xct (fun f => decide (m.1 ag_facts_place f = Int32.ofNat p)) nf))) ag_named 5 pv := ⟨_, rfl⟩
  have fr2 : ∀ b j, b ≠ 86 → I2 b j = m.1 b j := by
    intro b j w
    rw [hI2, xst_n (a := ag_named) (fun u => w u.1), xst_n (a := ag_named) (fun u => w u.1), fr1 b j w]
  have hN : ∀ k, k < 6 → I2 86 k = nmv m.1 nf p k := by
    intro k hk
    have : k = 0 ∨ k = 1 ∨ k = 2 ∨ k = 3 ∨ k = 4 ∨ k = 5 := by omega
    rw [hI2, hI1]
    rcases this with e | e | e | e | e | e <;> subst e
    · unfold nmv; rw [← hr]; rfl
    · unfold nmv; rw [← hr]; rfl
    · unfold nmv; rw [← hr]; rfl
    · unfold nmv; rw [← hr]; rfl
    · rfl
    · unfold nmv; rw [← hpv]; rfl
  have hC2 : txC I2 41 42 43 44 ls := by
    refine ⟨(fr2 41 _ (by decide)).trans hC.1, fun i l hl => ?_⟩
    obtain ⟨a1, a2, a3⟩ := hC.2 i l hl
    exact ⟨(fr2 43 i (by decide)).trans a1, (fr2 44 i (by decide)).trans a2, fun j t ht => (fr2 42 _ (by decide)).trans (a3 j t ht)⟩
  obtain ⟨m', s1, s2, s3⟩ := c_sf (N := nmv m.1 nf p) hG ls.length 0 xfuel (I2, m.2) (by omega) (by rw [xfuel_eq]; have := hG.1; omega) hC2 hN
  refine ⟨m', ?_, s2, fun b j w1 w2 => (s3 b j w1).trans (fr2 b j w2)⟩
  have hsf : F_X6_starsFor (I2, m.2) = some (stv (nmv m.1 nf p) ls, m') := by
    unfold F_X6_starsFor
    rw [List.drop_zero, cAt_0] at s1
    exact s1
  have x4 : xin (4 : Int32) 6 = true := rfl
  have x5 : xin (5 : Int32) 6 = true := rfl
  have z4 : (4 : Int32).toNatClampNeg = 4 := rfl
  have z5 : (5 : Int32).toNatClampNeg = 5 := rfl
  have hpr : xst I1 ag_named 4 (Int32.ofNat (xct (fun f => decide (m.1 ag_facts_place f = Int32.ofNat p)) nf)) ag_praised p = m.1 ag_praised p := by
    rw [xst_f (b := ag_praised) (by decide)]
    exact fr1 _ p (by decide)
  unfold F_X9_starsOf
  rw [hde, Option.bind_some]
  dsimp only
  rw [hco, Option.bind_some]
  dsimp only
  rw [if_pos x4, if_pos i1, z4, z5, n1, hpr]
  by_cases w : m.1 ag_praised p = 0
  · rw [if_pos w] at hpv ⊢
    rw [hpv] at hI2
    rw [if_pos x5, ← hI2, hsf, Option.bind_some]
  · rw [if_neg w] at hpv ⊢
    rw [hpv] at hI2
    rw [if_pos x5, ← hI2, hsf, Option.bind_some]
theorem m_starsOfW {m : xMem} (H : xRelW t nf nw nl tp m.1) {ls : List xLine} {h : Nat} (hh : h = 0 ∨ h = 1) (hho : m.1 87 15 = Int32.ofNat h) (hG : txG ls) (hM : txM m.1 h ls) {p : Nat} (hp : p < 10) : ∃ m', F_X10_starsOf (Int32.ofNat p) m = some (stv (nmv m.1 nf p) ls, m') ∧ m'.2 = m.2 ∧ ∀ b j, b ≠ 101 → b ≠ 102 → m'.1 b j = m.1 b j := by
  obtain ⟨h1, h2, h3, h4, h5, h6, h7, h8, h9⟩ := id H
  have hb := h1.1
  obtain ⟨-, ⟨a1, a2⟩, ⟨b1, b2⟩, ⟨c1, c2⟩, e1, e2⟩ := id h1
  have i1 : xin (Int32.ofNat p) 10 = true := o_in (by omega) (by omega)
  have n1 : (Int32.ofNat p).toNatClampNeg = p := o_nat (by omega)
  obtain ⟨r, hr⟩ : ∃ r, r = dsc (m.1 (19 + p)) (scl m.1 p) 5 0 0 0 100 0 := ⟨_, rfl⟩
  have hds := fun c => m_ds (m := m) h7 hp (c := c) 5 0 xfuel 0 0 100 0 0 0 (by omega) (by decide) (by omega) (Or.inl ⟨rfl, rfl, rfl, rfl, rfl⟩)
  rw [← hr] at hds
  have hr5 : r.1 ≤ 5 := (hds (fun _ _ _ _ _ => none)).2
  obtain ⟨I1, hI1⟩ : ∃ I1 : xI, I1 = xst (xst (xst (xst (xst m.1 am_known 0 (Int32.ofNat r.1)) am_known 1 (if r.1 = 0 then 0 else r.2.1 / Int32.ofNat r.1)) am_known 2 (if r.1 = 0 then 0 else r.2.2.1)) am_known 3 r.2.2.2) am_known 4 0 := ⟨_, rfl⟩
  have fr1 : ∀ b j, b ≠ 101 → I1 b j = m.1 b j := by
    intro b j w
    rw [hI1, xst_n (a := am_known) (fun u => w u.1), xst_n (a := am_known) (fun u => w u.1), xst_n (a := am_known) (fun u => w u.1), xst_n (a := am_known) (fun u => w u.1), xst_n (a := am_known) (fun u => w u.1)]
  obtain ⟨P, hP⟩ : ∃ P, P = m.1 ag_facts_place := ⟨_, rfl⟩
  obtain ⟨m2, s1, s2, s3, s4⟩ := m_cn (nf := nf) (P := P) (by omega) p (c := fun m_109 => (
        if xin (Int32.ofNat p) 10 = true then (
        if (m_109.1 am_isPaid (Int32.ofNat p).toNatClampNeg) = 0 then (
          if xin (5 : Int32) 6 = true then (
          L_X10_starsOf_251 xfuel ((16 : Int32) * ((xst m_109.1 am_known (5 : Int32).toNatClampNeg (0 : Int32)) am fGuideBookModel_holds)) (xst m_109.1 am_known (5 : Int32).toNatClampNeg (0 : Int32), m_109.2))
          else none)
        else (
          if xin (5 : Int32) 6 = true then (
          L_X10_starsOf_251 xfuel ((16 : Int32) * ((xst m_109.1 am_known (5 : Int32).toNatClampNeg (1 : Int32)) am fGuideBookModel_holds)) (xst m_109.1 am_known (5 : Int32).toNatClampNeg (1 : Int32), m_109.2))
          else none))
        else none)) nf 0 xfuel (I1, m.2) (by omega) (by rw [xfuel_eq]; omega) ((fr1 87 25 (by decide)).trans a2) (fun i hi => by
    show I1 am_placeOf i = _
    rw [fr1 am_placeOf i (by decide), hP]
    exact ((h2 i hi).2.1.1).symm) (by show I1 101 4 = _; rw [hI1]; exact xst_s)
  obtain ⟨pv, hpv⟩ : ∃ pv : Int32, pv = if m.1 ag_praised p = 0 then 0 else 1 := ⟨_, rfl⟩
  obtain ⟨I3, hI3⟩ : ∃ I3 : xI, I3 = xst m2.1 am_known 5 pv := ⟨_, rfl⟩
  have fr3 : ∀ b j, b ≠ 101 → I3 b j = m.1 b j := by
    intro b j w
    rw [hI3, xst_n (a := am_known) (fun u => w u.1), s3 b j (fun u => w u.1)]
    exact fr1 b j w
  have hN : ∀ k, k < 6 → I3 101 k = nmv m.1 nf p k := by
    intro k hk
    have : k = 0 ∨ k = 1 ∨ k = 2 ∨ k = 3 ∨ k = 4 ∨ k = 5 := by omega
    rcases this with e | e | e | e | e | e <;> subst e
    · rw [hI3, xst_n (by decide), s3 _ _ (by decide)]; show I1 101 0 = _; rw [hI1]; unfold nmv; rw [← hr]; rfl
    · rw [hI3, xst_n (by decide), s3 _ _ (by decide)]; show I1 101 1 = _; rw [hI1]; unfold nmv; rw [← hr]; rfl
    · rw [hI3, xst_n (by decide), s3 _ _ (by decide)]; show I1 101 2 = _; rw [hI1]; unfold nmv; rw [← hr]; rfl
    · rw [hI3, xst_n (by decide), s3 _ _ (by decide)]; show I1 101 3 = _; rw [hI1]; unfold nmv; rw [← hr]; rfl
    · rw [hI3, xst_n (by decide), s4, hP]; rfl
    · rw [hI3]; unfold nmv; rw [← hpv]; exact xst_s
  have hM2 : txM I3 h ls := by
    refine ⟨(fr3 93 _ (by decide)).trans hM.1, fun i l hl => ?_⟩
    obtain ⟨a1, a2, a3, a4⟩ := hM.2 i l hl
    exact ⟨(fr3 94 _ (by decide)).trans a1, (fr3 95 _ (by decide)).trans a2, fun j t ht => ⟨(fr3 96 _ (by decide)).trans (a3 j t ht).1, (fr3 97 _ (by decide)).trans (a3 j t ht).2⟩, (fr3 96 _ (by decide)).trans a4⟩
  obtain ⟨m', u1, u2, u3⟩ := m_sf (N := nmv m.1 nf p) hh hG ls.length 0 xfuel (I3, m2.2) (by omega) (by rw [xfuel_eq]; have := hG.1; omega) ((fr3 87 15 (by decide)).trans hho) hM2 hN
  rw [List.drop_zero, Nat.add_zero] at u1
  refine ⟨m', ?_, by rw [u2, s2], fun b j w1 w2 => (u3 b j w2).trans (fr3 b j w1)⟩
  have hpd : m2.1 am_isPaid p = m.1 ag_praised p := by
    rw [s3 _ _ (fun w => absurd w.1 (by decide))]
    show I1 am_isPaid p = _
    rw [fr1 am_isPaid p (by decide)]
    exact (h8 p hp).symm
  have hx : ∀ v, xst m2.1 am_known 5 v am fGuideBookModel_holds = Int32.ofNat h := by
    intro v
    rw [xst_f (b := am) (by decide), s3 _ _ (fun w => absurd w.1 (by decide))]
    show I1 87 15 = _
    rw [fr1 87 15 (by decide)]
    exact hho
  have x5 : xin (5 : Int32) 6 = true := rfl
  have z5 : (5 : Int32).toNatClampNeg = 5 := rfl
  have s1' : L_X10_starsOf_182 (Int32.ofNat p) (fun m_109 => (
        if xin (Int32.ofNat p) 10 = true then (
        if (m_109.1 am_isPaid (Int32.ofNat p).toNatClampNeg) = 0 then (
          if xin (5 : Int32) 6 = true then (
          L_X10_starsOf_251 xfuel ((16 : Int32) * ((xst m_109.1 am_known (5 : Int32).toNatClampNeg (0 : Int32)) am fGuideBookModel_holds)) (xst m_109.1 am_known (5 : Int32).toNatClampNeg (0 : Int32), m_109.2))
          else none)
        else (
          if xin (5 : Int32) 6 = true then (
          L_X10_starsOf_251 xfuel ((16 : Int32) * ((xst m_109.1 am_known (5 : Int32).toNatClampNeg (1 : Int32)) am fGuideBookModel_holds)) (xst m_109.1 am_known (5 : Int32).toNatClampNeg (1 : Int32), m_109.2))
          else none))
        else none)) xfuel 0 (I1, m.2) = some (stv (nmv m.1 nf p) ls, m') := by
    refine Eq.trans s1 ?_
    rw [if_pos i1, n1, hpd, z5]
    by_cases w : m.1 ag_praised p = 0
    · rw [if_pos w] at hpv ⊢
      rw [hpv] at hI3
      rw [if_pos x5, hx, o_16, ← hI3]
      exact u1
    · rw [if_neg w] at hpv ⊢
      rw [hpv] at hI3
      rw [if_pos x5, hx, o_16, ← hI3]
      exact u1
  have z0 : (0 : Int32).toNatClampNeg = 0 := rfl
  have z1 : (1 : Int32).toNatClampNeg = 1 := rfl
  have z2 : (2 : Int32).toNatClampNeg = 2 := rfl
  have z3 : (3 : Int32).toNatClampNeg = 3 := rfl
  have z4 : (4 : Int32).toNatClampNeg = 4 := rfl
  have x0 : xin (0 : Int32) 6 = true := rfl
  have x1 : xin (1 : Int32) 6 = true := rfl
  have x2 : xin (2 : Int32) 6 = true := rfl
  have x3 : xin (3 : Int32) 6 = true := rfl
  have x4 : xin (4 : Int32) 6 = true := rfl
  unfold F_X10_starsOf
  refine Eq.trans (hds _).1 ?_
  by_cases w : r.1 = 0
  · have w' : Int32.ofNat r.1 = 0 := by rw [w]; rfl
    rw [if_pos w, if_pos w] at hI1
    rw [if_pos x0, if_pos w', if_pos x1, if_pos x2, if_pos x3, if_pos x4, z0, z1, z2, z3, z4, if_pos w, ← hI1]
    exact s1'
  · have w' : ¬ Int32.ofNat r.1 = 0 := fun u => w ((o_eq (b := 0) (by omega) (by omega)).mp u)
    rw [if_neg w, if_neg w] at hI1
    rw [if_pos x0, if_neg w', if_neg w', if_pos x1, if_pos x2, if_pos x3, if_pos x4, z0, z1, z2, z3, z4, if_neg w, ← hI1]
    exact s1'
end WW
