/-- the cells that only one call uses -/
def xscr (a k : Nat) : Bool := (31 ≤ a && a ≤ 40) || a == 45 || a == 81 || a == 86 || a == 89 || a == 90 || (98 ≤ a && a ≤ 102) || (119 ≤ a && a ≤ 121) || (a == 87 && (k == 0 || k == 3 || k == 7 || k == 8 || k == 16 || k == 17 || k == 18 || k == 43))
/-- the cells of the text that holds -/
def xtx (a k : Nat) : Bool := (41 ≤ a && a ≤ 44) || (93 ≤ a && a ≤ 97) || (a == 87 && k == 15)
def xKeep (m m' : xMem) : Prop := (∀ a k, xscr a k = false → m'.1 a k = m.1 a k) ∧ m'.2 92 = m.2 92
def xSameT (m m' : xMem) : Prop := (∀ a k, xtx a k = true → m'.1 a k = m.1 a k) ∧ m'.2 92 = m.2 92
theorem xKeep.refl (m : xMem) : xKeep m m := ⟨fun _ _ _ => rfl, rfl⟩
theorem xKeep.trans {a b c : xMem} (h : xKeep a b) (g : xKeep b c) : xKeep a c := ⟨fun x k q => (g.1 x k q).trans (h.1 x k q), g.2.trans h.2⟩
theorem xKeep.st {m m' : xMem} {a k : Nat} {v : Int32} (h : xKeep m m') (ha : xscr a k = true) : xKeep m (xst m'.1 a k v, m'.2) := by
  refine ⟨fun b j hb => ?_, h.2⟩
  show xst m'.1 a k v b j = _
  unfold xst
  rw [if_neg (fun q => by rw [q.1, q.2, ha] at hb; cases hb)]
  exact h.1 b j hb
theorem xKeep.sl {m m' : xMem} {a k : Nat} {v : Int64} (h : xKeep m m') (ha : a ≠ 92) : xKeep m (m'.1, xsl m'.2 a k v) := by
  refine ⟨h.1, ?_⟩
  show xsl m'.2 a k v 92 = _
  rw [xsl_f ha]
  exact h.2
theorem xKeep.row {m m' : xMem} (h : xKeep m m') {a : Nat} (ha : ∀ k, xscr a k = false) : m'.1 a = m.1 a := funext fun k => h.1 a k (ha k)
theorem xKeep.same {m m' : xMem} (h : xKeep m m') : xSameT m m' := by
  refine ⟨fun a k q => h.1 a k ?_, h.2⟩
  unfold xtx at q
  unfold xscr
  simp only [Bool.or_eq_true, Bool.and_eq_true, decide_eq_true_eq, beq_iff_eq] at q
  simp only [Bool.or_eq_false_iff, Bool.and_eq_false_iff, decide_eq_false_iff_not, beq_eq_false_iff_ne]
  omega
theorem xSameT.trans {a b c : xMem} (h : xSameT a b) (g : xSameT b c) : xSameT a c := ⟨fun x k q => (g.1 x k q).trans (h.1 x k q), g.2.trans h.2⟩
theorem xSameT.refl (m : xMem) : xSameT m m := ⟨fun _ _ _ => rfl, rfl⟩
theorem xSameT.st {m m' : xMem} {a k : Nat} {v : Int32} (h : xSameT m m') (ha : xtx a k = false) : xSameT m (xst m'.1 a k v, m'.2) := by
  refine ⟨fun b j hb => ?_, h.2⟩
  show xst m'.1 a k v b j = _
  unfold xst
  rw [if_neg (fun q => by rw [q.1, q.2, ha] at hb; cases hb)]
  exact h.1 b j hb
theorem xsc_n {a : Nat} (h : a < 31 ∨ (41 ≤ a ∧ a < 45) ∨ (46 ≤ a ∧ a < 81) ∨ (82 ≤ a ∧ a < 86) ∨ a = 88 ∨ (91 ≤ a ∧ a < 98) ∨ (103 ≤ a ∧ a < 119) ∨ 122 ≤ a) (k : Nat) : xscr a k = false := by
  unfold xscr
  simp only [Bool.or_eq_false_iff, Bool.and_eq_false_iff, decide_eq_false_iff_not, beq_eq_false_iff_ne]
  omega
theorem xRel.keep {t nf nw nl ne tp : Nat} {n : Nat → Nat} {m m' : xMem} (h : xKeep m m') (H : xRel t nf nw nl ne tp n m.1) : xRel t nf nw nl ne tp n m'.1 := by
  obtain ⟨h1, h2, h3, h4, h5, h6, h7, h8, h9, h10⟩ := H
  have R : ∀ a, (a < 31 ∨ (41 ≤ a ∧ a < 45) ∨ (46 ≤ a ∧ a < 81) ∨ (82 ≤ a ∧ a < 86) ∨ a = 88 ∨ (91 ≤ a ∧ a < 98) ∨ (103 ≤ a ∧ a < 119) ∨ 122 ≤ a) → m'.1 a = m.1 a := fun a ha => h.row (xsc_n ha)
  have Q : ∀ k, xscr am k = false → m'.1 am k = m.1 am k := fun k hk => h.1 am k hk
  refine ⟨?_, ?_, ?_, ?_, ?_, ?_, ?_, ?_, ?_, ?_⟩
  · unfold I_num
    rw [R ag_facts (by decide), R ag_letters (by decide), R ag_editions (by decide), R ag_tape (by decide), Q fGuideBookModel_facts rfl, Q fGuideBookModel_now rfl, Q fGuideBookModel_letters rfl, Q fGuideBookModel_editions rfl, Q fGuideBookModel_taped rfl]
    exact h1
  · unfold I_fact
    rw [R ag_facts_kind (by decide), R ag_facts_place (by decide), R ag_facts_value (by decide), R ag_facts_year (by decide), R ag_facts_length (by decide), R ag_facts_worth (by decide), R am_kindOf (by decide), R am_placeOf (by decide), R am_worthNow (by decide), R am_checkedOn (by decide), R am_lengths (by decide), R am_worths (by decide)]
    exact h2
  · unfold I_kind
    rw [R ag_facts_kindYears (by decide), R ag_facts_kindChanges (by decide), R am_kindYears (by decide), R am_kindChanges (by decide)]
    exact h3
  · unfold I_days
    rw [R ag_daysOf (by decide), R am_takes (by decide)]
    exact h4
  · unfold I_let
    rw [R ag_letters_reader (by decide), R ag_letters_about (by decide), R ag_letters_said (by decide), R ag_letters_state (by decide), R am_readers (by decide), R am_about (by decide), R am_says (by decide), R am_proofs (by decide)]
    exact h5
  · unfold I_tal
    rw [R ag_letters_reader (by decide), R ag_letters_state (by decide), R ag_letters_rightOf (by decide), R ag_letters_wrongOf (by decide), R ag_letters (by decide)]
    exact h6
  · unfold I_mark
    rw [R am_marks (by decide)]
    exact P_mark.mv (fun p hp => R (19 + p) (by omega)) h7
  · unfold I_paid
    rw [R ag_praised (by decide), R am_isPaid (by decide)]
    exact h8
  · unfold I_tape
    rw [R ag_tape_signs (by decide), R am_tape (by decide)]
    exact h9
  · unfold I_ed
    rw [R ag_editions_facts (by decide), R am_asPrinted (by decide), R am_proved (by decide), R am_starred (by decide)]
    exact P_ed.mv (fun p hp => ⟨R _ (by omega), R _ (by omega), R _ (by omega)⟩) h1.1.2.2.2.1 h10
theorem xct_le {P : Nat → Bool} : ∀ n, xct P n ≤ n
  | 0 => Nat.le_refl _
  | n + 1 => by
    have := xct_le (P := P) n
    unfold xct
    split <;> omega
theorem xct_cg {P Q : Nat → Bool} : ∀ n, (∀ k, k < n → P k = Q k) → xct P n = xct Q n
  | 0, _ => rfl
  | n + 1, h => by
    unfold xct
    rw [xct_cg n (fun k hk => h k (by omega)), h n (by omega)]
/-- t grows -/
theorem P_kind.up {t : Nat} {A A' B B' : Nat → Int32} (ht : t ≤ 600) (h : P_kind t A A' B B') : P_kind (t + 1) A A' B B' := by
  intro k hk
  obtain ⟨⟨h1, h2, h3⟩, h4, h5, h6⟩ := h k hk
  refine ⟨⟨h1, h2, ?_⟩, h4, h5, ?_⟩
  · refine Int32.le_trans h3 ?_
    rw [o_le (by omega) (by omega)]; omega
  · refine Int32.le_trans h6 ?_
    rw [o_le (by omega) (by omega)]; omega
theorem xRel.up {t nf nw nl ne tp : Nat} {n : Nat → Nat} {I : xI} (ht : t ≤ 600) (H : xRel t nf nw nl ne tp n I) : xRel (t + 1) nf nw nl ne tp n I :=
  ⟨H.1, H.2.1, P_kind.up ht H.2.2.1, H.2.2.2⟩
/-- class's call, then the reference's: the same answer, and all holds on -/
def xPair (f g : xMem → Option (Int32 × xMem)) (t : Nat) (m : xMem) : Prop :=
  ∃ v m1 m2, f m = some (v, m1) ∧ g m1 = some (v, m2) ∧ (∃ nf nw nl ne tp n, xRel (t + 1) nf nw nl ne tp n m2.1) ∧ xSameT m m2
theorem xPair.keep {f g : xMem → Option (Int32 × xMem)} {t : Nat} {m m1 m2 : xMem} {v : Int32} {nf nw nl ne tp : Nat} {n : Nat → Nat} (ht : t ≤ 600) (H : xRel t nf nw nl ne tp n m.1) (h1 : f m = some (v, m1)) (k1 : xKeep m m1) (h2 : g m1 = some (v, m2)) (k2 : xKeep m1 m2) : xPair f g t m :=
  ⟨v, m1, m2, h1, h2, ⟨nf, nw, nl, ne, tp, n, (H.keep (k1.trans k2)).up ht⟩, (k1.trans k2).same⟩
