section CFR
variable {t nf nw nl ne tp : Nat} {n : Nat → Nat} {I : xI} {a k : Nat} {v : Int32}
theorem xst_n {b j : Nat} (h : ¬ (b = a ∧ j = k)) : xst I a k v b j = I b j := by unfold xst; rw [if_neg h]
theorem c_num (h : ¬ (a = 1 ∧ (k = 8 ∨ k = 9)) ∧ ¬ (a = 10 ∧ k = 6) ∧ ¬ (a = 46 ∧ k = 4) ∧ ¬ (a = 29 ∧ k = 1) ∧ ¬ (a = 87 ∧ (k = 2 ∨ k = 24 ∨ k = 25 ∨ k = 36 ∨ k = 47))) (H : I_num nf nw nl ne tp I) : I_num nf nw nl ne tp (xst I a k v) := by
  unfold I_num
  rw [xst_n (b := ag_facts) (j := fFacts_size) (by show ¬ (1 = a ∧ 8 = k); omega), xst_n (b := ag_facts) (j := fFacts_now) (by show ¬ (1 = a ∧ 9 = k); omega), xst_n (b := ag_letters) (j := fLetters_size) (by show ¬ (10 = a ∧ 6 = k); omega), xst_n (b := ag_editions) (j := fEditions_size) (by show ¬ (46 = a ∧ 4 = k); omega), xst_n (b := ag_tape) (j := fTape_length) (by show ¬ (29 = a ∧ 1 = k); omega),
    xst_n (b := am) (j := fGuideBookModel_facts) (by show ¬ (87 = a ∧ 25 = k); omega), xst_n (b := am) (j := fGuideBookModel_now) (by show ¬ (87 = a ∧ 24 = k); omega), xst_n (b := am) (j := fGuideBookModel_letters) (by show ¬ (87 = a ∧ 36 = k); omega), xst_n (b := am) (j := fGuideBookModel_editions) (by show ¬ (87 = a ∧ 47 = k); omega), xst_n (b := am) (j := fGuideBookModel_taped) (by show ¬ (87 = a ∧ 2 = k); omega)]
  exact H
theorem c_fact (h : ¬ (2 ≤ a ∧ a ≤ 7) ∧ ¬ (103 ≤ a ∧ a ≤ 108)) (H : I_fact nf nw I) : I_fact nf nw (xst I a k v) := by
  unfold I_fact
  rw [xst_f (b := ag_facts_kind) (by show a ≠ 2; omega), xst_f (b := ag_facts_place) (by show a ≠ 3; omega), xst_f (b := ag_facts_value) (by show a ≠ 4; omega), xst_f (b := ag_facts_year) (by show a ≠ 5; omega), xst_f (b := ag_facts_length) (by show a ≠ 6; omega), xst_f (b := ag_facts_worth) (by show a ≠ 7; omega),
    xst_f (b := am_kindOf) (by show a ≠ 103; omega), xst_f (b := am_placeOf) (by show a ≠ 104; omega), xst_f (b := am_worthNow) (by show a ≠ 105; omega), xst_f (b := am_checkedOn) (by show a ≠ 106; omega), xst_f (b := am_lengths) (by show a ≠ 107; omega), xst_f (b := am_worths) (by show a ≠ 108; omega)]
  exact H
theorem c_kind (h : a ≠ 8 ∧ a ≠ 9 ∧ a ≠ 109 ∧ a ≠ 110) (H : I_kind t I) : I_kind t (xst I a k v) := by
  unfold I_kind
  rw [xst_f (b := ag_facts_kindYears) h.1, xst_f (b := ag_facts_kindChanges) h.2.1, xst_f (b := am_kindYears) h.2.2.1, xst_f (b := am_kindChanges) h.2.2.2]
  exact H
theorem c_days (h : a ≠ 84 ∧ a ≠ 111) (H : I_days I) : I_days (xst I a k v) := by
  unfold I_days
  rw [xst_f (b := ag_daysOf) h.1, xst_f (b := am_takes) h.2]
  exact H
theorem c_let (h : ¬ (11 ≤ a ∧ a ≤ 14) ∧ ¬ (113 ≤ a ∧ a ≤ 116)) (H : I_let nl I) : I_let nl (xst I a k v) := by
  unfold I_let
  rw [xst_f (b := ag_letters_reader) (by show a ≠ 11; omega), xst_f (b := ag_letters_about) (by show a ≠ 12; omega), xst_f (b := ag_letters_said) (by show a ≠ 13; omega), xst_f (b := ag_letters_state) (by show a ≠ 14; omega), xst_f (b := am_readers) (by show a ≠ 113; omega), xst_f (b := am_about) (by show a ≠ 114; omega), xst_f (b := am_says) (by show a ≠ 115; omega), xst_f (b := am_proofs) (by show a ≠ 116; omega)]
  exact H
theorem c_tal (h : a ≠ 11 ∧ ¬ (14 ≤ a ∧ a ≤ 16) ∧ ¬ (a = 10 ∧ k = 7)) (H : I_tal nl I) : I_tal nl (xst I a k v) := by
  unfold I_tal
  rw [xst_f (b := ag_letters_reader) h.1, xst_f (b := ag_letters_state) (by show a ≠ 14; omega), xst_f (b := ag_letters_rightOf) (by show a ≠ 15; omega), xst_f (b := ag_letters_wrongOf) (by show a ≠ 16; omega), xst_n (b := ag_letters) (j := fLetters_open) (by show ¬ (10 = a ∧ 7 = k); omega)]
  exact H
theorem c_mark (h : ¬ (19 ≤ a ∧ a ≤ 28) ∧ a ≠ 117) (H : I_mark I) : I_mark (xst I a k v) := by
  unfold I_mark
  rw [xst_f (b := am_marks) h.2]
  exact P_mark.mv (fun p hp => xst_f (by omega)) H
theorem c_paid (h : a ≠ 85 ∧ a ≠ 118) (H : I_paid I) : I_paid (xst I a k v) := by
  unfold I_paid
  rw [xst_f (b := ag_praised) h.1, xst_f (b := am_isPaid) h.2]
  exact H
theorem c_tape (h : a ≠ 30 ∧ a ≠ 88) (H : I_tape tp I) : I_tape tp (xst I a k v) := by
  unfold I_tape
  rw [xst_f (b := ag_tape_signs) h.1, xst_f (b := am_tape) h.2]
  exact H
theorem c_ed (hne : ne ≤ 10) (h : ¬ (48 ≤ a ∧ a ≤ 57) ∧ ¬ (59 ≤ a ∧ a ≤ 68) ∧ ¬ (70 ≤ a ∧ a ≤ 80) ∧ ¬ (122 ≤ a ∧ a ≤ 124)) (H : I_ed nf ne n I) : I_ed nf ne n (xst I a k v) := by
  unfold I_ed
  rw [xst_f (b := ag_editions_facts) (by show a ≠ 80; omega), xst_f (b := am_asPrinted) (by show a ≠ 122; omega), xst_f (b := am_proved) (by show a ≠ 123; omega), xst_f (b := am_starred) (by show a ≠ 124; omega)]
  exact P_ed.mv (fun p hp => ⟨xst_f (by omega), xst_f (by omega), xst_f (by omega)⟩) hne H
end CFR
section CFR2
variable {t nf nw nl ne tp : Nat} {n : Nat → Nat} {I : xI} {a k : Nat} {v : Int32}
theorem c_numr (h : a ≠ 1 ∧ a ≠ 10 ∧ a ≠ 46 ∧ a ≠ 29 ∧ a ≠ 87) (H : I_num nf nw nl ne tp I) : I_num nf nw nl ne tp (xst I a k v) := c_num ⟨fun q => h.1 q.1, fun q => h.2.1 q.1, fun q => h.2.2.1 q.1, fun q => h.2.2.2.1 q.1, fun q => h.2.2.2.2 q.1⟩ H
theorem c_talr (h : a ≠ 11 ∧ ¬ (14 ≤ a ∧ a ≤ 16) ∧ a ≠ 10) (H : I_tal nl I) : I_tal nl (xst I a k v) := c_tal ⟨h.1, h.2.1, fun q => h.2.2 q.1⟩ H
end CFR2
