/-! what holds between the class's cells and the reference's, at every call -/
/-- x lies in [a, b] -/
def xrg (x a b : Int32) : Prop := a ≤ x ∧ x ≤ b
/-- how many k below n have P -/
def xct (P : Nat → Bool) : Nat → Nat
  | 0 => 0
  | n + 1 => xct P n + (if P n then 1 else 0)
def P_fact (nf : Nat) (nw : Int32) (K K' P P' V V' Y Y' L L' W W' : Nat → Int32) : Prop :=
  ∀ i, i < nf → (K i = K' i ∧ xrg (K i) 0 5) ∧ (P i = P' i ∧ xrg (P i) 0 9) ∧ (V i = V' i ∧ xrg (V i) 0 9999) ∧ (Y i = Y' i ∧ xrg (Y i) 0 nw) ∧ (L i = L' i ∧ xrg (L i) 1 9) ∧ (W i = W' i ∧ xrg (W i) 0 999)
def P_kind (t : Nat) (A A' B B' : Nat → Int32) : Prop :=
  ∀ k, k < 6 → (A k = A' k ∧ xrg (A k) 0 (Int32.ofNat (99 * t))) ∧ (B k = B' k ∧ xrg (B k) 0 (Int32.ofNat t))
def P_days (A A' : Nat → Int32) : Prop := ∀ p, p < 10 → A p = A' p ∧ xrg (A p) 1 20
def P_let (nl : Nat) (R R' A A' S S' Z Z' : Nat → Int32) : Prop :=
  (∀ l, l < nl → (R l = R' l ∧ xrg (R l) 0 19) ∧ A l = A' l ∧ (S l = S' l ∧ xrg (S l) 0 9999)) ∧
  ∀ l, l < 100 → (Z l = Z' l ∧ xrg (Z l) 0 2) ∧ (nl ≤ l → Z l = 0)
def P_tal (nl : Nat) (R Z : Nat → Int32) (G B : Nat → Int32) (o : Int32) : Prop :=
  (∀ r, r < 20 → G r = Int32.ofNat (xct (fun l => decide (R l = Int32.ofNat r ∧ Z l = 1)) nl) ∧ B r = Int32.ofNat (xct (fun l => decide (R l = Int32.ofNat r ∧ Z l = 2)) nl)) ∧
  o = Int32.ofNat (xct (fun l => decide (Z l = 0)) nl)
def P_mark (I : xI) (M : Nat → Int32) : Prop := ∀ p, p < 10 → ∀ w, w < 5 → I (19 + p) w = M (5 * p + w) ∧ xrg (I (19 + p) w) (-1) 100
def P_paid (A A' : Nat → Int32) : Prop := ∀ p, p < 10 → A p = A' p
def P_tape (tp : Nat) (A A' : Nat → Int32) : Prop := ∀ k, k < tp → A k = A' k ∧ (A k = 10 ∨ xrg (A k) 32 126)
/-- n: the facts in each edition -/
def P_ed (nf ne : Nat) (n : Nat → Nat) (I : xI) (F Pr Pv St : Nat → Int32) : Prop :=
  (∀ e, e < ne → F e = Int32.ofNat (n e) ∧ n e ≤ nf ∧ (∀ f, f < 60 → ((f < n e → I (48 + e) f = Pr (60 * e + f) ∧ 0 ≤ Pr (60 * e + f)) ∧ (n e ≤ f → Pr (60 * e + f) = -1)) ∧ (I (59 + e) f = Pv (60 * e + f) ∧ xrg (I (59 + e) f) 0 2 ∧ (n e ≤ f → I (59 + e) f = 0))) ∧ ∀ p, p < 10 → I (70 + e) p = St (10 * e + p)) ∧
  ∀ e, ne ≤ e → e < 10 → ∀ f, f < 60 → I (59 + e) f = 0
/-- the numbers: facts, now, letters, editions, signs on the tape -/
def P_num (nf nw nl ne tp : Nat) (a a' b b' c c' d d' e e' : Int32) : Prop :=
  (nf ≤ 60 ∧ nw ≤ 99 ∧ nl ≤ 100 ∧ ne ≤ 10 ∧ tp ≤ 600) ∧ (a = Int32.ofNat nf ∧ a' = Int32.ofNat nf) ∧ (b = Int32.ofNat nw ∧ b' = Int32.ofNat nw) ∧ (c = Int32.ofNat nl ∧ c' = Int32.ofNat nl) ∧ (d = Int32.ofNat ne ∧ d' = Int32.ofNat ne) ∧ (e = Int32.ofNat tp ∧ e' = Int32.ofNat tp)
abbrev I_num (nf nw nl ne tp : Nat) (I : xI) : Prop := P_num nf nw nl ne tp (I ag_facts fFacts_size) (I am fGuideBookModel_facts) (I ag_facts fFacts_now) (I am fGuideBookModel_now) (I ag_letters fLetters_size) (I am fGuideBookModel_letters) (I ag_editions fEditions_size) (I am fGuideBookModel_editions) (I ag_tape fTape_length) (I am fGuideBookModel_taped)
abbrev I_fact (nf nw : Nat) (I : xI) : Prop := P_fact nf (Int32.ofNat nw) (I ag_facts_kind) (I am_kindOf) (I ag_facts_place) (I am_placeOf) (I ag_facts_value) (I am_worthNow) (I ag_facts_year) (I am_checkedOn) (I ag_facts_length) (I am_lengths) (I ag_facts_worth) (I am_worths)
abbrev I_kind (t : Nat) (I : xI) : Prop := P_kind t (I ag_facts_kindYears) (I am_kindYears) (I ag_facts_kindChanges) (I am_kindChanges)
abbrev I_days (I : xI) : Prop := P_days (I ag_daysOf) (I am_takes)
abbrev I_let (nl : Nat) (I : xI) : Prop := P_let nl (I ag_letters_reader) (I am_readers) (I ag_letters_about) (I am_about) (I ag_letters_said) (I am_says) (I ag_letters_state) (I am_proofs)
abbrev I_tal (nl : Nat) (I : xI) : Prop := P_tal nl (I ag_letters_reader) (I ag_letters_state) (I ag_letters_rightOf) (I ag_letters_wrongOf) (I ag_letters fLetters_open)
abbrev I_mark (I : xI) : Prop := P_mark I (I am_marks)
abbrev I_paid (I : xI) : Prop := P_paid (I ag_praised) (I am_isPaid)
abbrev I_tape (tp : Nat) (I : xI) : Prop := P_tape tp (I ag_tape_signs) (I am_tape)
abbrev I_ed (nf ne : Nat) (n : Nat → Nat) (I : xI) : Prop := P_ed nf ne n I (I ag_editions_facts) (I am_asPrinted) (I am_proved) (I am_starred)
/-- all but the text -/
def xRel (t nf nw nl ne tp : Nat) (n : Nat → Nat) (I : xI) : Prop :=
  I_num nf nw nl ne tp I ∧ I_fact nf nw I ∧ I_kind t I ∧ I_days I ∧ I_let nl I ∧ I_tal nl I ∧ I_mark I ∧ I_paid I ∧ I_tape tp I ∧ I_ed nf ne n I
/-- the rows of marks and editions are as they were -/
theorem P_mark.mv {I J : xI} {M : Nat → Int32} (h : ∀ p, p < 10 → J (19 + p) = I (19 + p)) (H : P_mark I M) : P_mark J M := by
  intro p hp w hw
  rw [h p hp]
  exact H p hp w hw
theorem P_ed.mv {nf ne : Nat} {n : Nat → Nat} {I J : xI} {F Pr Pv St : Nat → Int32} (h : ∀ p, p < 10 → J (48 + p) = I (48 + p) ∧ J (59 + p) = I (59 + p) ∧ J (70 + p) = I (70 + p)) (hne : ne ≤ 10) (H : P_ed nf ne n I F Pr Pv St) : P_ed nf ne n J F Pr Pv St := by
  refine ⟨fun e he => ?_, fun e h1 h2 f hf => ?_⟩
  · obtain ⟨g1, g2, g3⟩ := h e (by omega)
    rw [g1, g2, g3]
    exact H.1 e he
  · rw [(h e h2).2.1]
    exact H.2 e h1 h2 f hf
