section ED
variable {t nf nw nl ne tp : Nat} {n : Nat → Nat}
theorem blv_cg {I J : xI} (h : ∀ a, a < 31 → J a = I a) (nl nw f : Nat) : blv J nl nw f = blv I nl nw f := by
  have e1 : opn J = opn I := by
    funext f l
    unfold opn
    rw [h ag_letters_about (by decide), h ag_letters_state (by decide)]
  have e2 : wtv J = wtv I := by
    funext r
    unfold wtv
    rw [h ag_letters_rightOf (by decide), h ag_letters_wrongOf (by decide)]
  have e3 : sy J = sy I := by
    funext f v r l
    unfold sy
    rw [e1, h ag_letters_reader (by decide), h ag_letters_said (by decide)]
  have e4 : wfv J nl f = wfv I nl f := by
    funext v
    unfold wfv
    rw [e2, e3]
  unfold blv
  rw [e1, e4, h ag_letters_said (by decide), h ag_facts_value (by decide), chf_cg (I := I) (h 2 (by decide)) (h 5 (by decide)) (h 8 (by decide)) (h 9 (by decide))]
theorem bl_rg {op : Nat → Bool} {S : Nat → Int32} {W : Int32 → Int32} {own : Int32} : ∀ (k a : Nat) (b s : Int32), 0 ≤ b → (∀ j, a ≤ j → j < a + k → 0 ≤ S j) → 0 ≤ bl op S W own k a b s
  | 0, _, _, _, h, _ => h
  | k + 1, a, b, s, h, hs => by
    have r := fun b s h => bl_rg (op := op) (S := S) (W := W) (own := own) k (a + 1) b s h (fun j h1 h2 => hs j (by omega) (by omega))
    have h0 := hs a (by omega) (by omega)
    unfold bl
    repeat' split
    all_goals first | exact r _ _ h | exact r _ _ h0
/-- what the relation without editions speaks of is as in I -/
def xrI (I : xI) (m : xMem) : Prop := ∀ a k, xrw a k = true → m.1 a k = I a k
theorem xrI.r {I : xI} {m : xMem} (h : xrI I m) {a : Nat} (ha : a < 31) : m.1 a = I a := funext fun k => h a k (by unfold xrw; simp [ha])
theorem c_ed1 {I : xI} (ht : t ≤ 600) (H : xRelW t nf nw nl tp I) {e : Nat} (he : e < 10) {c : xMem → Option (Int32 × xMem)} : ∀ (k a fk : Nat) (m : xMem), a + k = nf → k < fk → xrI I m → ∃ m', L_X9_edition_31 (Int32.ofNat e) c fk (Int32.ofNat a) m = c m' ∧ m'.2 = m.2 ∧ (∀ b j, b ≠ 48 + e → m'.1 b j = m.1 b j) ∧ (∀ f, f < nf → a ≤ f → m'.1 (48 + e) f = blv I nl nw f) ∧ ∀ f, f < a → m'.1 (48 + e) f = m.1 (48 + e) f
  | 0, a, fk + 1, m, h, _, hI => by
    have hW : xRelW t nf nw nl tp m.1 := H.cg hI
    have q : Int32.ofNat nf ≤ Int32.ofNat a := (o_le (by have := H.1.1; omega) (by have := H.1.1; omega)).mpr (by omega)
    refine ⟨m, ?_, rfl, fun _ _ _ => rfl, fun f h1 h2 => by omega, fun _ _ => rfl⟩
    unfold L_X9_edition_31
    rw [hW.1.2.1.1, if_pos q]
  | k + 1, a, fk + 1, m, h, hf, hI => by
    have hW : xRelW t nf nw nl tp m.1 := H.cg hI
    have hb := H.1.1
    have q : ¬ Int32.ofNat nf ≤ Int32.ofNat a := fun w => by have := (o_le (by omega) (by omega)).mp w; omega
    have i1 : xin (Int32.ofNat e) 10 = true := o_in (by omega) (by omega)
    have n1 : (Int32.ofNat e).toNatClampNeg = e := o_nat (by omega)
    have i2 : xin (Int32.ofNat a) 60 = true := o_in (by omega) (by omega)
    have n2 : (Int32.ofNat a).toNatClampNeg = a := o_nat (by omega)
    have hbl := c_beliefOfW ht hW (show a < nf by omega)
    rw [blv_cg (I := I) (fun a ha => hI.r ha)] at hbl
    have fr : ∀ b j, ¬ (b = 48 + e ∧ j = a) → xst m.1 (48 + e) a (blv I nl nw a) b j = m.1 b j := fun b j w => xst_n w
    obtain ⟨m', r1, r2, r3, r4, r5⟩ := c_ed1 ht H he (c := c) k (a + 1) fk (xst m.1 (48 + e) a (blv I nl nw a), m.2) (by omega) (by omega) (fun b j w => (fr b j (fun u => by
      rw [u.1] at w
      revert w
      unfold xrw
      simp only [Bool.or_eq_true, Bool.and_eq_true, decide_eq_true_eq, beq_iff_eq]
      omega)).trans (hI b j w))
    refine ⟨m', ?_, r2, fun b j w => (r3 b j w).trans (fr b j (fun u => w u.1)), fun f h1 h2 => ?_, fun f h1 => (r5 f (by omega)).trans (fr _ _ (by omega))⟩
    · rw [← r1, L_X9_edition_31]
      simp (decide := true) only [Option.bind_some, ↓reduceIte, xst_f, xst_k, xst_s, ne_eq, not_false_eq_true, not_true_eq_false, and_self, and_true, true_and, and_false, false_and, or_true, true_or, or_false, false_or, hW.1.2.1.1, q, i1, n1, hbl, i2, n2, o_succ]
    · by_cases w : f = a
      · subst w
        rw [r5 f (by omega)]
        exact xst_s
      · exact r4 f h1 (by omega)
theorem c_ed2 {I : xI} (H : xRelW t nf nw nl tp I) {ls : List xLine} (hG : txG ls) (hC : txC I 41 42 43 44 ls) {e : Nat} (he : e < 10) : ∀ (k a fk : Nat) (m : xMem), a + k = 10 → k < fk → xrI I m → (∀ b j, 41 ≤ b → b ≤ 44 → m.1 b j = I b j) → ∃ m', L_X9_edition_66 (Int32.ofNat e) fk (Int32.ofNat a) m = some (Int32.ofNat e, m') ∧ m'.2 = m.2 ∧ (∀ b j, b ≠ 70 + e → b ≠ 45 → b ≠ 86 → m'.1 b j = m.1 b j) ∧ (∀ p, p < 10 → a ≤ p → m'.1 (70 + e) p = stv (nmv I nf p) ls) ∧ ∀ p, p < a → m'.1 (70 + e) p = m.1 (70 + e) p
  | 0, a, fk + 1, m, h, _, hI, _ => by
    have q : 10 ≤ Int32.ofNat a := (o_le (a := 10) (by omega) (by omega)).mpr (by omega)
    refine ⟨m, ?_, rfl, fun _ _ _ _ _ => rfl, fun f h1 h2 => by omega, fun _ _ => rfl⟩
    unfold L_X9_edition_66
    rw [if_pos q]
  | k + 1, a, fk + 1, m, h, hf, hI, hT => by
    have hW : xRelW t nf nw nl tp m.1 := H.cg hI
    have hb := H.1.1
    have q : ¬ 10 ≤ Int32.ofNat a := fun w => by have := (o_le (a := 10) (by omega) (by omega)).mp w; omega
    have i1 : xin (Int32.ofNat e) 10 = true := o_in (by omega) (by omega)
    have n1 : (Int32.ofNat e).toNatClampNeg = e := o_nat (by omega)
    have i2 : xin (Int32.ofNat a) 10 = true := o_in (by omega) (by omega)
    have n2 : (Int32.ofNat a).toNatClampNeg = a := o_nat (by omega)
    have hCm : txC m.1 41 42 43 44 ls := by
      refine ⟨(hT 41 _ (by omega) (by omega)).trans hC.1, fun i l hl => ?_⟩
      obtain ⟨a1, a2, a3⟩ := hC.2 i l hl
      exact ⟨(hT 43 i (by omega) (by omega)).trans a1, (hT 44 i (by omega) (by omega)).trans a2, fun j t ht => (hT 42 _ (by omega) (by omega)).trans (a3 j t ht)⟩
    obtain ⟨m1, s1, s2, s3⟩ := c_starsOfW hW hG hCm (show a < 10 by omega)
    rw [nmv_cg (I := I) (fun a ha => hI.r ha) (funext fun k => hI 85 k rfl) (show a < 10 by omega)] at s1
    have fr : ∀ b j, ¬ (b = 70 + e ∧ j = a) → b ≠ 45 → b ≠ 86 → xst m1.1 (70 + e) a (stv (nmv I nf a) ls) b j = m.1 b j := fun b j w w1 w2 => (xst_n w).trans (s3 b j w1 w2)
    obtain ⟨m', r1, r2, r3, r4, r5⟩ := c_ed2 H hG hC he k (a + 1) fk (xst m1.1 (70 + e) a (stv (nmv I nf a) ls), m1.2) (by omega) (by omega) (fun b j w => (fr b j (fun u => by
      rw [u.1] at w
      revert w
      unfold xrw
      simp only [Bool.or_eq_true, Bool.and_eq_true, decide_eq_true_eq, beq_iff_eq]
      omega) (fun u => by subst u; revert w; unfold xrw; simp) (fun u => by subst u; revert w; unfold xrw; simp)).trans (hI b j w)) (fun b j w1 w2 => (fr b j (by omega) (by omega) (by omega)).trans (hT b j w1 w2))
    refine ⟨m', ?_, by rw [r2]; exact s2, fun b j w w1 w2 => (r3 b j w w1 w2).trans (fr b j (fun u => w u.1) w1 w2), fun p h1 h2 => ?_, fun p h1 => ?_⟩
    · rw [← r1, L_X9_edition_66]
      simp (decide := true) only [Option.bind_some, ↓reduceIte, xst_f, xst_k, xst_s, ne_eq, not_false_eq_true, not_true_eq_false, and_self, and_true, true_and, and_false, false_and, or_true, true_or, or_false, false_or, q, i1, n1, s1, i2, n2, o_succ]
    · by_cases w : p = a
      · subst w
        rw [r5 p (by omega)]
        exact xst_s
      · exact r4 p h1 (by omega)
    · rw [r5 p (by omega)]
      exact fr _ _ (by omega) (by omega) (by omega)
theorem m_ed1 {I : xI} (ht : t ≤ 600) (H : xRelW t nf nw nl tp I) {e : Nat} (he : e < 10) {c : xMem → Option (Int32 × xMem)} : ∀ (k a fk : Nat) (m : xMem), a + k = 60 → k < fk → xrI I m → m.1 87 47 = Int32.ofNat e → ∃ m', L_X10_edition_18 c fk (Int32.ofNat a) m = c m' ∧ m'.2 = m.2 ∧ (∀ b j, ¬ ((b = 122 ∨ b = 123) ∧ 60 * e + a ≤ j ∧ j < 60 * e + 60) → m'.1 b j = m.1 b j) ∧ (∀ f, f < 60 → a ≤ f → m'.1 122 (60 * e + f) = (if f < nf then blv I nl nw f else -1) ∧ m'.1 123 (60 * e + f) = 0)
  | 0, a, fk + 1, m, h, _, hI, hE => by
    have q : 60 ≤ Int32.ofNat a := (o_le (a := 60) (by omega) (by omega)).mpr (by omega)
    refine ⟨m, ?_, rfl, fun _ _ _ => rfl, fun f h1 h2 => by omega⟩
    unfold L_X10_edition_18
    rw [if_pos q]
  | k + 1, a, fk + 1, m, h, hf, hI, hE => by
    have hW : xRelW t nf nw nl tp m.1 := H.cg hI
    have hb := H.1.1
    have q : ¬ 60 ≤ Int32.ofNat a := fun w => by have := (o_le (a := 60) (by omega) (by omega)).mp w; omega
    have i1 : xin (Int32.ofNat (60 * e + a)) 600 = true := o_in (by omega) (by omega)
    have n1 : (Int32.ofNat (60 * e + a)).toNatClampNeg = 60 * e + a := o_nat (by omega)
    have hE' : m.1 am fGuideBookModel_editions = Int32.ofNat e := hE
    have ha2 : m.1 am fGuideBookModel_facts = Int32.ofNat nf := hW.1.2.1.2
    have step : ∀ v, v = (if a < nf then blv I nl nw a else -1) → L_X10_edition_18 c (fk + 1) (Int32.ofNat a) m = L_X10_edition_18 c fk (Int32.ofNat (a + 1)) (xst (xst m.1 am_asPrinted (60 * e + a) v) am_proved (60 * e + a) 0, m.2) → ∃ m', L_X10_edition_18 c (fk + 1) (Int32.ofNat a) m = c m' ∧ m'.2 = m.2 ∧ (∀ b j, ¬ ((b = 122 ∨ b = 123) ∧ 60 * e + a ≤ j ∧ j < 60 * e + 60) → m'.1 b j = m.1 b j) ∧ (∀ f, f < 60 → a ≤ f → m'.1 122 (60 * e + f) = (if f < nf then blv I nl nw f else -1) ∧ m'.1 123 (60 * e + f) = 0) := by
      intro v hv hs
      have fr : ∀ b j, ¬ ((b = 122 ∨ b = 123) ∧ j = 60 * e + a) → xst (xst m.1 am_asPrinted (60 * e + a) v) am_proved (60 * e + a) 0 b j = m.1 b j := fun b j w => (xst_n (a := am_proved) (fun u => w ⟨Or.inr u.1, u.2⟩)).trans (xst_n (a := am_asPrinted) (fun u => w ⟨Or.inl u.1, u.2⟩))
      obtain ⟨m', r1, r2, r3, r4⟩ := m_ed1 ht H he (c := c) k (a + 1) fk (xst (xst m.1 am_asPrinted (60 * e + a) v) am_proved (60 * e + a) 0, m.2) (by omega) (by omega) (fun b j w => (fr b j (fun u => by
        rcases u.1 with u1 | u1 <;> subst u1 <;> revert w <;> unfold xrw <;> simp)).trans (hI b j w)) ((fr 87 47 (by omega)).trans hE)
      refine ⟨m', hs.trans r1, r2, fun b j w => (r3 b j (by omega)).trans (fr b j (by omega)), fun f h1 h2 => ?_⟩
      by_cases w : f = a
      · subst w
        rw [r3 122 _ (by omega), r3 123 _ (by omega)]
        refine ⟨?_, xst_s⟩
        show xst (xst m.1 am_asPrinted (60 * e + f) v) am_proved (60 * e + f) 0 122 (60 * e + f) = _
        rw [xst_f (a := am_proved) (b := 122) (by decide), ← hv]
        exact xst_s
      · exact r4 f h1 (by omega)
    by_cases g : a < nf
    · have qf : ¬ Int32.ofNat nf ≤ Int32.ofNat a := fun w => by have := (o_le (by omega) (by omega)).mp w; omega
      have hbl := m_believesW ht hW g
      rw [blv_cg (I := I) (fun a ha => hI.r ha)] at hbl
      refine step (blv I nl nw a) (by rw [if_pos g]) ?_
      rw [L_X10_edition_18]
      simp (decide := true) only [Option.bind_some, ↓reduceIte, xst_f, xst_k, xst_s, ne_eq, not_false_eq_true, not_true_eq_false, and_self, and_true, true_and, and_false, false_and, or_true, true_or, or_false, false_or, q, ha2, qf, hbl, hE', o_60, o_add, i1, n1, o_succ]
    · have qf : Int32.ofNat nf ≤ Int32.ofNat a := (o_le (by omega) (by omega)).mpr (by omega)
      refine step (-1) (by rw [if_neg g]) ?_
      rw [L_X10_edition_18]
      simp (decide := true) only [Option.bind_some, ↓reduceIte, xst_f, xst_k, xst_s, ne_eq, not_false_eq_true, not_true_eq_false, and_self, and_true, true_and, and_false, false_and, or_true, true_or, or_false, false_or, q, ha2, qf, hE', o_60, o_add, i1, n1, o_succ]
theorem m_ed2 {I : xI} (H : xRelW t nf nw nl tp I) {ls : List xLine} {h : Nat} (hh : h = 0 ∨ h = 1) (hho : I 87 15 = Int32.ofNat h) (hG : txG ls) (hM : txM I h ls) {e : Nat} (he : e < 10) {c : xMem → Option (Int32 × xMem)} : ∀ (k a fk : Nat) (m : xMem), a + k = 10 → k < fk → xrI I m → m.1 87 47 = Int32.ofNat e → m.1 87 15 = I 87 15 → (∀ b j, 93 ≤ b → b ≤ 97 → m.1 b j = I b j) → ∃ m', L_X10_edition_78 c fk (Int32.ofNat a) m = c m' ∧ m'.2 = m.2 ∧ (∀ b j, ¬ (b = 124 ∧ 10 * e + a ≤ j ∧ j < 10 * e + 10) → b ≠ 101 → b ≠ 102 → m'.1 b j = m.1 b j) ∧ (∀ p, p < 10 → a ≤ p → m'.1 124 (10 * e + p) = stv (nmv I nf p) ls)
  | 0, a, fk + 1, m, hk, _, hI, _, _, _ => by
    have q : 10 ≤ Int32.ofNat a := (o_le (a := 10) (by omega) (by omega)).mpr (by omega)
    refine ⟨m, ?_, rfl, fun _ _ _ _ _ => rfl, fun f h1 h2 => by omega⟩
    unfold L_X10_edition_78
    rw [if_pos q]
  | k + 1, a, fk + 1, m, hk, hf, hI, hE, hO, hT => by
    have hW : xRelW t nf nw nl tp m.1 := H.cg hI
    have hb := H.1.1
    have q : ¬ 10 ≤ Int32.ofNat a := fun w => by have := (o_le (a := 10) (by omega) (by omega)).mp w; omega
    have i1 : xin (Int32.ofNat (10 * e + a)) 100 = true := o_in (by omega) (by omega)
    have n1 : (Int32.ofNat (10 * e + a)).toNatClampNeg = 10 * e + a := o_nat (by omega)
    have hE' : m.1 am fGuideBookModel_editions = Int32.ofNat e := hE
    have hMm : txM m.1 h ls := by
      refine ⟨(hT 93 _ (by omega) (by omega)).trans hM.1, fun i l hl => ?_⟩
      obtain ⟨a1, a2, a3, a4⟩ := hM.2 i l hl
      exact ⟨(hT 94 _ (by omega) (by omega)).trans a1, (hT 95 _ (by omega) (by omega)).trans a2, fun j t ht => ⟨(hT 96 _ (by omega) (by omega)).trans (a3 j t ht).1, (hT 97 _ (by omega) (by omega)).trans (a3 j t ht).2⟩, (hT 96 _ (by omega) (by omega)).trans a4⟩
    obtain ⟨m1, s1, s2, s3⟩ := m_starsOfW hW hh (hO.trans hho) hG hMm (show a < 10 by omega)
    rw [nmv_cg (I := I) (fun a ha => hI.r ha) (funext fun k => hI 85 k rfl) (show a < 10 by omega)] at s1
    have fr : ∀ b j, ¬ (b = 124 ∧ j = 10 * e + a) → b ≠ 101 → b ≠ 102 → xst m1.1 am_starred (10 * e + a) (stv (nmv I nf a) ls) b j = m.1 b j := fun b j w w1 w2 => (xst_n w).trans (s3 b j w1 w2)
    obtain ⟨m', r1, r2, r3, r4⟩ := m_ed2 H hh hho hG hM he (c := c) k (a + 1) fk (xst m1.1 am_starred (10 * e + a) (stv (nmv I nf a) ls), m1.2) (by omega) (by omega) (fun b j w => (fr b j (fun u => by rw [u.1] at w; revert w; unfold xrw; simp) (fun u => by subst u; revert w; unfold xrw; simp) (fun u => by subst u; revert w; unfold xrw; simp)).trans (hI b j w)) ((fr 87 47 (by omega) (by omega) (by omega)).trans hE) ((fr 87 15 (by omega) (by omega) (by omega)).trans hO) (fun b j w1 w2 => (fr b j (by omega) (by omega) (by omega)).trans (hT b j w1 w2))
    refine ⟨m', ?_, by rw [r2]; exact s2, fun b j w w1 w2 => (r3 b j (by omega) w1 w2).trans (fr b j (by omega) w1 w2), fun p h1 h2 => ?_⟩
    · rw [← r1, L_X10_edition_78]
      simp (decide := true) only [Option.bind_some, ↓reduceIte, xst_f, xst_k, xst_s, ne_eq, not_false_eq_true, not_true_eq_false, and_self, and_true, true_and, and_false, false_and, or_true, true_or, or_false, false_or, q, s1, hE', o_10, o_add, i1, n1, o_succ]
    · by_cases w : p = a
      · subst w
        rw [r3 124 _ (by omega) (by omega) (by omega)]
        exact xst_s
      · exact r4 p h1 (by omega)
end ED
