theorem ifc {p q : Prop} [Decidable p] [Decidable q] {a b : Int32} (h : p ↔ q) : (if p then a else b) = if q then a else b := by
  by_cases w : p
  · rw [if_pos w, if_pos (h.mp w)]
  · rw [if_neg w, if_neg (fun w' => w (h.mpr w'))]
theorem xct_up {P P' : Nat → Bool} {l : Nat} (h0 : P l = false) (h1 : P' l = true) : ∀ n, (∀ k, k < n → k ≠ l → P' k = P k) → l < n → xct P' n = xct P n + 1
  | 0, _, q => by omega
  | n + 1, h, q => by
    unfold xct
    by_cases e : n = l
    · subst e
      rw [xct_cg n (fun r hr => h r (by omega) (by omega)), h0, h1]
      simp
    · rw [xct_up h0 h1 n (fun r hr he => h r (by omega) he) (by omega), h n (by omega) e]
      omega
theorem o_pred {a : Nat} : Int32.ofNat (a + 1) - 1 = Int32.ofNat a := by rw [← o_succ]; grind
theorem tal_close {nl : Nat} {R Z Z' G B G' B' : Nat → Int32} {o : Int32} {a i : Nat} {q : Prop} [Decidable q] (H : P_tal nl R Z G B o) (ha : a < nl) (hi : i < 20) (hR : R a = Int32.ofNat i) (hz : Z a = 0) (hz' : ∀ l, l ≠ a → Z' l = Z l)
    (h1 : Z' a = if q then 1 else 2) (h2 : ∀ r, G' r = if q ∧ r = i then G r + 1 else G r) (h3 : ∀ r, B' r = if ¬ q ∧ r = i then B r + 1 else B r) : P_tal nl R Z' G' B' (o - 1) := by
  refine ⟨fun r hr => ?_, ?_⟩
  · obtain ⟨g1, g2⟩ := H.1 r hr
    have hne : r ≠ i → ¬ R a = Int32.ofNat r := fun e w => by
      rw [hR, o_eq (by omega) (by omega)] at w
      omega
    refine ⟨?_, ?_⟩
    · rw [h2, g1]
      by_cases w : q ∧ r = i
      · rw [if_pos w, o_succ]
        congr 1
        refine (xct_up (l := a) ?_ ?_ nl (fun k hk he => ?_) ha).symm
        · rw [hz]; simp
        · rw [h1, if_pos w.1, hR, w.2]; simp
        · rw [hz' k he]
      · rw [if_neg w]
        congr 1
        refine xct_cg nl (fun k hk => ?_)
        by_cases he : k = a
        · subst he
          rw [hz, h1]
          by_cases wq : q
          · have : ¬ R k = Int32.ofNat r := hne (fun e => w ⟨wq, e⟩)
            simp [this]
          · rw [if_neg wq]; simp
        · rw [hz' k he]
    · rw [h3, g2]
      by_cases w : ¬ q ∧ r = i
      · rw [if_pos w, o_succ]
        congr 1
        refine (xct_up (l := a) ?_ ?_ nl (fun k hk he => ?_) ha).symm
        · rw [hz]; simp
        · rw [h1, if_neg w.1, hR, w.2]; simp
        · rw [hz' k he]
      · rw [if_neg w]
        congr 1
        refine xct_cg nl (fun k hk => ?_)
        by_cases he : k = a
        · subst he
          rw [hz, h1]
          by_cases wq : q
          · rw [if_pos wq]; simp
          · have : ¬ R k = Int32.ofNat r := hne (fun e => w ⟨wq, e⟩)
            simp [this]
        · rw [hz' k he]
  · rw [H.2]
    have := xct_up (P := fun l => decide (Z' l = 0)) (P' := fun l => decide (Z l = 0)) (l := a) (by rw [h1]; by_cases wq : q <;> simp [wq]) (by rw [hz]; simp) nl (fun k hk he => by rw [hz' k he]) ha
    rw [this, o_pred]
section CK
variable {t nf nw nl ne tp : Nat} {n : Nat → Nat}
theorem c_close {m : xMem} {a i : Nat} (ha : a < 100) (hi : i < 20) (hR : m.1 ag_letters_reader a = Int32.ofNat i) (x : Int32) :
    F_X3_close (Int32.ofNat a) x m = some (0, (xst (xst (xst m.1 (if x = 0 then ag_letters_wrongOf else ag_letters_rightOf) i (m.1 (if x = 0 then ag_letters_wrongOf else ag_letters_rightOf) i + 1)) ag_letters_state a (if x = 0 then 2 else 1)) ag_letters fLetters_open (m.1 ag_letters fLetters_open - 1), m.2)) := by
  have i1 : xin (Int32.ofNat a) 100 = true := o_in (by omega) (by omega)
  have n1 : (Int32.ofNat a).toNatClampNeg = a := o_nat (by omega)
  have i2 : xin (Int32.ofNat i) 20 = true := o_in (by omega) (by omega)
  have n2 : (Int32.ofNat i).toNatClampNeg = i := o_nat (by omega)
  by_cases h : x = 0
  · simp (decide := true) only [Option.bind_some, ↓reduceIte, xst_f, xst_k, xst_s, ne_eq, not_false_eq_true, not_true_eq_false, and_self, and_true, true_and, and_false, false_and, or_true, true_or, or_false, false_or, F_X3_close, h, i1, n1, hR, i2, n2]
  · simp (decide := true) only [Option.bind_some, ↓reduceIte, xst_f, xst_k, xst_s, ne_eq, not_false_eq_true, not_true_eq_false, and_self, and_true, true_and, and_false, false_and, or_true, true_or, or_false, false_or, F_X3_close, h, i1, n1, hR, i2, n2]
theorem c_settle {f : Nat} {v : Int32} (hnl : nl ≤ 100) : ∀ (k a fk : Nat) (m : xMem), m.1 ag_letters fLetters_size = Int32.ofNat nl → (∀ l, l < nl → xrg (m.1 ag_letters_reader l) 0 19) → I_tal nl m.1 → a + k = nl → k < fk →
    ∃ m', L_X3_settle_2 (Int32.ofNat f) v fk (Int32.ofNat a) m = some (0, m') ∧ m'.2 = m.2 ∧ (∀ b j, ¬ (14 ≤ b ∧ b ≤ 16) → ¬ (b = 10 ∧ j = 7) → m'.1 b j = m.1 b j) ∧ (∀ l, m'.1 14 l = if a ≤ l ∧ l < nl ∧ opn m.1 f l = true then (if m.1 ag_letters_said l = v then 1 else 2) else m.1 14 l) ∧ I_tal nl m'.1
  | 0, a, fk + 1, m, h1, h2, h3, h, _ => by
    have q : Int32.ofNat nl ≤ Int32.ofNat a := (o_le (by omega) (by omega)).mpr (by omega)
    refine ⟨m, ?_, rfl, fun _ _ _ _ => rfl, fun l => ?_, h3⟩
    · simp (decide := true) only [Option.bind_some, ↓reduceIte, xst_f, xst_k, xst_s, ne_eq, not_false_eq_true, not_true_eq_false, and_self, and_true, true_and, and_false, false_and, or_true, true_or, or_false, false_or, L_X3_settle_2, h1, q]
    · rw [if_neg (by omega)]
  | k + 1, a, fk + 1, m, h1, h2, h3, h, hf => by
    have q : ¬ Int32.ofNat nl ≤ Int32.ofNat a := fun q => by have := (o_le (by omega) (by omega)).mp q; omega
    have hi : xin (Int32.ofNat a) 100 = true := o_in (by omega) (by omega)
    have hn : (Int32.ofNat a).toNatClampNeg = a := o_nat (by omega)
    have ha100 : a < 100 := by omega
    have d10 : ¬ ((1 : Int32) = 0) := by decide
    cases ho : opn m.1 f a with
    | false =>
      obtain ⟨m', e1, e2, e3, e4, e5⟩ := c_settle (f := f) (v := v) hnl k (a + 1) fk m h1 h2 h3 (by omega) (by omega)
      refine ⟨m', ?_, e2, e3, fun l => ?_, e5⟩
      · simp (decide := true) only [Option.bind_some, ↓reduceIte, xst_f, xst_k, xst_s, ne_eq, not_false_eq_true, not_true_eq_false, and_self, and_true, true_and, and_false, false_and, or_true, true_or, or_false, false_or, L_X3_settle_2, h1, q, c_open ha100, ho, Bool.false_eq_true, J_X3_settle_39, o_succ, e1]
      · rw [e4]
        by_cases el : l = a
        · subst el
          rw [if_neg (by omega), if_neg (by rw [ho]; simp)]
        · exact ifc ⟨fun w => ⟨by omega, w.2⟩, fun w => ⟨by omega, w.2⟩⟩
    | true =>
      obtain ⟨i, hi19, hie⟩ := g_rx (n := 19) (h2 a (by omega)) (by omega)
      have ho' : m.1 ag_letters_about a = Int32.ofNat f ∧ m.1 ag_letters_state a = 0 := of_decide_eq_true ho
      have step : ∀ x : Int32, (x = 0 ∨ x = 1) → (x = 1 ↔ m.1 ag_letters_said a = v) → ∃ m1, F_X3_close (Int32.ofNat a) x m = some (0, m1) ∧ ∃ m', L_X3_settle_2 (Int32.ofNat f) v fk (Int32.ofNat (a + 1)) m1 = some (0, m') ∧ m'.2 = m.2 ∧ (∀ b j, ¬ (14 ≤ b ∧ b ≤ 16) → ¬ (b = 10 ∧ j = 7) → m'.1 b j = m.1 b j) ∧ (∀ l, m'.1 14 l = if a ≤ l ∧ l < nl ∧ opn m.1 f l = true then (if m.1 ag_letters_said l = v then 1 else 2) else m.1 14 l) ∧ I_tal nl m'.1 := by
        intro x hx01 hx
        refine ⟨_, c_close ha100 (show i < 20 by omega) hie x, ?_⟩
        have hT : (if x = 0 then ag_letters_wrongOf else ag_letters_rightOf) = 15 ∨ (if x = 0 then ag_letters_wrongOf else ag_letters_rightOf) = 16 := by
          by_cases w : x = 0
          · rw [if_pos w]; exact Or.inr rfl
          · rw [if_neg w]; exact Or.inl rfl
        generalize hTT : (if x = 0 then ag_letters_wrongOf else ag_letters_rightOf) = TT at hT
        generalize hI1 : xst (xst (xst m.1 TT i (m.1 TT i + 1)) ag_letters_state a (if x = 0 then 2 else 1)) ag_letters fLetters_open (m.1 ag_letters fLetters_open - 1) = I1
        have fr : ∀ b j, ¬ (14 ≤ b ∧ b ≤ 16) → ¬ (b = 10 ∧ j = 7) → I1 b j = m.1 b j := by
          intro b j w1 w2
          rw [← hI1]
          rw [xst_n (a := ag_letters) (k := fLetters_open) (by exact w2), xst_n (a := ag_letters_state) (by intro w; exact w1 ⟨by rw [w.1]; decide, by rw [w.1]; decide⟩), xst_n (by intro w; omega)]
        have z14 : ∀ l, I1 14 l = if l = a then (if x = 0 then 2 else 1) else m.1 14 l := by
          intro l
          rw [← hI1, xst_f (a := ag_letters) (b := 14) (by decide)]
          by_cases w : l = a
          · subst w
            rw [if_pos rfl]
            exact xst_s
          · rw [if_neg w, xst_n (a := ag_letters_state) (b := 14) (by intro w'; exact w w'.2), xst_f (b := 14) (by omega)]
        have tl : I_tal nl I1 := by
          unfold I_tal
          have r11 : ∀ l, I1 ag_letters_reader l = m.1 ag_letters_reader l := fun l => fr _ l (by decide) (by intro w; exact absurd w.1 (by decide))
          rw [funext r11, show I1 ag_letters fLetters_open = m.1 ag_letters fLetters_open - 1 by rw [← hI1]; exact xst_s]
          refine tal_close (q := x = 1) (i := i) (a := a) h3 (by omega) (by omega) hie ho'.2 (fun l hl => by rw [show ag_letters_state = 14 from rfl, z14 l, if_neg hl]) ?_ (fun r => ?_) (fun r => ?_)
          · rw [show ag_letters_state = 14 from rfl, z14 a, if_pos rfl]
            rcases hx01 with w | w <;> subst w <;> rfl
          · rw [← hI1, xst_f (a := ag_letters) (b := ag_letters_rightOf) (by decide), xst_f (a := ag_letters_state) (b := ag_letters_rightOf) (by decide)]
            rcases hx01 with w | w <;> subst w
            · rw [if_neg (fun w => absurd w.1 (by decide)), ← hTT, if_pos rfl, xst_f (by decide)]
            · rw [← hTT, if_neg (by decide)]
              by_cases er : r = i
              · subst er
                rw [if_pos ⟨rfl, rfl⟩, xst_s]
              · rw [if_neg (fun w => er w.2), xst_n (fun w => er w.2)]
          · rw [← hI1, xst_f (a := ag_letters) (b := ag_letters_wrongOf) (by decide), xst_f (a := ag_letters_state) (b := ag_letters_wrongOf) (by decide)]
            rcases hx01 with w | w <;> subst w
            · rw [← hTT, if_pos rfl]
              by_cases er : r = i
              · subst er
                rw [if_pos ⟨by decide, rfl⟩, xst_s]
              · rw [if_neg (fun w => er w.2), xst_n (fun w => er w.2)]
            · rw [if_neg (fun w => w.1 rfl), ← hTT, if_neg (by decide), xst_f (by decide)]
        obtain ⟨m', e1, e2, e3, e4, e5⟩ := c_settle (f := f) (v := v) hnl k (a + 1) fk (I1, m.2) ((fr ag_letters fLetters_size (by decide) (by decide)).trans h1) (fun l hl => by
          have := fr ag_letters_reader l (by decide) (by intro w; exact absurd w.1 (by decide))
          show xrg (I1 ag_letters_reader l) 0 19
          rw [this]
          exact h2 l hl) tl (by omega) (by omega)
        refine ⟨m', e1, e2, fun b j w1 w2 => (e3 b j w1 w2).trans (fr b j w1 w2), fun l => ?_, e5⟩
        rw [e4]
        have es : I1 ag_letters_said l = m.1 ag_letters_said l := fr _ l (by decide) (by intro w; exact absurd w.1 (by decide))
        have ea : I1 ag_letters_about l = m.1 ag_letters_about l := fr _ l (by decide) (by intro w; exact absurd w.1 (by decide))
        show (if a + 1 ≤ l ∧ l < nl ∧ opn I1 f l = true then (if I1 ag_letters_said l = v then 1 else 2) else I1 14 l) = _
        rw [es, z14]
        by_cases el : l = a
        · subst el
          rw [if_neg (by omega), if_pos rfl]
          refine Eq.trans ?_ (if_pos ⟨Nat.le_refl _, by omega, ho⟩).symm
          rcases hx01 with w | w
          · rw [if_pos w, if_neg (fun w' => by have := hx.mpr w'; rw [w] at this; exact absurd this (by decide))]
          · rw [if_neg (by rw [w]; decide), if_pos (hx.mp w)]
        · have eo : opn I1 f l = opn m.1 f l := by
            unfold opn
            rw [ea, show ag_letters_state = 14 from rfl, z14 l, if_neg el]
          rw [eo, if_neg el]
          exact ifc ⟨fun w => ⟨by omega, w.2⟩, fun w => ⟨by omega, w.2⟩⟩
      by_cases g : m.1 ag_letters_said a = v
      · obtain ⟨m1, s1, m', s2, s3⟩ := step 1 (Or.inr rfl) ⟨fun _ => g, fun _ => rfl⟩
        refine ⟨m', ?_, s3⟩
        simp (decide := true) only [Option.bind_some, ↓reduceIte, xst_f, xst_k, xst_s, ne_eq, not_false_eq_true, not_true_eq_false, and_self, and_true, true_and, and_false, false_and, or_true, true_or, or_false, false_or, L_X3_settle_2, h1, q, c_open ha100, ho, d10, hi, hn, g, s1, J_X3_settle_39, o_succ, s2]
      · obtain ⟨m1, s1, m', s2, s3⟩ := step 0 (Or.inl rfl) ⟨fun w => absurd w (by decide), fun w => absurd w g⟩
        refine ⟨m', ?_, s3⟩
        simp (decide := true) only [Option.bind_some, ↓reduceIte, xst_f, xst_k, xst_s, ne_eq, not_false_eq_true, not_true_eq_false, and_self, and_true, true_and, and_false, false_and, or_true, true_or, or_false, false_or, L_X3_settle_2, h1, q, c_open ha100, ho, d10, hi, hn, g, s1, J_X3_settle_39, o_succ, s2]
end CK
