section SN
variable {c : Nat → Nat} {tp : Nat}
/-- the class's arrays hold these tokens -/
def TA (I : xI) (ts : List xTk) : Prop := I 32 3 = Int32.ofNat ts.length ∧ ∀ j t, ts[j]? = some t → I 33 j = Int32.ofNat t.2.1 ∧ I 34 j = Int32.ofNat t.1 ∧ I 35 j = t.2.2
def tfr (m m' : xMem) : Prop := m'.2 = m.2 ∧ ∀ b j, ¬ (32 ≤ b ∧ b ≤ 35) → m'.1 b j = m.1 b j
theorem tfr.trans {x y z : xMem} (f : tfr x y) (g : tfr y z) : tfr x z := ⟨g.1.trans f.1, fun b j w => (g.2 b j w).trans (f.2 b j w)⟩
theorem tpS.mv {m m' : xMem} (f : tfr m m') (T : tpS c tp m.1) : tpS c tp m'.1 := ⟨(f.2 29 1 (by omega)).trans T.1, T.2.1, fun k hk => ⟨(f.2 30 k (by omega)).trans (T.2.2 k hk).1, (T.2.2 k hk).2⟩⟩
theorem sn_g {ts : List xTk} {t : xTk} {j : Nat} {u : xTk} (h : (ts ++ [t])[j]? = some u) : (j < ts.length ∧ ts[j]? = some u) ∨ (j = ts.length ∧ u = t) := by
  by_cases w : j < ts.length
  · rw [List.getElem?_append_left w] at h
    exact Or.inl ⟨w, h⟩
  · rw [List.getElem?_append_right (by omega)] at h
    have y0 : j - ts.length = 0 := by
      rcases Nat.eq_zero_or_pos (j - ts.length) with v | v
      · exact v
      · rw [List.getElem?_eq_none (by simp; omega)] at h; cases h
    rw [y0] at h
    exact Or.inr ⟨by omega, by simpa using h.symm⟩
theorem c_tadd {m : xMem} {ts : List xTk} (A : TA m.1 ts) (hl : ts.length ≤ 600) (k p : Nat) (v : Int32) : ∃ m', F_X8_add (Int32.ofNat k) (Int32.ofNat p) v m = some (0, m') ∧ tfr m m' ∧ TA m'.1 (ts ++ [(p, k, v)]) := by
  have a1 : m.1 ag_parser_tokens fTokens_size = Int32.ofNat ts.length := A.1
  have q : ¬ 600 < Int32.ofNat ts.length := fun w => by have := (o_lt (a := 600) (by omega) (by omega)).mp w; omega
  have i1 : xin (Int32.ofNat ts.length) 601 = true := o_in (by omega) (by omega)
  have n1 : (Int32.ofNat ts.length).toNatClampNeg = ts.length := o_nat (by omega)
  obtain ⟨I, hI⟩ : ∃ I : xI, I = xst (xst (xst (xst m.1 33 ts.length (Int32.ofNat k)) 34 ts.length (Int32.ofNat p)) 35 ts.length v) 32 3 (Int32.ofNat (ts.length + 1)) := ⟨_, rfl⟩
  have F : ∀ b j, ¬ (b = 32 ∧ j = 3) → ¬ (33 ≤ b ∧ b ≤ 35 ∧ j = ts.length) → I b j = m.1 b j := fun b j w1 w2 => by
    rw [hI, xst_n w1, xst_n (by omega), xst_n (by omega), xst_n (by omega)]
  refine ⟨(I, m.2), ?_, ⟨rfl, fun b j w => F b j (by omega) (by omega)⟩, ?_, fun j t ht => ?_⟩
  · rw [hI]
    simp (decide := true) only [Option.bind_some, ↓reduceIte, xst_f, xst_k, xst_s, ne_eq, not_false_eq_true, not_true_eq_false, and_self, and_true, true_and, and_false, false_and, or_true, true_or, or_false, false_or, F_X8_add, a1, q, i1, n1, o_succ]
  · show I 32 3 = _
    rw [List.length_append, List.length_singleton, hI]
    exact xst_s
  · show I 33 j = _ ∧ I 34 j = _ ∧ I 35 j = _
    rcases sn_g ht with ⟨w, u⟩ | ⟨w, u⟩
    · rw [F 33 j (by omega) (by omega), F 34 j (by omega) (by omega), F 35 j (by omega) (by omega)]
      exact A.2 j t u
    · rw [u, w, hI]
      dsimp only
      refine ⟨?_, ?_, ?_⟩
      · rw [xst_n (by omega), xst_n (by omega), xst_n (by omega)]; exact xst_s
      · rw [xst_n (by omega), xst_n (by omega)]; exact xst_s
      · rw [xst_n (by omega)]; exact xst_s
theorem nmb_rg {c : Nat → Nat} : ∀ k a v, (∀ j, a ≤ j → j < a + k → c j ≤ 57) → nmb c k a v ≤ (v + 1) * 10 ^ k - 1
  | 0, a, v, _ => by show v ≤ (v + 1) * 1 - 1; omega
  | k + 1, a, v, h => by
    have h1 := nmb_rg k (a + 1) (v * 10 + (c a - 48)) (fun j h1 h2 => h j (by omega) (by omega))
    have h2 := h a (by omega) (by omega)
    show nmb c k (a + 1) (v * 10 + (c a - 48)) ≤ _
    refine Nat.le_trans h1 ?_
    have : (v * 10 + (c a - 48) + 1) * 10 ^ k ≤ (v + 1) * 10 ^ (k + 1) := by
      rw [Nat.pow_succ, Nat.mul_comm (10 ^ k) 10, ← Nat.mul_assoc]
      exact Nat.mul_le_mul_right _ (by omega)
    omega
theorem c_num4 {m : xMem} (T : tpS c tp m.1) {a0 e : Nat} (he : e ≤ tp) {C : Int32 → xMem → Option (Int32 × xMem)} : ∀ (k a fk v : Nat), a + k = e → k < fk → (∀ j, a ≤ j → j < e → isd c j = true) → L_X8_addNumber_21 (Int32.ofNat a0) (Int32.ofNat e) C fk (Int32.ofNat v) (Int32.ofNat a) m = C (Int32.ofNat (nmb c k a v)) m
  | 0, a, fk + 1, v, h, _, _ => by
    have := T.2.1
    have q : Int32.ofNat e ≤ Int32.ofNat a := (o_le (by omega) (by omega)).mpr (by omega)
    unfold L_X8_addNumber_21
    rw [if_pos q]
    rfl
  | k + 1, a, fk + 1, v, h, hf, hd => by
    obtain ⟨t1, t2, t3⟩ := id T
    have q : ¬ Int32.ofNat e ≤ Int32.ofNat a := fun w => by have := (o_le (by omega) (by omega)).mp w; omega
    have i1 : xin (Int32.ofNat a) 600 = true := o_in (by omega) (by omega)
    have n1 : (Int32.ofNat a).toNatClampNeg = a := o_nat (by omega)
    obtain ⟨s1, s2⟩ := t3 a (by omega)
    have s1' : m.1 ag_tape_signs a = Int32.ofNat (c a) := s1
    have hda := of_decide_eq_true (hd a (by omega) (by omega))
    have e1 : Int32.ofNat v * 10 + (Int32.ofNat (c a) - 48) = Int32.ofNat (v * 10 + (c a - 48)) := by
      rw [show (10 : Int32) = Int32.ofNat 10 from rfl, show (48 : Int32) = Int32.ofNat 48 from rfl, o_mul, o_sub hda.1, o_add]
    unfold L_X8_addNumber_21
    rw [if_neg q, if_pos i1, n1, s1', e1, o_succ]
    exact c_num4 T he k (a + 1) fk _ (by omega) (by omega) (fun j h1 h2 => hd j (by omega) h2)
theorem c_addFrom {m : xMem} {ts : List xTk} (T : tpS c tp m.1) (A : TA m.1 ts) (hl : ts.length ≤ 600) {a : Nat} (ha : a < tp) : ∃ m', F_X8_addFrom (Int32.ofNat a) m = some (0, m') ∧ tfr m m' ∧ TA m'.1 (ts ++ [(tokA c tp a).1]) := by
  have t2 := T.2.1
  have d10 : ¬ ((1 : Int32) = 0) := by decide
  unfold F_X8_addFrom tokA
  rw [c_isL T ha, Option.bind_some]
  dsimp only
  by_cases w : isl c a = true
  · have hr := rend_le (p := isl c) (tp - a) a
    rw [if_pos w, if_neg d10, if_pos w]
    unfold F_X7_endOfLetters
    rw [c_eL T (tp - a) a xfuel (by omega) (by rw [xfuel_eq]; omega), Option.bind_some]
    dsimp only
    rw [c_wordToken T hr.1 (by omega), Option.bind_some]
    dsimp only
    obtain ⟨m', r1, r2, r3⟩ := c_tadd A hl (wcd (wl c (rend (isl c) (tp - a) a - a) a)) a 0
    rw [r1, Option.bind_some]
    exact ⟨m', rfl, r2, r3⟩
  · rw [if_neg w, if_pos rfl, if_neg w, c_isD T ha, Option.bind_some]
    dsimp only
    by_cases w2 : isd c a = true
    · have hr := rend_le (p := isd c) (tp - a) a
      rw [if_pos w2, if_neg d10, if_pos w2]
      unfold F_X7_endOfDigits
      rw [c_eD T (tp - a) a xfuel (by omega) (by rw [xfuel_eq]; omega), Option.bind_some]
      dsimp only
      unfold F_X8_addNumber
      rw [o_sub hr.1]
      have hin := fun j h1 h2 => rend_in (p := isd c) (tp - a) a j h1 h2
      generalize rend (isd c) (tp - a) a = e at *
      have l4 : (Int32.ofNat (e - a) ≤ 4) ↔ e - a ≤ 4 := o_le (b := 4) (by omega) (by omega)
      by_cases w4 : e - a ≤ 4
      · rw [if_pos (l4.mpr w4), if_pos w4]
        have hn := fun C => c_num4 (a0 := a) (C := C) T (show e ≤ tp by omega) (e - a) a xfuel 0 (by omega) (by rw [xfuel_eq]; omega) hin
        obtain ⟨m', r1, r2, r3⟩ := c_tadd A hl 2 a (Int32.ofNat (nmb c (e - a) a 0))
        refine ⟨m', ?_, r2, r3⟩
        rw [o_zero, hn, show (2 : Int32) = Int32.ofNat 2 from rfl, r1, Option.bind_some]
        rfl
      · rw [if_neg (fun u => w4 (l4.mp u)), if_neg w4]
        obtain ⟨m', r1, r2, r3⟩ := c_tadd A hl 1 a 0
        refine ⟨m', ?_, r2, r3⟩
        rw [show (1 : Int32) = Int32.ofNat 1 from rfl, r1, Option.bind_some]
        rfl
    · rw [if_neg w2, if_pos rfl, if_neg w2]
      obtain ⟨s1, s2⟩ := T.2.2 a ha
      have s1' : m.1 ag_tape_signs a = Int32.ofNat (c a) := s1
      have i1 : xin (Int32.ofNat a) 600 = true := o_in (by omega) (by omega)
      have n1 : (Int32.ofNat a).toNatClampNeg = a := o_nat (by omega)
      obtain ⟨k, hk⟩ : ∃ k, k = (if c a = 40 ∨ c a = 41 ∨ c a = 43 ∨ c a = 45 ∨ c a = 59 ∨ c a = 60 ∨ c a = 61 then c a else 1) := ⟨_, rfl⟩
      have hs : F_X8_signToken (Int32.ofNat (c a)) m = some (Int32.ofNat k, m) := by
        have e : ∀ x : Nat, x < 300 → ((Int32.ofNat (c a) = Int32.ofNat x) ↔ c a = x) := fun x hx => o_eq (by omega) (by omega)
        have y : ∀ x : Nat, x < 300 → c a = x → Int32.ofNat (c a) = Int32.ofNat x := fun x hx u => by rw [u]
        unfold F_X8_signToken
        rw [show (40 : Int32) = Int32.ofNat 40 from rfl, show (41 : Int32) = Int32.ofNat 41 from rfl, show (43 : Int32) = Int32.ofNat 43 from rfl, show (45 : Int32) = Int32.ofNat 45 from rfl, show (59 : Int32) = Int32.ofNat 59 from rfl, show (60 : Int32) = Int32.ofNat 60 from rfl, show (61 : Int32) = Int32.ofNat 61 from rfl, hk]
        by_cases g : c a = 40 ∨ c a = 41 ∨ c a = 43 ∨ c a = 45 ∨ c a = 59 ∨ c a = 60 ∨ c a = 61
        · rw [if_pos g]
          by_cases g40 : c a = 40
          · rw [if_pos (y 40 (by omega) g40)]
          rw [if_neg (fun u => g40 ((e 40 (by omega)).mp u))]
          by_cases g41 : c a = 41
          · rw [if_pos (y 41 (by omega) g41)]
          rw [if_neg (fun u => g41 ((e 41 (by omega)).mp u))]
          by_cases g43 : c a = 43
          · rw [if_pos (y 43 (by omega) g43)]
          rw [if_neg (fun u => g43 ((e 43 (by omega)).mp u))]
          by_cases g45 : c a = 45
          · rw [if_pos (y 45 (by omega) g45)]
          rw [if_neg (fun u => g45 ((e 45 (by omega)).mp u))]
          by_cases g59 : c a = 59
          · rw [if_pos (y 59 (by omega) g59)]
          rw [if_neg (fun u => g59 ((e 59 (by omega)).mp u))]
          by_cases g60 : c a = 60
          · rw [if_pos (y 60 (by omega) g60)]
          rw [if_neg (fun u => g60 ((e 60 (by omega)).mp u))]
          by_cases g61 : c a = 61
          · rw [if_pos (y 61 (by omega) g61)]
          exfalso
          omega
        · rw [if_neg g, if_neg (fun u => g (by have := (e 40 (by omega)).mp u; omega)), if_neg (fun u => g (by have := (e 41 (by omega)).mp u; omega)), if_neg (fun u => g (by have := (e 43 (by omega)).mp u; omega)), if_neg (fun u => g (by have := (e 45 (by omega)).mp u; omega)), if_neg (fun u => g (by have := (e 59 (by omega)).mp u; omega)), if_neg (fun u => g (by have := (e 60 (by omega)).mp u; omega)), if_neg (fun u => g (by have := (e 61 (by omega)).mp u; omega))]
          rfl
      rw [if_pos i1, n1, s1', hs, Option.bind_some]
      dsimp only
      rw [← hk]
      obtain ⟨m', r1, r2, r3⟩ := c_tadd A hl k a 0
      rw [r1, Option.bind_some]
      exact ⟨m', rfl, r2, r3⟩
/-- over a run's inside -/
theorem c_skip {m : xMem} (T : tpS c tp m.1) {C : xMem → Option (Int32 × xMem)} : ∀ (k a fk : Nat), a + k ≤ tp → (∀ j, a ≤ j → j < a + k → gon c j) → L_X8_scan_7 C (fk + k) (Int32.ofNat a) m = L_X8_scan_7 C fk (Int32.ofNat (a + k)) m
  | 0, a, fk, _, _ => rfl
  | k + 1, a, fk, h, hg => by
    have t2 := T.2.1
    have t1' : m.1 ag_tape fTape_length = Int32.ofNat tp := T.1
    have q : ¬ Int32.ofNat tp ≤ Int32.ofNat a := fun w => by have := (o_le (by omega) (by omega)).mp w; omega
    obtain ⟨v, s1, s2⟩ := c_starts T (show a < tp by omega)
    have v0 : v = 0 := s2.mpr (Or.inl (hg a (by omega) (by omega)))
    rw [show fk + (k + 1) = (fk + k) + 1 by omega, L_X8_scan_7, t1', if_neg q, s1, Option.bind_some]
    dsimp only
    rw [if_pos v0]
    unfold J_X8_scan_29
    rw [o_succ]
    have := c_skip T (C := C) k (a + 1) fk (by omega) (fun j h1 h2 => hg j (by omega) (by omega))
    rw [show a + 1 + k = a + (k + 1) by omega] at this
    exact this
theorem gon_b {a : Nat} (h : isl c a = false) (h' : isd c a = false) : ¬ gon c (a + 1) := by
  rintro (⟨-, -, w⟩ | ⟨-, -, w⟩)
  · rw [Nat.add_sub_cancel, h] at w; cases w
  · rw [Nat.add_sub_cancel, h'] at w; cases w
theorem isb_n {a : Nat} (h : isb c a = true) : isl c a = false ∧ isd c a = false := by
  have := of_decide_eq_true h
  exact ⟨decide_eq_false (by omega), decide_eq_false (by omega)⟩
theorem isl_d {a : Nat} (h : isl c a = true) : isd c a = false := by
  have := of_decide_eq_true h
  exact decide_eq_false (by omega)
theorem isd_l {a : Nat} (h : isd c a = true) : isl c a = false := by
  have := of_decide_eq_true h
  exact decide_eq_false (by omega)
theorem c_scn {C : xMem → Option (Int32 × xMem)} : ∀ (n a fk : Nat) (m : xMem) (ts : List xTk), tp ≤ a + n → a ≤ tp → tp - a < fk → tpS c tp m.1 → TA m.1 ts → ts.length ≤ a → (a < tp → ¬ gon c a) → ∃ m', L_X8_scan_7 C fk (Int32.ofNat a) m = C m' ∧ tfr m m' ∧ TA m'.1 (ts ++ tkl c tp n a)
  | n, a, fk, m, ts, hn, hat, hfk, T, A, hl, hg => by
    have t2 := T.2.1
    have t1' : m.1 ag_tape fTape_length = Int32.ofNat tp := T.1
    by_cases ha : a < tp
    · obtain ⟨n, rfl⟩ : ∃ k, n = k + 1 := ⟨n - 1, by omega⟩
      obtain ⟨fk, rfl⟩ : ∃ k, fk = k + 1 := ⟨fk - 1, by omega⟩
      have q : ¬ Int32.ofNat tp ≤ Int32.ofNat a := fun w => by have := (o_le (by omega) (by omega)).mp w; omega
      obtain ⟨v, s1, s2⟩ := c_starts T ha
      have etk : tkl c tp (n + 1) a = if tp ≤ a then [] else if isb c a then tkl c tp n (a + 1) else (tokA c tp a).1 :: tkl c tp n (tokA c tp a).2 := rfl
      rw [if_neg (show ¬ tp ≤ a by omega)] at etk
      by_cases wb : isb c a = true
      · rw [if_pos wb] at etk
        have v0 : v = 0 := s2.mpr (Or.inr wb)
        obtain ⟨m', r1, r2, r3⟩ := c_scn (C := C) n (a + 1) fk m ts (by omega) (by omega) (by omega) T A (by omega) (fun _ => gon_b (isb_n wb).1 (isb_n wb).2)
        refine ⟨m', ?_, r2, by rw [etk]; exact r3⟩
        rw [L_X8_scan_7, t1', if_neg q, s1, Option.bind_some]
        dsimp only
        rw [if_pos v0]
        unfold J_X8_scan_29
        rw [o_succ]
        exact r1
      · rw [if_neg wb] at etk
        have v0 : ¬ v = 0 := fun u => (s2.mp u).elim (hg ha) wb
        obtain ⟨m1, r1, r2, r3⟩ := c_addFrom T A (by omega) ha
        obtain ⟨x1, x2⟩ := tokA_nx (c := c) (tp := tp) ha
        have T1 := T.mv r2
        -- the run's inside, and its end
        have run : (∀ j, a + 1 ≤ j → j < (tokA c tp a).2 → gon c j) ∧ ((tokA c tp a).2 < tp → ¬ gon c (tokA c tp a).2) := by
          unfold tokA
          by_cases wl' : isl c a = true
          · rw [if_pos wl']
            dsimp only
            have hin := rend_in (p := isl c) (tp - a) a
            have hout := rend_out (p := isl c) (tp - a) a
            have hs := rend_s (p := isl c) (k := tp - a) (a := a) (by omega) wl'
            refine ⟨fun j h1 h2 => Or.inl ⟨hin j (by omega) h2, by omega, hin (j - 1) (by omega) (by omega)⟩, fun h3 => ?_⟩
            have o1 := hout (by omega)
            have o2 := hin (rend (isl c) (tp - a) a - 1) (by omega) (by omega)
            rintro (⟨w, -, -⟩ | ⟨-, -, w⟩)
            · rw [o1] at w; cases w
            · rw [isl_d o2] at w; cases w
          · rw [if_neg wl']
            by_cases wd : isd c a = true
            · rw [if_pos wd]
              dsimp only
              have hin := rend_in (p := isd c) (tp - a) a
              have hout := rend_out (p := isd c) (tp - a) a
              have hs := rend_s (p := isd c) (k := tp - a) (a := a) (by omega) wd
              refine ⟨fun j h1 h2 => Or.inr ⟨hin j (by omega) h2, by omega, hin (j - 1) (by omega) (by omega)⟩, fun h3 => ?_⟩
              have o1 := hout (by omega)
              have o2 := hin (rend (isd c) (tp - a) a - 1) (by omega) (by omega)
              rintro (⟨-, -, w⟩ | ⟨w, -, -⟩)
              · rw [isd_l o2] at w; cases w
              · rw [o1] at w; cases w
            · rw [if_neg wd]
              dsimp only
              exact ⟨fun j h1 h2 => by omega, fun _ => gon_b (by simpa using wl') (by simpa using wd)⟩
        generalize hE : (tokA c tp a).2 = e at *
        obtain ⟨m', u1, u2, u3⟩ := c_scn (C := C) n e (fk - (e - (a + 1))) m1 (ts ++ [(tokA c tp a).1]) (by omega) x2 (by omega) T1 r3 (by rw [List.length_append, List.length_singleton]; omega) run.2
        refine ⟨m', ?_, r2.trans u2, ?_⟩
        · rw [← u1, L_X8_scan_7, t1', if_neg q, s1, Option.bind_some]
          dsimp only
          rw [if_neg v0, r1, Option.bind_some]
          unfold J_X8_scan_29
          rw [o_succ]
          have := c_skip (C := C) T1 (e - (a + 1)) (a + 1) (fk - (e - (a + 1))) (by omega) (fun j h1 h2 => run.1 j h1 (by omega))
          rw [show fk - (e - (a + 1)) + (e - (a + 1)) = fk by omega, show a + 1 + (e - (a + 1)) = e by omega] at this
          exact this
        · rw [etk]
          rw [List.append_assoc] at u3
          exact u3
    · have e : a = tp := by omega
      subst e
      obtain ⟨fk, rfl⟩ : ∃ k, fk = k + 1 := ⟨fk - 1, by omega⟩
      have hz : tkl c a n a = [] := by
        cases n with
        | zero => rfl
        | succ n => show (if a ≤ a then [] else _) = []; rw [if_pos (Nat.le_refl _)]
      refine ⟨m, ?_, ⟨rfl, fun _ _ _ => rfl⟩, by rw [hz, List.append_nil]; exact A⟩
      rw [L_X8_scan_7, t1', if_pos (Int32.le_refl _)]
theorem c_scan {m : xMem} (T : tpS c tp m.1) : ∃ m', F_X8_scan m = some (0, m') ∧ tfr m m' ∧ TA m'.1 (tkl c tp tp 0 ++ [(tp, 0, 0)]) := by
  have t2 := T.2.1
  obtain ⟨m0, hm0⟩ : ∃ m0 : xMem, m0 = (xst m.1 32 3 0, m.2) := ⟨_, rfl⟩
  have f0 : tfr m m0 := ⟨by rw [hm0], fun b j w => by rw [hm0]; exact xst_n (by omega)⟩
  have T0 := T.mv f0
  have A0 : TA m0.1 [] := ⟨by rw [hm0]; show xst m.1 32 3 0 32 3 = _; rw [xst_s]; rfl, fun j t h => by cases h⟩
  obtain ⟨m1, r1, r2, r3⟩ := c_scn (C := fun m_7 => (F_X8_add ((0 : Int32)) (m_7.1 ag_tape fTape_length) ((0 : Int32)) m_7).bind fun q_8 => some (0, q_8.2)) tp 0 xfuel m0 [] (by omega) (by omega) (by rw [xfuel_eq]; omega) T0 A0 (by simp) (fun _ => by
    rintro (⟨-, w, -⟩ | ⟨-, w, -⟩) <;> omega)
  rw [List.nil_append] at r3
  have hlen := tkl_len (c := c) (tp := tp) tp 0 (by omega)
  obtain ⟨m2, s1, s2, s3⟩ := c_tadd r3 (by omega) 0 tp 0
  refine ⟨m2, ?_, f0.trans (r2.trans s2), s3⟩
  unfold F_X8_scan
  show L_X8_scan_7 _ xfuel 0 (xst m.1 32 3 0, m.2) = _
  rw [← hm0]
  refine Eq.trans r1 ?_
  have t1' : m1.1 ag_tape fTape_length = Int32.ofNat tp := (T0.mv r2).1
  rw [t1']
  show ((F_X8_add (Int32.ofNat 0) (Int32.ofNat tp) 0 m1).bind fun q_8 => some ((0 : Int32), q_8.2)) = _
  rw [s1, Option.bind_some]
end SN
