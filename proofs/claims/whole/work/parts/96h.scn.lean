section SN
variable {c : Nat → Nat} {tp : Nat}
/-- the class's arrays hold these tokens -/
def TA (I : xI) (ts : List xTk) : Prop := I 32 3 = Int32.ofNat ts.length ∧ ∀ j t, ts[j]? = some t → I 33 j = Int32.ofNat t.2.1 ∧ I 34 j = Int32.ofNat t.1 ∧ I 35 j = t.2.2
def tfr (m m' : xMem) : Prop := m'.2 = m.2 ∧ ∀ b j, ¬ (32 ≤ b ∧ b ≤ 35) → m'.1 b j = m.1 b j
theorem tfr.trans {x y z : xMem} (f : tfr x y) (g : tfr y z) : tfr x z := ⟨g.1.trans f.1, fun b j w => (g.2 b j w).trans (f.2 b j w)⟩
theorem tpS.mv {m m' : xMem} (f : tfr m m') (T : tpS c tp m.1) : tpS c tp m'.1 := ⟨(f.2 29 1 (by omega)).trans T.1, T.2.1, fun k hk => ⟨(f.2 30 k (by omega)).trans (T.2.2 k hk).1, (T.2.2 k hk).2⟩⟩
theorem sn_g {ts : List xTk} {t : xTk} {j : Nat} {u : xTk} (h : (ts ++ [t])[j]? = some u) : (j < ts.length ∧ ts[j]? = some u) ∨ (j = ts.length ∧ u = t) := by
  by_cases w : j < ts.length
  · rw [List.getElem?_append_left w] at h
    exact Or.inl ⟨w, h⟩
  · rw [List.getElem?_append_right (by omega)] at h
    have y0 : j - ts.length = 0 := by
      rcases Nat.eq_zero_or_pos (j - ts.length) with v | v
      · exact v
      · rw [List.getElem?_eq_none (by simp; omega)] at h; cases h
    rw [y0] at h
    exact Or.inr ⟨by omega, by simpa using h.symm⟩
theorem c_tadd {m : xMem} {ts : List xTk} (A : TA m.1 ts) (hl : ts.length ≤ 600) (k p : Nat) (v : Int32) : ∃ m', F_X8_add (Int32.ofNat k) (Int32.ofNat p) v m = some (0, m') ∧ tfr m m' ∧ TA m'.1 (ts ++ [(p, k, v)]) := by
  have a1 : m.1 ag_parser_tokens fTokens_size = Int32.ofNat ts.length := A.1
  have q : ¬ 600 < Int32.ofNat ts.length := fun w => by have := (o_lt (a := 600) (by omega) (by omega)).mp w; omega
  have i1 : xin (Int32.ofNat ts.length) 601 = true := o_in (by omega) (by omega)
  have n1 : (Int32.ofNat ts.length).toNatClampNeg = ts.length := o_nat (by omega)
  obtain ⟨I, hI⟩ : ∃ I : xI, I = xst (xst (xst (xst m.1 33 ts.length (Int32.ofNat k)) 34 ts.length (Int32.ofNat p)) 35 ts.length v) 32 3 (Int32.ofNat (ts.length + 1)) := ⟨_, rfl⟩
  have F : ∀ b j, ¬ (b = 32 ∧ j = 3) → ¬ (33 ≤ b ∧ b ≤ 35 ∧ j = ts.length) → I b j = m.1 b j := fun b j w1 w2 => by
    rw [hI, xst_n w1, xst_n (by omega), xst_n (by omega), xst_n (by omega)]
  refine ⟨(I, m.2), ?_, ⟨rfl, fun b j w => F b j (by omega) (by omega)⟩, ?_, fun j t ht => ?_⟩
  · rw [hI]
    simp (decide := true) only [Option.bind_some, ↓reduceIte, xst_f, xst_k, xst_s, ne_eq, not_false_eq_true, not_true_eq_false, and_self, and_true, true_and, and_false, false_and, or_true, true_or, or_false, false_or, F_X8_add, a1, q, i1, n1, o_succ]
  · show I 32 3 = _
    rw [List.length_append, List.length_singleton, hI]
    exact xst_s
  · show I 33 j = _ ∧ I 34 j = _ ∧ I 35 j = _
    rcases sn_g ht with ⟨w, u⟩ | ⟨w, u⟩
    · rw [F 33 j (by omega) (by omega), F 34 j (by omega) (by omega), F 35 j (by omega) (by omega)]
      exact A.2 j t u
    · rw [u, w, hI]
      dsimp only
      refine ⟨?_, ?_, ?_⟩
      · rw [xst_n (by omega), xst_n (by omega), xst_n (by omega)]; exact xst_s
      · rw [xst_n (by omega), xst_n (by omega)]; exact xst_s
      · rw [xst_n (by omega)]; exact xst_s
theorem nmb_rg {c : Nat → Nat} : ∀ k a v, (∀ j, a ≤ j → j < a + k → c j ≤ 57) → nmb c k a v ≤ (v + 1) * 10 ^ k - 1
  | 0, a, v, _ => by show v ≤ (v + 1) * 1 - 1; omega
  | k + 1, a, v, h => by
    have h1 := nmb_rg k (a + 1) (v * 10 + (c a - 48)) (fun j h1 h2 => h j (by omega) (by omega))
    have h2 := h a (by omega) (by omega)
    show nmb c k (a + 1) (v * 10 + (c a - 48)) ≤ _
    refine Nat.le_trans h1 ?_
    have : (v * 10 + (c a - 48) + 1) * 10 ^ k ≤ (v + 1) * 10 ^ (k + 1) := by
      rw [Nat.pow_succ, Nat.mul_comm (10 ^ k) 10, ← Nat.mul_assoc]
      exact Nat.mul_le_mul_right _ (by omega)
    omega
theorem c_num4 {m : xMem} (T : tpS c tp m.1) {a0 e : Nat} (he : e ≤ tp) {C : Int32 → xMem → Option (Int32 × xMem)} : ∀ (k a fk v : Nat), a + k = e → k < fk → v * 10 ^ k < 1000000 → (∀ j, a ≤ j → j < e → isd c j = true) → L_X8_addNumber_21 (Int32.ofNat a0) (Int32.ofNat e) C fk (Int32.ofNat v) (Int32.ofNat a) m = C (Int32.ofNat (nmb c k a v)) m
  | 0, a, fk + 1, v, h, _, _, _ => by
    have := T.2.1
    have q : Int32.ofNat e ≤ Int32.ofNat a := (o_le (by omega) (by omega)).mpr (by omega)
    unfold L_X8_addNumber_21
    rw [if_pos q]
    rfl
  | k + 1, a, fk + 1, v, h, hf, hv, hd => by
    obtain ⟨t1, t2, t3⟩ := id T
    have q : ¬ Int32.ofNat e ≤ Int32.ofNat a := fun w => by have := (o_le (by omega) (by omega)).mp w; omega
    have i1 : xin (Int32.ofNat a) 600 = true := o_in (by omega) (by omega)
    have n1 : (Int32.ofNat a).toNatClampNeg = a := o_nat (by omega)
    obtain ⟨s1, s2⟩ := t3 a (by omega)
    have s1' : m.1 ag_tape_signs a = Int32.ofNat (c a) := s1
    have hda := of_decide_eq_true (hd a (by omega) (by omega))
    have e1 : Int32.ofNat v * 10 + (Int32.ofNat (c a) - 48) = Int32.ofNat (v * 10 + (c a - 48)) := by
      rw [show (10 : Int32) = Int32.ofNat 10 from rfl, show (48 : Int32) = Int32.ofNat 48 from rfl, o_mul, o_sub hda.1, o_add]
    unfold L_X8_addNumber_21
    rw [if_neg q, if_pos i1, n1, s1', e1, o_succ]
    sorry
theorem c_addFrom {m : xMem} {ts : List xTk} (T : tpS c tp m.1) (A : TA m.1 ts) (hl : ts.length ≤ 600) {a : Nat} (ha : a < tp) : ∃ m', F_X8_addFrom (Int32.ofNat a) m = some (0, m') ∧ tfr m m' ∧ TA m'.1 (ts ++ [(tokA c tp a).1]) := by
  have t2 := T.2.1
  have d10 : ¬ ((1 : Int32) = 0) := by decide
  unfold F_X8_addFrom tokA
  rw [c_isL T ha, Option.bind_some]
  dsimp only
  by_cases w : isl c a = true
  · have hr := rend_le (p := isl c) (tp - a) a
    rw [if_pos w, if_neg d10, if_pos w]
    unfold F_X7_endOfLetters
    rw [c_eL T (tp - a) a xfuel (by omega) (by rw [xfuel_eq]; omega), Option.bind_some]
    dsimp only
    rw [c_wordToken T hr.1 (by omega), Option.bind_some]
    dsimp only
    obtain ⟨m', r1, r2, r3⟩ := c_tadd A hl (wcd (wl c (rend (isl c) (tp - a) a - a) a)) a 0
    rw [r1, Option.bind_some]
    exact ⟨m', rfl, r2, r3⟩
  · rw [if_neg w, if_pos rfl, if_neg w, c_isD T ha, Option.bind_some]
    dsimp only
    by_cases w2 : isd c a = true
    · have hr := rend_le (p := isd c) (tp - a) a
      rw [if_pos w2, if_neg d10, if_pos w2]
      unfold F_X7_endOfDigits
      rw [c_eD T (tp - a) a xfuel (by omega) (by rw [xfuel_eq]; omega), Option.bind_some]
      dsimp only
      unfold F_X8_addNumber
      rw [o_sub hr.1]
      have hin := fun j h1 h2 => rend_in (p := isd c) (tp - a) a j h1 h2
      generalize rend (isd c) (tp - a) a = e at *
      by_cases w4 : e - a ≤ 4
      · rw [if_pos ((o_le (b := 4) (by omega) (by omega)).mpr w4), if_pos w4]
        have hn := fun C => c_num4 (a0 := a) (C := C) T (show e ≤ tp by omega) (e - a) a xfuel 0 (by omega) (by rw [xfuel_eq]; omega) (by rw [Nat.zero_mul]; omega) hin
        obtain ⟨m', r1, r2, r3⟩ := c_tadd A hl 2 a (Int32.ofNat (nmb c (e - a) a 0))
        refine ⟨m', ?_, r2, r3⟩
        rw [o_zero, hn]
        dsimp only
        rw [show (2 : Int32) = Int32.ofNat 2 from rfl, r1, Option.bind_some]
        rfl
      · rw [if_neg (fun u => w4 ((o_le (b := 4) (by omega) (by omega)).mp u)), if_neg w4]
        obtain ⟨m', r1, r2, r3⟩ := c_tadd A hl 1 a 0
        refine ⟨m', ?_, r2, r3⟩
        rw [show (1 : Int32) = Int32.ofNat 1 from rfl, r1, Option.bind_some]
        rfl
    · rw [if_neg w2, if_pos rfl, if_neg w2]
      obtain ⟨s1, s2⟩ := T.2.2 a ha
      have s1' : m.1 ag_tape_signs a = Int32.ofNat (c a) := s1
      have i1 : xin (Int32.ofNat a) 600 = true := o_in (by omega) (by omega)
      have n1 : (Int32.ofNat a).toNatClampNeg = a := o_nat (by omega)
      obtain ⟨k, hk⟩ : ∃ k, k = (if c a = 40 ∨ c a = 41 ∨ c a = 43 ∨ c a = 45 ∨ c a = 59 ∨ c a = 60 ∨ c a = 61 then c a else 1) := ⟨_, rfl⟩
      have hs : F_X8_signToken (Int32.ofNat (c a)) m = some (Int32.ofNat k, m) := by
        have e : ∀ x : Nat, x < 300 → ((Int32.ofNat (c a) = Int32.ofNat x) ↔ c a = x) := fun x hx => o_eq (by omega) (by omega)
        have y : ∀ x : Nat, x < 300 → c a = x → Int32.ofNat (c a) = Int32.ofNat x := fun x hx u => by rw [u]
        unfold F_X8_signToken
        rw [show (40 : Int32) = Int32.ofNat 40 from rfl, show (41 : Int32) = Int32.ofNat 41 from rfl, show (43 : Int32) = Int32.ofNat 43 from rfl, show (45 : Int32) = Int32.ofNat 45 from rfl, show (59 : Int32) = Int32.ofNat 59 from rfl, show (60 : Int32) = Int32.ofNat 60 from rfl, show (61 : Int32) = Int32.ofNat 61 from rfl, hk]
        by_cases g : c a = 40 ∨ c a = 41 ∨ c a = 43 ∨ c a = 45 ∨ c a = 59 ∨ c a = 60 ∨ c a = 61
        · rw [if_pos g]
          repeat' split
          all_goals first | rfl | (exfalso; simp_all; omega)
        · rw [if_neg g, if_neg (fun u => g (by have := (e 40 (by omega)).mp u; omega)), if_neg (fun u => g (by have := (e 41 (by omega)).mp u; omega)), if_neg (fun u => g (by have := (e 43 (by omega)).mp u; omega)), if_neg (fun u => g (by have := (e 45 (by omega)).mp u; omega)), if_neg (fun u => g (by have := (e 59 (by omega)).mp u; omega)), if_neg (fun u => g (by have := (e 60 (by omega)).mp u; omega)), if_neg (fun u => g (by have := (e 61 (by omega)).mp u; omega))]
          rfl
      rw [if_pos i1, n1, s1', hs, Option.bind_some]
      dsimp only
      rw [← hk]
      obtain ⟨m', r1, r2, r3⟩ := c_tadd A hl k a 0
      rw [r1, Option.bind_some]
      exact ⟨m', rfl, r2, r3⟩
end SN
