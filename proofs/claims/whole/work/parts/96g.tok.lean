/-! tokens -/
section TK
variable {c : Nat → Nat} {tp : Nat}
def isl (c : Nat → Nat) (k : Nat) : Bool := decide (97 ≤ c k ∧ c k ≤ 122)
def isd (c : Nat → Nat) (k : Nat) : Bool := decide (48 ≤ c k ∧ c k ≤ 57)
def isb (c : Nat → Nat) (k : Nat) : Bool := decide (c k = 10 ∨ c k = 32)
/-- where a run from a on ends, k signs looked at -/
def rend (p : Nat → Bool) : Nat → Nat → Nat
  | 0, a => a
  | k + 1, a => if p a then rend p k (a + 1) else a
theorem rend_le {p : Nat → Bool} : ∀ k a, a ≤ rend p k a ∧ rend p k a ≤ a + k
  | 0, a => ⟨Nat.le_refl _, Nat.le_refl _⟩
  | k + 1, a => by
    have := rend_le (p := p) k (a + 1)
    unfold rend
    split <;> omega
theorem rend_in {p : Nat → Bool} : ∀ k a j, a ≤ j → j < rend p k a → p j = true
  | 0, a, j, h1, h2 => by
    have : j < a := h2
    omega
  | k + 1, a, j, h1, h2 => by
    unfold rend at h2
    by_cases w : p a = true
    · rw [if_pos w] at h2
      by_cases e : j = a
      · rw [e]; exact w
      · exact rend_in k (a + 1) j (by omega) h2
    · rw [if_neg w] at h2
      omega
theorem rend_out {p : Nat → Bool} : ∀ k a, rend p k a < a + k → p (rend p k a) = false
  | 0, a, h => by
    have : a < a := h
    omega
  | k + 1, a, h => by
    unfold rend at h ⊢
    by_cases w : p a = true
    · rw [if_pos w] at h ⊢
      exact rend_out k (a + 1) (by omega)
    · rw [if_neg w]
      simpa using w
theorem rend_s {p : Nat → Bool} {k a : Nat} (hk : 0 < k) (h : p a = true) : a < rend p k a := by
  obtain ⟨k, rfl⟩ : ∃ j, k = j + 1 := ⟨k - 1, by omega⟩
  unfold rend
  rw [if_pos h]
  have := rend_le (p := p) k (a + 1)
  omega
/-- the number that k digits from a on spell -/
def nmb (c : Nat → Nat) : Nat → Nat → Nat → Nat
  | 0, _, v => v
  | k + 1, a, v => nmb c k (a + 1) (v * 10 + (c a - 48))
/-- a token: place, code, value -/
abbrev xTk := Nat × Nat × Int32
def tokA (c : Nat → Nat) (tp a : Nat) : xTk × Nat :=
  if isl c a then ((a, wcd (wl c (rend (isl c) (tp - a) a - a) a), 0), rend (isl c) (tp - a) a)
  else if isd c a then ((if rend (isd c) (tp - a) a - a ≤ 4 then (a, 2, Int32.ofNat (nmb c (rend (isd c) (tp - a) a - a) a 0)) else (a, 1, 0)), rend (isd c) (tp - a) a)
  else ((a, (if c a = 40 ∨ c a = 41 ∨ c a = 43 ∨ c a = 45 ∨ c a = 59 ∨ c a = 60 ∨ c a = 61 then c a else 1), 0), a + 1)
def tkl (c : Nat → Nat) (tp : Nat) : Nat → Nat → List xTk
  | 0, _ => []
  | n + 1, a => if tp ≤ a then [] else if isb c a then tkl c tp n (a + 1) else (tokA c tp a).1 :: tkl c tp n (tokA c tp a).2
theorem tokA_nx {a : Nat} (ha : a < tp) : a < (tokA c tp a).2 ∧ (tokA c tp a).2 ≤ tp := by
  unfold tokA
  split
  · rename_i w
    have := rend_le (p := isl c) (tp - a) a
    have := rend_s (p := isl c) (k := tp - a) (a := a) (by omega) w
    dsimp only
    omega
  · split
    · rename_i w
      have := rend_le (p := isd c) (tp - a) a
      have := rend_s (p := isd c) (k := tp - a) (a := a) (by omega) w
      dsimp only
      omega
    · dsimp only
      omega
theorem tkl_len : ∀ n a, a ≤ tp → (tkl c tp n a).length + a ≤ tp
  | 0, a, h => by show 0 + a ≤ tp; omega
  | n + 1, a, h => by
    unfold tkl
    split
    · show 0 + a ≤ tp; omega
    · rename_i w
      split
      · have := tkl_len n (a + 1) (by omega)
        omega
      · have h1 := tokA_nx (c := c) (tp := tp) (a := a) (by omega)
        have := tkl_len n (tokA c tp a).2 h1.2
        rw [List.length_cons]
        omega
/-- the class's questions of the tape -/
theorem o_lt0 {a : Nat} (h : a < 2147483648) : ¬ Int32.ofNat a < 0 := fun w => by
  rw [Int32.lt_iff_toInt_lt, o_toInt h] at w
  have : (0 : Int32).toInt = 0 := rfl
  omega
theorem c_wi {m : xMem} (T : tpS c tp m.1) {a : Nat} (ha : a < tp) : F_X9_within (Int32.ofNat a) ((m.1 ag_tape fTape_length) - (1 : Int32)) m = some (1, m) := by
  obtain ⟨t1, t2, t3⟩ := T
  have t1' : m.1 ag_tape fTape_length = Int32.ofNat tp := t1
  rw [g_wi, t1']
  obtain ⟨b, rfl⟩ : ∃ b, tp = b + 1 := ⟨tp - 1, by omega⟩
  rw [o_pred, if_pos ⟨by rw [o_zero, o_le (by omega) (by omega)]; omega, (o_le (by omega) (by omega)).mpr (by omega)⟩]
theorem c_isL {m : xMem} (T : tpS c tp m.1) {a : Nat} (ha : a < tp) : F_X7_isLetter (Int32.ofNat a) m = some (if isl c a then 1 else 0, m) := by
  obtain ⟨t1, t2, t3⟩ := id T
  obtain ⟨s1, s2⟩ := t3 a ha
  have s1' : m.1 ag_tape_signs a = Int32.ofNat (c a) := s1
  have i1 : xin (Int32.ofNat a) 600 = true := o_in (by omega) (by omega)
  have n1 : (Int32.ofNat a).toNatClampNeg = a := o_nat (by omega)
  have l1 : (Int32.ofNat (c a) < 97) ↔ c a < 97 := o_lt (b := 97) (by omega) (by omega)
  have l2 : (122 < Int32.ofNat (c a)) ↔ 122 < c a := o_lt (a := 122) (by omega) (by omega)
  unfold F_X7_isLetter isl
  rw [c_wi T ha, Option.bind_some]
  dsimp only
  rw [if_neg (by decide), if_pos i1, n1, s1']
  by_cases w : c a < 97
  · rw [if_pos (l1.mpr w), decide_eq_false (by omega)]; rfl
  · rw [if_neg (fun u => w (l1.mp u)), if_pos i1]
    by_cases w2 : 122 < c a
    · rw [if_pos (l2.mpr w2), decide_eq_false (by omega)]; rfl
    · rw [if_neg (fun u => w2 (l2.mp u)), decide_eq_true (by omega)]; rfl
theorem c_isD {m : xMem} (T : tpS c tp m.1) {a : Nat} (ha : a < tp) : F_X7_isDigit (Int32.ofNat a) m = some (if isd c a then 1 else 0, m) := by
  obtain ⟨t1, t2, t3⟩ := id T
  obtain ⟨s1, s2⟩ := t3 a ha
  have s1' : m.1 ag_tape_signs a = Int32.ofNat (c a) := s1
  have i1 : xin (Int32.ofNat a) 600 = true := o_in (by omega) (by omega)
  have n1 : (Int32.ofNat a).toNatClampNeg = a := o_nat (by omega)
  have l1 : (Int32.ofNat (c a) < 48) ↔ c a < 48 := o_lt (b := 48) (by omega) (by omega)
  have l2 : (57 < Int32.ofNat (c a)) ↔ 57 < c a := o_lt (a := 57) (by omega) (by omega)
  unfold F_X7_isDigit isd
  rw [c_wi T ha, Option.bind_some]
  dsimp only
  rw [if_neg (by decide), if_pos i1, n1, s1']
  by_cases w : c a < 48
  · rw [if_pos (l1.mpr w), decide_eq_false (by omega)]; rfl
  · rw [if_neg (fun u => w (l1.mp u)), if_pos i1]
    by_cases w2 : 57 < c a
    · rw [if_pos (l2.mpr w2), decide_eq_false (by omega)]; rfl
    · rw [if_neg (fun u => w2 (l2.mp u)), decide_eq_true (by omega)]; rfl
theorem c_isB {m : xMem} (T : tpS c tp m.1) {a : Nat} (ha : a < tp) : F_X7_isBlank (Int32.ofNat a) m = some (if isb c a then 1 else 0, m) := by
  obtain ⟨t1, t2, t3⟩ := id T
  obtain ⟨s1, s2⟩ := t3 a ha
  have s1' : m.1 ag_tape_signs a = Int32.ofNat (c a) := s1
  have i1 : xin (Int32.ofNat a) 600 = true := o_in (by omega) (by omega)
  have n1 : (Int32.ofNat a).toNatClampNeg = a := o_nat (by omega)
  have l1 : (Int32.ofNat (c a) = 10) ↔ c a = 10 := o_eq (b := 10) (by omega) (by omega)
  have l2 : (Int32.ofNat (c a) = 32) ↔ c a = 32 := o_eq (b := 32) (by omega) (by omega)
  unfold F_X7_isBlank isb
  rw [c_wi T ha, Option.bind_some]
  dsimp only
  rw [if_neg (by decide), if_pos i1, n1, s1']
  by_cases w : c a = 10
  · rw [if_pos (l1.mpr w), decide_eq_true (Or.inl w)]; rfl
  · rw [if_neg (fun u => w (l1.mp u)), if_pos i1]
    by_cases w2 : c a = 32
    · rw [if_pos (l2.mpr w2), decide_eq_true (Or.inr w2)]; rfl
    · rw [if_neg (fun u => w2 (l2.mp u)), decide_eq_false (by omega)]; rfl
theorem c_isLm {m : xMem} (T : tpS c tp m.1) {a : Nat} (ha : a < tp) : F_X7_isLetter (Int32.ofNat a - 1) m = some (if 0 < a ∧ isl c (a - 1) = true then 1 else 0, m) := by
  cases a with
  | zero =>
    unfold F_X7_isLetter
    rw [g_wi, Option.bind_some]
    dsimp only
    have e : (if 0 ≤ Int32.ofNat 0 - 1 ∧ Int32.ofNat 0 - 1 ≤ m.1 ag_tape fTape_length - 1 then (1 : Int32) else 0) = 0 := if_neg (fun u => absurd u.1 (by decide))
    rw [if_pos e, if_neg (fun u => absurd u.1 (by decide))]
  | succ a =>
    rw [o_pred, c_isL T (by omega)]
    congr 2
    rw [Nat.add_sub_cancel]
    exact ifc ⟨fun u => ⟨by omega, u⟩, fun u => u.2⟩
theorem c_isDm {m : xMem} (T : tpS c tp m.1) {a : Nat} (ha : a < tp) : F_X7_isDigit (Int32.ofNat a - 1) m = some (if 0 < a ∧ isd c (a - 1) = true then 1 else 0, m) := by
  cases a with
  | zero =>
    unfold F_X7_isDigit
    rw [g_wi, Option.bind_some]
    dsimp only
    have e : (if 0 ≤ Int32.ofNat 0 - 1 ∧ Int32.ofNat 0 - 1 ≤ m.1 ag_tape fTape_length - 1 then (1 : Int32) else 0) = 0 := if_neg (fun u => absurd u.1 (by decide))
    rw [if_pos e, if_neg (fun u => absurd u.1 (by decide))]
  | succ a =>
    rw [o_pred, c_isD T (by omega)]
    congr 2
    rw [Nat.add_sub_cancel]
    exact ifc ⟨fun u => ⟨by omega, u⟩, fun u => u.2⟩
/-- a goes on a run -/
def gon (c : Nat → Nat) (a : Nat) : Prop := (isl c a = true ∧ 0 < a ∧ isl c (a - 1) = true) ∨ (isd c a = true ∧ 0 < a ∧ isd c (a - 1) = true)
theorem c_starts {m : xMem} (T : tpS c tp m.1) {a : Nat} (ha : a < tp) : ∃ v, F_X8_startsToken (Int32.ofNat a) m = some (v, m) ∧ (v = 0 ↔ (gon c a ∨ isb c a = true)) := by
  have d10 : ¬ ((1 : Int32) = 0) := by decide
  have j36 : J_X8_startsToken_36 (Int32.ofNat a) m = some (0, m) := by
    unfold J_X8_startsToken_36 J_X8_startsToken_41
    rw [if_neg d10]
  have j40 : J_X8_startsToken_40 (Int32.ofNat a) m = some (if isb c a then 0 else 1, m) := by
    unfold J_X8_startsToken_40 J_X8_startsToken_41
    rw [if_pos rfl, c_isB T ha, Option.bind_some]
    dsimp only
    by_cases w : isb c a = true
    · rw [if_pos w, if_neg d10, if_pos w]
    · rw [if_neg w, if_pos rfl, if_neg w]
  have fin : ¬ gon c a → ∃ v, some ((if isb c a then (0 : Int32) else 1), m) = some (v, m) ∧ (v = 0 ↔ (gon c a ∨ isb c a = true)) := by
    intro hg
    refine ⟨_, rfl, ?_⟩
    by_cases w : isb c a = true
    · rw [if_pos w]; exact ⟨fun _ => Or.inr w, fun _ => rfl⟩
    · rw [if_neg w]; exact ⟨fun u => absurd u d10, fun u => u.elim (fun u => absurd u hg) (fun u => absurd u w)⟩
  have j18 : ¬ (isl c a = true ∧ 0 < a ∧ isl c (a - 1) = true) → ∃ v, J_X8_startsToken_18 (Int32.ofNat a) m = some (v, m) ∧ (v = 0 ↔ (gon c a ∨ isb c a = true)) := by
    intro hl
    unfold J_X8_startsToken_18
    rw [c_isD T ha, Option.bind_some]
    dsimp only
    by_cases w : isd c a = true
    · rw [if_pos w, if_neg d10, c_isDm T ha, Option.bind_some]
      dsimp only
      by_cases w2 : 0 < a ∧ isd c (a - 1) = true
      · rw [if_pos w2, if_neg d10, j36]
        exact ⟨0, rfl, fun _ => Or.inl (Or.inr ⟨w, w2⟩), fun _ => rfl⟩
      · rw [if_neg w2, if_pos rfl, j40]
        exact fin (fun u => u.elim hl (fun u => w2 u.2))
    · rw [if_neg w, if_pos rfl, j40]
      exact fin (fun u => u.elim hl (fun u => w u.1))
  unfold F_X8_startsToken
  rw [c_isL T ha, Option.bind_some]
  dsimp only
  by_cases w : isl c a = true
  · rw [if_pos w, if_neg d10, c_isLm T ha, Option.bind_some]
    dsimp only
    by_cases w2 : 0 < a ∧ isl c (a - 1) = true
    · rw [if_pos w2, if_neg d10, j36]
      exact ⟨0, rfl, fun _ => Or.inl (Or.inl ⟨w, w2⟩), fun _ => rfl⟩
    · rw [if_neg w2, if_pos rfl]
      exact j18 (fun u => w2 u.2)
  · rw [if_neg w, if_pos rfl]
    exact j18 (fun u => w u.1)
theorem c_eL {m : xMem} (T : tpS c tp m.1) : ∀ (k a fk : Nat), a + k = tp → k < fk → L_X7_endOfLetters_2 fk (Int32.ofNat a) m = some (Int32.ofNat (rend (isl c) k a), m)
  | 0, a, fk + 1, h, _ => by
    have t1' : m.1 ag_tape fTape_length = Int32.ofNat tp := T.1
    have q : Int32.ofNat tp ≤ Int32.ofNat a := (o_le (by have := T.2.1; omega) (by have := T.2.1; omega)).mpr (by omega)
    unfold L_X7_endOfLetters_2
    rw [t1', if_pos q]
    rfl
  | k + 1, a, fk + 1, h, hf => by
    have t1' : m.1 ag_tape fTape_length = Int32.ofNat tp := T.1
    have q : ¬ Int32.ofNat tp ≤ Int32.ofNat a := fun w => by have := (o_le (by have := T.2.1; omega) (by have := T.2.1; omega)).mp w; omega
    unfold L_X7_endOfLetters_2 rend
    rw [t1', if_neg q, c_isL T (by omega), Option.bind_some]
    dsimp only
    by_cases w : isl c a = true
    · rw [if_pos w, if_neg (by decide), o_succ, if_pos w]
      exact c_eL T k (a + 1) fk (by omega) (by omega)
    · rw [if_neg w, if_pos rfl, if_neg w]
theorem c_eD {m : xMem} (T : tpS c tp m.1) : ∀ (k a fk : Nat), a + k = tp → k < fk → L_X7_endOfDigits_2 fk (Int32.ofNat a) m = some (Int32.ofNat (rend (isd c) k a), m)
  | 0, a, fk + 1, h, _ => by
    have t1' : m.1 ag_tape fTape_length = Int32.ofNat tp := T.1
    have q : Int32.ofNat tp ≤ Int32.ofNat a := (o_le (by have := T.2.1; omega) (by have := T.2.1; omega)).mpr (by omega)
    unfold L_X7_endOfDigits_2
    rw [t1', if_pos q]
    rfl
  | k + 1, a, fk + 1, h, hf => by
    have t1' : m.1 ag_tape fTape_length = Int32.ofNat tp := T.1
    have q : ¬ Int32.ofNat tp ≤ Int32.ofNat a := fun w => by have := (o_le (by have := T.2.1; omega) (by have := T.2.1; omega)).mp w; omega
    unfold L_X7_endOfDigits_2 rend
    rw [t1', if_neg q, c_isD T (by omega), Option.bind_some]
    dsimp only
    by_cases w : isd c a = true
    · rw [if_pos w, if_neg (by decide), o_succ, if_pos w]
      exact c_eD T k (a + 1) fk (by omega) (by omega)
    · rw [if_neg w, if_pos rfl, if_neg w]
end TK
