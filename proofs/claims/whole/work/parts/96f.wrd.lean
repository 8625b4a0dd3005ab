/-! words -/
def wds : Nat → List Nat
  | 0 => [115, 116, 97, 114]
  | 1 => [119, 104, 101, 110]
  | 2 => [97, 110, 100]
  | 3 => [109, 97, 114, 107, 115]
  | 4 => [109, 101, 97, 110]
  | 5 => [108, 101, 97, 115, 116]
  | 6 => [103, 114, 101, 97, 116, 101, 115, 116]
  | 7 => [102, 97, 99, 116, 115]
  | 8 => [112, 97, 105, 100]
  | _ => []
/-- k signs from a on -/
def wl (c : Nat → Nat) : Nat → Nat → List Nat
  | 0, _ => []
  | k + 1, a => c a :: wl c k (a + 1)
theorem wl_len {c : Nat → Nat} : ∀ k a, (wl c k a).length = k
  | 0, _ => rfl
  | k + 1, a => by
    show (wl c k (a + 1)).length + 1 = _
    rw [wl_len k (a + 1)]
/-- the tape's signs -/
def tpS (c : Nat → Nat) (tp : Nat) (I : xI) : Prop := I 29 1 = Int32.ofNat tp ∧ tp ≤ 600 ∧ ∀ k, k < tp → I 30 k = Int32.ofNat (c k) ∧ c k ≤ 126
theorem len_0 (m : xMem) : F_J0_length_8abf5 m = some (Int32.ofNat 4, m) := by
  unfold F_J0_length_8abf5 F_J0_coder_7d493
  rw [if_neg (show ¬ (1 : Int32) = 0 by decide), Option.bind_some]
  dsimp only
  exact congrArg (fun v => some (v, m)) (show (4 : Int32) >>> ((0 : Int32) &&& 31) = Int32.ofNat 4 by decide)
theorem chr_0 (m : xMem) : ∀ j, j < 4 → ∃ x, F_J0_charAt_5068e (Int32.ofNat j) m = some (Int32.ofNat x, m) ∧ (wds 0)[j]? = some x ∧ x ≤ 126
  | 0, _ => ⟨115, rfl, rfl, by omega⟩
  | 1, _ => ⟨116, rfl, rfl, by omega⟩
  | 2, _ => ⟨97, rfl, rfl, by omega⟩
  | 3, _ => ⟨114, rfl, rfl, by omega⟩
  | j + 4, h => by omega
theorem spl_0 {c : Nat → Nat} {tp a : Nat} {m : xMem} (T : tpS c tp m.1) (ha : a + 4 ≤ tp) : ∀ (k j fk : Nat), j + k = 4 → k < fk → L_X7_spells_27 (Int32.ofNat a) fk (Int32.ofNat j) m = some (if wl c k (a + j) = (wds 0).drop j then 1 else 0, m)
  | 0, j, fk + 1, h, _ => by
    have e : j = 4 := by omega
    subst e
    unfold L_X7_spells_27
    rw [len_0, Option.bind_some]
    rfl
  | k + 1, j, fk + 1, h, hf => by
    obtain ⟨t1, t2, t3⟩ := id T
    have q : ¬ Int32.ofNat 4 ≤ Int32.ofNat j := fun w => by have := (o_le (by omega) (by omega)).mp w; omega
    have i1 : xin (Int32.ofNat (a + j)) 600 = true := o_in (by omega) (by omega)
    have n1 : (Int32.ofNat (a + j)).toNatClampNeg = a + j := o_nat (by omega)
    obtain ⟨x, c1, c2, c3⟩ := chr_0 m j (by omega)
    obtain ⟨s1, s2⟩ := t3 (a + j) (by omega)
    have s1' : m.1 ag_tape_signs (a + j) = Int32.ofNat (c (a + j)) := s1
    have hd : (wds 0).drop j = x :: (wds 0).drop (j + 1) := dr_c c2
    have hrec := spl_0 T ha k (j + 1) fk (by omega) (by omega)
    have eq : (Int32.ofNat (c (a + j)) = Int32.ofNat x) ↔ c (a + j) = x := o_eq (by omega) (by omega)
    unfold L_X7_spells_27
    rw [len_0, Option.bind_some]
    dsimp only
    rw [if_neg q, o_add, if_pos i1, n1, c1, Option.bind_some]
    dsimp only
    rw [s1', hd]
    show _ = some (if c (a + j) :: wl c k (a + j + 1) = x :: (wds 0).drop (j + 1) then 1 else 0, m)
    by_cases w : c (a + j) = x
    · rw [if_pos (eq.mpr w), o_succ, hrec, w]
      congr 2
      by_cases w2 : wl c k (a + (j + 1)) = (wds 0).drop (j + 1)
      · rw [if_pos w2, if_pos (by rw [← w2]; rfl)]
      · rw [if_neg w2, if_neg (fun u => w2 (by injection u))]
    · rw [if_neg (fun u => w (eq.mp u)), if_neg (fun u => w (by injection u))]
theorem spw_0 {c : Nat → Nat} {tp a e : Nat} {m : xMem} (T : tpS c tp m.1) (ha : a ≤ e) (he : e ≤ tp) : F_X7_spells (Int32.ofNat a) (Int32.ofNat e) m = some (if wl c (e - a) a = wds 0 then 1 else 0, m) := by
  obtain ⟨t1, t2, t3⟩ := id T
  have t1' : m.1 ag_tape fTape_length = Int32.ofNat tp := t1
  have q1 : ¬ Int32.ofNat a < 0 := fun w => by
    rw [Int32.lt_iff_toInt_lt, o_toInt (by omega)] at w
    have : (0 : Int32).toInt = 0 := rfl
    omega
  have q2 : ¬ Int32.ofNat tp < Int32.ofNat e := fun w => by have := (o_lt (by omega) (by omega)).mp w; omega
  unfold F_X7_spells
  rw [if_neg q1, t1', if_neg q2, len_0, Option.bind_some, o_sub ha]
  dsimp only
  by_cases w : e - a = 4
  · rw [if_pos (by rw [w]), w]
    exact spl_0 T (by omega) 4 0 xfuel (by omega) (by decide)
  · rw [if_neg (fun u => w ((o_eq (by omega) (by omega)).mp u)), if_neg]
    intro u
    have := congrArg List.length u
    rw [wl_len] at this
    exact w this
theorem len_1 (m : xMem) : F_J0_length_8abf5_i1 m = some (Int32.ofNat 4, m) := by
  unfold F_J0_length_8abf5_i1 F_J0_coder_7d493_i1
  rw [if_neg (show ¬ (1 : Int32) = 0 by decide), Option.bind_some]
  dsimp only
  exact congrArg (fun v => some (v, m)) (show (4 : Int32) >>> ((0 : Int32) &&& 31) = Int32.ofNat 4 by decide)
theorem chr_1 (m : xMem) : ∀ j, j < 4 → ∃ x, F_J0_charAt_5068e_i1 (Int32.ofNat j) m = some (Int32.ofNat x, m) ∧ (wds 1)[j]? = some x ∧ x ≤ 126
  | 0, _ => ⟨119, rfl, rfl, by omega⟩
  | 1, _ => ⟨104, rfl, rfl, by omega⟩
  | 2, _ => ⟨101, rfl, rfl, by omega⟩
  | 3, _ => ⟨110, rfl, rfl, by omega⟩
  | j + 4, h => by omega
theorem spl_1 {c : Nat → Nat} {tp a : Nat} {m : xMem} (T : tpS c tp m.1) (ha : a + 4 ≤ tp) : ∀ (k j fk : Nat), j + k = 4 → k < fk → L_X7_spells_i1_27 (Int32.ofNat a) fk (Int32.ofNat j) m = some (if wl c k (a + j) = (wds 1).drop j then 1 else 0, m)
  | 0, j, fk + 1, h, _ => by
    have e : j = 4 := by omega
    subst e
    unfold L_X7_spells_i1_27
    rw [len_1, Option.bind_some]
    rfl
  | k + 1, j, fk + 1, h, hf => by
    obtain ⟨t1, t2, t3⟩ := id T
    have q : ¬ Int32.ofNat 4 ≤ Int32.ofNat j := fun w => by have := (o_le (by omega) (by omega)).mp w; omega
    have i1 : xin (Int32.ofNat (a + j)) 600 = true := o_in (by omega) (by omega)
    have n1 : (Int32.ofNat (a + j)).toNatClampNeg = a + j := o_nat (by omega)
    obtain ⟨x, c1, c2, c3⟩ := chr_1 m j (by omega)
    obtain ⟨s1, s2⟩ := t3 (a + j) (by omega)
    have s1' : m.1 ag_tape_signs (a + j) = Int32.ofNat (c (a + j)) := s1
    have hd : (wds 1).drop j = x :: (wds 1).drop (j + 1) := dr_c c2
    have hrec := spl_1 T ha k (j + 1) fk (by omega) (by omega)
    have eq : (Int32.ofNat (c (a + j)) = Int32.ofNat x) ↔ c (a + j) = x := o_eq (by omega) (by omega)
    unfold L_X7_spells_i1_27
    rw [len_1, Option.bind_some]
    dsimp only
    rw [if_neg q, o_add, if_pos i1, n1, c1, Option.bind_some]
    dsimp only
    rw [s1', hd]
    show _ = some (if c (a + j) :: wl c k (a + j + 1) = x :: (wds 1).drop (j + 1) then 1 else 0, m)
    by_cases w : c (a + j) = x
    · rw [if_pos (eq.mpr w), o_succ, hrec, w]
      congr 2
      by_cases w2 : wl c k (a + (j + 1)) = (wds 1).drop (j + 1)
      · rw [if_pos w2, if_pos (by rw [← w2]; rfl)]
      · rw [if_neg w2, if_neg (fun u => w2 (by injection u))]
    · rw [if_neg (fun u => w (eq.mp u)), if_neg (fun u => w (by injection u))]
theorem spw_1 {c : Nat → Nat} {tp a e : Nat} {m : xMem} (T : tpS c tp m.1) (ha : a ≤ e) (he : e ≤ tp) : F_X7_spells_i1 (Int32.ofNat a) (Int32.ofNat e) m = some (if wl c (e - a) a = wds 1 then 1 else 0, m) := by
  obtain ⟨t1, t2, t3⟩ := id T
  have t1' : m.1 ag_tape fTape_length = Int32.ofNat tp := t1
  have q1 : ¬ Int32.ofNat a < 0 := fun w => by
    rw [Int32.lt_iff_toInt_lt, o_toInt (by omega)] at w
    have : (0 : Int32).toInt = 0 := rfl
    omega
  have q2 : ¬ Int32.ofNat tp < Int32.ofNat e := fun w => by have := (o_lt (by omega) (by omega)).mp w; omega
  unfold F_X7_spells_i1
  rw [if_neg q1, t1', if_neg q2, len_1, Option.bind_some, o_sub ha]
  dsimp only
  by_cases w : e - a = 4
  · rw [if_pos (by rw [w]), w]
    exact spl_1 T (by omega) 4 0 xfuel (by omega) (by decide)
  · rw [if_neg (fun u => w ((o_eq (by omega) (by omega)).mp u)), if_neg]
    intro u
    have := congrArg List.length u
    rw [wl_len] at this
    exact w this
theorem len_2 (m : xMem) : F_J0_length_8abf5_i2 m = some (Int32.ofNat 3, m) := by
  unfold F_J0_length_8abf5_i2 F_J0_coder_7d493_i2
  rw [if_neg (show ¬ (1 : Int32) = 0 by decide), Option.bind_some]
  dsimp only
  exact congrArg (fun v => some (v, m)) (show (3 : Int32) >>> ((0 : Int32) &&& 31) = Int32.ofNat 3 by decide)
theorem chr_2 (m : xMem) : ∀ j, j < 3 → ∃ x, F_J0_charAt_5068e_i2 (Int32.ofNat j) m = some (Int32.ofNat x, m) ∧ (wds 2)[j]? = some x ∧ x ≤ 126
  | 0, _ => ⟨97, rfl, rfl, by omega⟩
  | 1, _ => ⟨110, rfl, rfl, by omega⟩
  | 2, _ => ⟨100, rfl, rfl, by omega⟩
  | j + 3, h => by omega
theorem spl_2 {c : Nat → Nat} {tp a : Nat} {m : xMem} (T : tpS c tp m.1) (ha : a + 3 ≤ tp) : ∀ (k j fk : Nat), j + k = 3 → k < fk → L_X7_spells_i2_27 (Int32.ofNat a) fk (Int32.ofNat j) m = some (if wl c k (a + j) = (wds 2).drop j then 1 else 0, m)
  | 0, j, fk + 1, h, _ => by
    have e : j = 3 := by omega
    subst e
    unfold L_X7_spells_i2_27
    rw [len_2, Option.bind_some]
    rfl
  | k + 1, j, fk + 1, h, hf => by
    obtain ⟨t1, t2, t3⟩ := id T
    have q : ¬ Int32.ofNat 3 ≤ Int32.ofNat j := fun w => by have := (o_le (by omega) (by omega)).mp w; omega
    have i1 : xin (Int32.ofNat (a + j)) 600 = true := o_in (by omega) (by omega)
    have n1 : (Int32.ofNat (a + j)).toNatClampNeg = a + j := o_nat (by omega)
    obtain ⟨x, c1, c2, c3⟩ := chr_2 m j (by omega)
    obtain ⟨s1, s2⟩ := t3 (a + j) (by omega)
    have s1' : m.1 ag_tape_signs (a + j) = Int32.ofNat (c (a + j)) := s1
    have hd : (wds 2).drop j = x :: (wds 2).drop (j + 1) := dr_c c2
    have hrec := spl_2 T ha k (j + 1) fk (by omega) (by omega)
    have eq : (Int32.ofNat (c (a + j)) = Int32.ofNat x) ↔ c (a + j) = x := o_eq (by omega) (by omega)
    unfold L_X7_spells_i2_27
    rw [len_2, Option.bind_some]
    dsimp only
    rw [if_neg q, o_add, if_pos i1, n1, c1, Option.bind_some]
    dsimp only
    rw [s1', hd]
    show _ = some (if c (a + j) :: wl c k (a + j + 1) = x :: (wds 2).drop (j + 1) then 1 else 0, m)
    by_cases w : c (a + j) = x
    · rw [if_pos (eq.mpr w), o_succ, hrec, w]
      congr 2
      by_cases w2 : wl c k (a + (j + 1)) = (wds 2).drop (j + 1)
      · rw [if_pos w2, if_pos (by rw [← w2]; rfl)]
      · rw [if_neg w2, if_neg (fun u => w2 (by injection u))]
    · rw [if_neg (fun u => w (eq.mp u)), if_neg (fun u => w (by injection u))]
theorem spw_2 {c : Nat → Nat} {tp a e : Nat} {m : xMem} (T : tpS c tp m.1) (ha : a ≤ e) (he : e ≤ tp) : F_X7_spells_i2 (Int32.ofNat a) (Int32.ofNat e) m = some (if wl c (e - a) a = wds 2 then 1 else 0, m) := by
  obtain ⟨t1, t2, t3⟩ := id T
  have t1' : m.1 ag_tape fTape_length = Int32.ofNat tp := t1
  have q1 : ¬ Int32.ofNat a < 0 := fun w => by
    rw [Int32.lt_iff_toInt_lt, o_toInt (by omega)] at w
    have : (0 : Int32).toInt = 0 := rfl
    omega
  have q2 : ¬ Int32.ofNat tp < Int32.ofNat e := fun w => by have := (o_lt (by omega) (by omega)).mp w; omega
  unfold F_X7_spells_i2
  rw [if_neg q1, t1', if_neg q2, len_2, Option.bind_some, o_sub ha]
  dsimp only
  by_cases w : e - a = 3
  · rw [if_pos (by rw [w]), w]
    exact spl_2 T (by omega) 3 0 xfuel (by omega) (by decide)
  · rw [if_neg (fun u => w ((o_eq (by omega) (by omega)).mp u)), if_neg]
    intro u
    have := congrArg List.length u
    rw [wl_len] at this
    exact w this
theorem len_3 (m : xMem) : F_J0_length_8abf5_i3 m = some (Int32.ofNat 5, m) := by
  unfold F_J0_length_8abf5_i3 F_J0_coder_7d493_i3
  rw [if_neg (show ¬ (1 : Int32) = 0 by decide), Option.bind_some]
  dsimp only
  exact congrArg (fun v => some (v, m)) (show (5 : Int32) >>> ((0 : Int32) &&& 31) = Int32.ofNat 5 by decide)
theorem chr_3 (m : xMem) : ∀ j, j < 5 → ∃ x, F_J0_charAt_5068e_i3 (Int32.ofNat j) m = some (Int32.ofNat x, m) ∧ (wds 3)[j]? = some x ∧ x ≤ 126
  | 0, _ => ⟨109, rfl, rfl, by omega⟩
  | 1, _ => ⟨97, rfl, rfl, by omega⟩
  | 2, _ => ⟨114, rfl, rfl, by omega⟩
  | 3, _ => ⟨107, rfl, rfl, by omega⟩
  | 4, _ => ⟨115, rfl, rfl, by omega⟩
  | j + 5, h => by omega
theorem spl_3 {c : Nat → Nat} {tp a : Nat} {m : xMem} (T : tpS c tp m.1) (ha : a + 5 ≤ tp) : ∀ (k j fk : Nat), j + k = 5 → k < fk → L_X7_spells_i3_27 (Int32.ofNat a) fk (Int32.ofNat j) m = some (if wl c k (a + j) = (wds 3).drop j then 1 else 0, m)
  | 0, j, fk + 1, h, _ => by
    have e : j = 5 := by omega
    subst e
    unfold L_X7_spells_i3_27
    rw [len_3, Option.bind_some]
    rfl
  | k + 1, j, fk + 1, h, hf => by
    obtain ⟨t1, t2, t3⟩ := id T
    have q : ¬ Int32.ofNat 5 ≤ Int32.ofNat j := fun w => by have := (o_le (by omega) (by omega)).mp w; omega
    have i1 : xin (Int32.ofNat (a + j)) 600 = true := o_in (by omega) (by omega)
    have n1 : (Int32.ofNat (a + j)).toNatClampNeg = a + j := o_nat (by omega)
    obtain ⟨x, c1, c2, c3⟩ := chr_3 m j (by omega)
    obtain ⟨s1, s2⟩ := t3 (a + j) (by omega)
    have s1' : m.1 ag_tape_signs (a + j) = Int32.ofNat (c (a + j)) := s1
    have hd : (wds 3).drop j = x :: (wds 3).drop (j + 1) := dr_c c2
    have hrec := spl_3 T ha k (j + 1) fk (by omega) (by omega)
    have eq : (Int32.ofNat (c (a + j)) = Int32.ofNat x) ↔ c (a + j) = x := o_eq (by omega) (by omega)
    unfold L_X7_spells_i3_27
    rw [len_3, Option.bind_some]
    dsimp only
    rw [if_neg q, o_add, if_pos i1, n1, c1, Option.bind_some]
    dsimp only
    rw [s1', hd]
    show _ = some (if c (a + j) :: wl c k (a + j + 1) = x :: (wds 3).drop (j + 1) then 1 else 0, m)
    by_cases w : c (a + j) = x
    · rw [if_pos (eq.mpr w), o_succ, hrec, w]
      congr 2
      by_cases w2 : wl c k (a + (j + 1)) = (wds 3).drop (j + 1)
      · rw [if_pos w2, if_pos (by rw [← w2]; rfl)]
      · rw [if_neg w2, if_neg (fun u => w2 (by injection u))]
    · rw [if_neg (fun u => w (eq.mp u)), if_neg (fun u => w (by injection u))]
theorem spw_3 {c : Nat → Nat} {tp a e : Nat} {m : xMem} (T : tpS c tp m.1) (ha : a ≤ e) (he : e ≤ tp) : F_X7_spells_i3 (Int32.ofNat a) (Int32.ofNat e) m = some (if wl c (e - a) a = wds 3 then 1 else 0, m) := by
  obtain ⟨t1, t2, t3⟩ := id T
  have t1' : m.1 ag_tape fTape_length = Int32.ofNat tp := t1
  have q1 : ¬ Int32.ofNat a < 0 := fun w => by
    rw [Int32.lt_iff_toInt_lt, o_toInt (by omega)] at w
    have : (0 : Int32).toInt = 0 := rfl
    omega
  have q2 : ¬ Int32.ofNat tp < Int32.ofNat e := fun w => by have := (o_lt (by omega) (by omega)).mp w; omega
  unfold F_X7_spells_i3
  rw [if_neg q1, t1', if_neg q2, len_3, Option.bind_some, o_sub ha]
  dsimp only
  by_cases w : e - a = 5
  · rw [if_pos (by rw [w]), w]
    exact spl_3 T (by omega) 5 0 xfuel (by omega) (by decide)
  · rw [if_neg (fun u => w ((o_eq (by omega) (by omega)).mp u)), if_neg]
    intro u
    have := congrArg List.length u
    rw [wl_len] at this
    exact w this
theorem len_4 (m : xMem) : F_J0_length_8abf5_i4 m = some (Int32.ofNat 4, m) := by
  unfold F_J0_length_8abf5_i4 F_J0_coder_7d493_i4
  rw [if_neg (show ¬ (1 : Int32) = 0 by decide), Option.bind_some]
  dsimp only
  exact congrArg (fun v => some (v, m)) (show (4 : Int32) >>> ((0 : Int32) &&& 31) = Int32.ofNat 4 by decide)
theorem chr_4 (m : xMem) : ∀ j, j < 4 → ∃ x, F_J0_charAt_5068e_i4 (Int32.ofNat j) m = some (Int32.ofNat x, m) ∧ (wds 4)[j]? = some x ∧ x ≤ 126
  | 0, _ => ⟨109, rfl, rfl, by omega⟩
  | 1, _ => ⟨101, rfl, rfl, by omega⟩
  | 2, _ => ⟨97, rfl, rfl, by omega⟩
  | 3, _ => ⟨110, rfl, rfl, by omega⟩
  | j + 4, h => by omega
theorem spl_4 {c : Nat → Nat} {tp a : Nat} {m : xMem} (T : tpS c tp m.1) (ha : a + 4 ≤ tp) : ∀ (k j fk : Nat), j + k = 4 → k < fk → L_X7_spells_i4_27 (Int32.ofNat a) fk (Int32.ofNat j) m = some (if wl c k (a + j) = (wds 4).drop j then 1 else 0, m)
  | 0, j, fk + 1, h, _ => by
    have e : j = 4 := by omega
    subst e
    unfold L_X7_spells_i4_27
    rw [len_4, Option.bind_some]
    rfl
  | k + 1, j, fk + 1, h, hf => by
    obtain ⟨t1, t2, t3⟩ := id T
    have q : ¬ Int32.ofNat 4 ≤ Int32.ofNat j := fun w => by have := (o_le (by omega) (by omega)).mp w; omega
    have i1 : xin (Int32.ofNat (a + j)) 600 = true := o_in (by omega) (by omega)
    have n1 : (Int32.ofNat (a + j)).toNatClampNeg = a + j := o_nat (by omega)
    obtain ⟨x, c1, c2, c3⟩ := chr_4 m j (by omega)
    obtain ⟨s1, s2⟩ := t3 (a + j) (by omega)
    have s1' : m.1 ag_tape_signs (a + j) = Int32.ofNat (c (a + j)) := s1
    have hd : (wds 4).drop j = x :: (wds 4).drop (j + 1) := dr_c c2
    have hrec := spl_4 T ha k (j + 1) fk (by omega) (by omega)
    have eq : (Int32.ofNat (c (a + j)) = Int32.ofNat x) ↔ c (a + j) = x := o_eq (by omega) (by omega)
    unfold L_X7_spells_i4_27
    rw [len_4, Option.bind_some]
    dsimp only
    rw [if_neg q, o_add, if_pos i1, n1, c1, Option.bind_some]
    dsimp only
    rw [s1', hd]
    show _ = some (if c (a + j) :: wl c k (a + j + 1) = x :: (wds 4).drop (j + 1) then 1 else 0, m)
    by_cases w : c (a + j) = x
    · rw [if_pos (eq.mpr w), o_succ, hrec, w]
      congr 2
      by_cases w2 : wl c k (a + (j + 1)) = (wds 4).drop (j + 1)
      · rw [if_pos w2, if_pos (by rw [← w2]; rfl)]
      · rw [if_neg w2, if_neg (fun u => w2 (by injection u))]
    · rw [if_neg (fun u => w (eq.mp u)), if_neg (fun u => w (by injection u))]
theorem spw_4 {c : Nat → Nat} {tp a e : Nat} {m : xMem} (T : tpS c tp m.1) (ha : a ≤ e) (he : e ≤ tp) : F_X7_spells_i4 (Int32.ofNat a) (Int32.ofNat e) m = some (if wl c (e - a) a = wds 4 then 1 else 0, m) := by
  obtain ⟨t1, t2, t3⟩ := id T
  have t1' : m.1 ag_tape fTape_length = Int32.ofNat tp := t1
  have q1 : ¬ Int32.ofNat a < 0 := fun w => by
    rw [Int32.lt_iff_toInt_lt, o_toInt (by omega)] at w
    have : (0 : Int32).toInt = 0 := rfl
    omega
  have q2 : ¬ Int32.ofNat tp < Int32.ofNat e := fun w => by have := (o_lt (by omega) (by omega)).mp w; omega
  unfold F_X7_spells_i4
  rw [if_neg q1, t1', if_neg q2, len_4, Option.bind_some, o_sub ha]
  dsimp only
  by_cases w : e - a = 4
  · rw [if_pos (by rw [w]), w]
    exact spl_4 T (by omega) 4 0 xfuel (by omega) (by decide)
  · rw [if_neg (fun u => w ((o_eq (by omega) (by omega)).mp u)), if_neg]
    intro u
    have := congrArg List.length u
    rw [wl_len] at this
    exact w this
theorem len_5 (m : xMem) : F_J0_length_8abf5_i5 m = some (Int32.ofNat 5, m) := by
  unfold F_J0_length_8abf5_i5 F_J0_coder_7d493_i5
  rw [if_neg (show ¬ (1 : Int32) = 0 by decide), Option.bind_some]
  dsimp only
  exact congrArg (fun v => some (v, m)) (show (5 : Int32) >>> ((0 : Int32) &&& 31) = Int32.ofNat 5 by decide)
theorem chr_5 (m : xMem) : ∀ j, j < 5 → ∃ x, F_J0_charAt_5068e_i5 (Int32.ofNat j) m = some (Int32.ofNat x, m) ∧ (wds 5)[j]? = some x ∧ x ≤ 126
  | 0, _ => ⟨108, rfl, rfl, by omega⟩
  | 1, _ => ⟨101, rfl, rfl, by omega⟩
  | 2, _ => ⟨97, rfl, rfl, by omega⟩
  | 3, _ => ⟨115, rfl, rfl, by omega⟩
  | 4, _ => ⟨116, rfl, rfl, by omega⟩
  | j + 5, h => by omega
theorem spl_5 {c : Nat → Nat} {tp a : Nat} {m : xMem} (T : tpS c tp m.1) (ha : a + 5 ≤ tp) : ∀ (k j fk : Nat), j + k = 5 → k < fk → L_X7_spells_i5_27 (Int32.ofNat a) fk (Int32.ofNat j) m = some (if wl c k (a + j) = (wds 5).drop j then 1 else 0, m)
  | 0, j, fk + 1, h, _ => by
    have e : j = 5 := by omega
    subst e
    unfold L_X7_spells_i5_27
    rw [len_5, Option.bind_some]
    rfl
  | k + 1, j, fk + 1, h, hf => by
    obtain ⟨t1, t2, t3⟩ := id T
    have q : ¬ Int32.ofNat 5 ≤ Int32.ofNat j := fun w => by have := (o_le (by omega) (by omega)).mp w; omega
    have i1 : xin (Int32.ofNat (a + j)) 600 = true := o_in (by omega) (by omega)
    have n1 : (Int32.ofNat (a + j)).toNatClampNeg = a + j := o_nat (by omega)
    obtain ⟨x, c1, c2, c3⟩ := chr_5 m j (by omega)
    obtain ⟨s1, s2⟩ := t3 (a + j) (by omega)
    have s1' : m.1 ag_tape_signs (a + j) = Int32.ofNat (c (a + j)) := s1
    have hd : (wds 5).drop j = x :: (wds 5).drop (j + 1) := dr_c c2
    have hrec := spl_5 T ha k (j + 1) fk (by omega) (by omega)
    have eq : (Int32.ofNat (c (a + j)) = Int32.ofNat x) ↔ c (a + j) = x := o_eq (by omega) (by omega)
    unfold L_X7_spells_i5_27
    rw [len_5, Option.bind_some]
    dsimp only
    rw [if_neg q, o_add, if_pos i1, n1, c1, Option.bind_some]
    dsimp only
    rw [s1', hd]
    show _ = some (if c (a + j) :: wl c k (a + j + 1) = x :: (wds 5).drop (j + 1) then 1 else 0, m)
    by_cases w : c (a + j) = x
    · rw [if_pos (eq.mpr w), o_succ, hrec, w]
      congr 2
      by_cases w2 : wl c k (a + (j + 1)) = (wds 5).drop (j + 1)
      · rw [if_pos w2, if_pos (by rw [← w2]; rfl)]
      · rw [if_neg w2, if_neg (fun u => w2 (by injection u))]
    · rw [if_neg (fun u => w (eq.mp u)), if_neg (fun u => w (by injection u))]
theorem spw_5 {c : Nat → Nat} {tp a e : Nat} {m : xMem} (T : tpS c tp m.1) (ha : a ≤ e) (he : e ≤ tp) : F_X7_spells_i5 (Int32.ofNat a) (Int32.ofNat e) m = some (if wl c (e - a) a = wds 5 then 1 else 0, m) := by
  obtain ⟨t1, t2, t3⟩ := id T
  have t1' : m.1 ag_tape fTape_length = Int32.ofNat tp := t1
  have q1 : ¬ Int32.ofNat a < 0 := fun w => by
    rw [Int32.lt_iff_toInt_lt, o_toInt (by omega)] at w
    have : (0 : Int32).toInt = 0 := rfl
    omega
  have q2 : ¬ Int32.ofNat tp < Int32.ofNat e := fun w => by have := (o_lt (by omega) (by omega)).mp w; omega
  unfold F_X7_spells_i5
  rw [if_neg q1, t1', if_neg q2, len_5, Option.bind_some, o_sub ha]
  dsimp only
  by_cases w : e - a = 5
  · rw [if_pos (by rw [w]), w]
    exact spl_5 T (by omega) 5 0 xfuel (by omega) (by decide)
  · rw [if_neg (fun u => w ((o_eq (by omega) (by omega)).mp u)), if_neg]
    intro u
    have := congrArg List.length u
    rw [wl_len] at this
    exact w this
theorem len_6 (m : xMem) : F_J0_length_8abf5_i6 m = some (Int32.ofNat 8, m) := by
  unfold F_J0_length_8abf5_i6 F_J0_coder_7d493_i6
  rw [if_neg (show ¬ (1 : Int32) = 0 by decide), Option.bind_some]
  dsimp only
  exact congrArg (fun v => some (v, m)) (show (8 : Int32) >>> ((0 : Int32) &&& 31) = Int32.ofNat 8 by decide)
theorem chr_6 (m : xMem) : ∀ j, j < 8 → ∃ x, F_J0_charAt_5068e_i6 (Int32.ofNat j) m = some (Int32.ofNat x, m) ∧ (wds 6)[j]? = some x ∧ x ≤ 126
  | 0, _ => ⟨103, rfl, rfl, by omega⟩
  | 1, _ => ⟨114, rfl, rfl, by omega⟩
  | 2, _ => ⟨101, rfl, rfl, by omega⟩
  | 3, _ => ⟨97, rfl, rfl, by omega⟩
  | 4, _ => ⟨116, rfl, rfl, by omega⟩
  | 5, _ => ⟨101, rfl, rfl, by omega⟩
  | 6, _ => ⟨115, rfl, rfl, by omega⟩
  | 7, _ => ⟨116, rfl, rfl, by omega⟩
  | j + 8, h => by omega
theorem spl_6 {c : Nat → Nat} {tp a : Nat} {m : xMem} (T : tpS c tp m.1) (ha : a + 8 ≤ tp) : ∀ (k j fk : Nat), j + k = 8 → k < fk → L_X7_spells_i6_27 (Int32.ofNat a) fk (Int32.ofNat j) m = some (if wl c k (a + j) = (wds 6).drop j then 1 else 0, m)
  | 0, j, fk + 1, h, _ => by
    have e : j = 8 := by omega
    subst e
    unfold L_X7_spells_i6_27
    rw [len_6, Option.bind_some]
    rfl
  | k + 1, j, fk + 1, h, hf => by
    obtain ⟨t1, t2, t3⟩ := id T
    have q : ¬ Int32.ofNat 8 ≤ Int32.ofNat j := fun w => by have := (o_le (by omega) (by omega)).mp w; omega
    have i1 : xin (Int32.ofNat (a + j)) 600 = true := o_in (by omega) (by omega)
    have n1 : (Int32.ofNat (a + j)).toNatClampNeg = a + j := o_nat (by omega)
    obtain ⟨x, c1, c2, c3⟩ := chr_6 m j (by omega)
    obtain ⟨s1, s2⟩ := t3 (a + j) (by omega)
    have s1' : m.1 ag_tape_signs (a + j) = Int32.ofNat (c (a + j)) := s1
    have hd : (wds 6).drop j = x :: (wds 6).drop (j + 1) := dr_c c2
    have hrec := spl_6 T ha k (j + 1) fk (by omega) (by omega)
    have eq : (Int32.ofNat (c (a + j)) = Int32.ofNat x) ↔ c (a + j) = x := o_eq (by omega) (by omega)
    unfold L_X7_spells_i6_27
    rw [len_6, Option.bind_some]
    dsimp only
    rw [if_neg q, o_add, if_pos i1, n1, c1, Option.bind_some]
    dsimp only
    rw [s1', hd]
    show _ = some (if c (a + j) :: wl c k (a + j + 1) = x :: (wds 6).drop (j + 1) then 1 else 0, m)
    by_cases w : c (a + j) = x
    · rw [if_pos (eq.mpr w), o_succ, hrec, w]
      congr 2
      by_cases w2 : wl c k (a + (j + 1)) = (wds 6).drop (j + 1)
      · rw [if_pos w2, if_pos (by rw [← w2]; rfl)]
      · rw [if_neg w2, if_neg (fun u => w2 (by injection u))]
    · rw [if_neg (fun u => w (eq.mp u)), if_neg (fun u => w (by injection u))]
theorem spw_6 {c : Nat → Nat} {tp a e : Nat} {m : xMem} (T : tpS c tp m.1) (ha : a ≤ e) (he : e ≤ tp) : F_X7_spells_i6 (Int32.ofNat a) (Int32.ofNat e) m = some (if wl c (e - a) a = wds 6 then 1 else 0, m) := by
  obtain ⟨t1, t2, t3⟩ := id T
  have t1' : m.1 ag_tape fTape_length = Int32.ofNat tp := t1
  have q1 : ¬ Int32.ofNat a < 0 := fun w => by
    rw [Int32.lt_iff_toInt_lt, o_toInt (by omega)] at w
    have : (0 : Int32).toInt = 0 := rfl
    omega
  have q2 : ¬ Int32.ofNat tp < Int32.ofNat e := fun w => by have := (o_lt (by omega) (by omega)).mp w; omega
  unfold F_X7_spells_i6
  rw [if_neg q1, t1', if_neg q2, len_6, Option.bind_some, o_sub ha]
  dsimp only
  by_cases w : e - a = 8
  · rw [if_pos (by rw [w]), w]
    exact spl_6 T (by omega) 8 0 xfuel (by omega) (by decide)
  · rw [if_neg (fun u => w ((o_eq (by omega) (by omega)).mp u)), if_neg]
    intro u
    have := congrArg List.length u
    rw [wl_len] at this
    exact w this
theorem len_7 (m : xMem) : F_J0_length_8abf5_i7 m = some (Int32.ofNat 5, m) := by
  unfold F_J0_length_8abf5_i7 F_J0_coder_7d493_i7
  rw [if_neg (show ¬ (1 : Int32) = 0 by decide), Option.bind_some]
  dsimp only
  exact congrArg (fun v => some (v, m)) (show (5 : Int32) >>> ((0 : Int32) &&& 31) = Int32.ofNat 5 by decide)
theorem chr_7 (m : xMem) : ∀ j, j < 5 → ∃ x, F_J0_charAt_5068e_i7 (Int32.ofNat j) m = some (Int32.ofNat x, m) ∧ (wds 7)[j]? = some x ∧ x ≤ 126
  | 0, _ => ⟨102, rfl, rfl, by omega⟩
  | 1, _ => ⟨97, rfl, rfl, by omega⟩
  | 2, _ => ⟨99, rfl, rfl, by omega⟩
  | 3, _ => ⟨116, rfl, rfl, by omega⟩
  | 4, _ => ⟨115, rfl, rfl, by omega⟩
  | j + 5, h => by omega
theorem spl_7 {c : Nat → Nat} {tp a : Nat} {m : xMem} (T : tpS c tp m.1) (ha : a + 5 ≤ tp) : ∀ (k j fk : Nat), j + k = 5 → k < fk → L_X7_spells_i7_27 (Int32.ofNat a) fk (Int32.ofNat j) m = some (if wl c k (a + j) = (wds 7).drop j then 1 else 0, m)
  | 0, j, fk + 1, h, _ => by
    have e : j = 5 := by omega
    subst e
    unfold L_X7_spells_i7_27
    rw [len_7, Option.bind_some]
    rfl
  | k + 1, j, fk + 1, h, hf => by
    obtain ⟨t1, t2, t3⟩ := id T
    have q : ¬ Int32.ofNat 5 ≤ Int32.ofNat j := fun w => by have := (o_le (by omega) (by omega)).mp w; omega
    have i1 : xin (Int32.ofNat (a + j)) 600 = true := o_in (by omega) (by omega)
    have n1 : (Int32.ofNat (a + j)).toNatClampNeg = a + j := o_nat (by omega)
    obtain ⟨x, c1, c2, c3⟩ := chr_7 m j (by omega)
    obtain ⟨s1, s2⟩ := t3 (a + j) (by omega)
    have s1' : m.1 ag_tape_signs (a + j) = Int32.ofNat (c (a + j)) := s1
    have hd : (wds 7).drop j = x :: (wds 7).drop (j + 1) := dr_c c2
    have hrec := spl_7 T ha k (j + 1) fk (by omega) (by omega)
    have eq : (Int32.ofNat (c (a + j)) = Int32.ofNat x) ↔ c (a + j) = x := o_eq (by omega) (by omega)
    unfold L_X7_spells_i7_27
    rw [len_7, Option.bind_some]
    dsimp only
    rw [if_neg q, o_add, if_pos i1, n1, c1, Option.bind_some]
    dsimp only
    rw [s1', hd]
    show _ = some (if c (a + j) :: wl c k (a + j + 1) = x :: (wds 7).drop (j + 1) then 1 else 0, m)
    by_cases w : c (a + j) = x
    · rw [if_pos (eq.mpr w), o_succ, hrec, w]
      congr 2
      by_cases w2 : wl c k (a + (j + 1)) = (wds 7).drop (j + 1)
      · rw [if_pos w2, if_pos (by rw [← w2]; rfl)]
      · rw [if_neg w2, if_neg (fun u => w2 (by injection u))]
    · rw [if_neg (fun u => w (eq.mp u)), if_neg (fun u => w (by injection u))]
theorem spw_7 {c : Nat → Nat} {tp a e : Nat} {m : xMem} (T : tpS c tp m.1) (ha : a ≤ e) (he : e ≤ tp) : F_X7_spells_i7 (Int32.ofNat a) (Int32.ofNat e) m = some (if wl c (e - a) a = wds 7 then 1 else 0, m) := by
  obtain ⟨t1, t2, t3⟩ := id T
  have t1' : m.1 ag_tape fTape_length = Int32.ofNat tp := t1
  have q1 : ¬ Int32.ofNat a < 0 := fun w => by
    rw [Int32.lt_iff_toInt_lt, o_toInt (by omega)] at w
    have : (0 : Int32).toInt = 0 := rfl
    omega
  have q2 : ¬ Int32.ofNat tp < Int32.ofNat e := fun w => by have := (o_lt (by omega) (by omega)).mp w; omega
  unfold F_X7_spells_i7
  rw [if_neg q1, t1', if_neg q2, len_7, Option.bind_some, o_sub ha]
  dsimp only
  by_cases w : e - a = 5
  · rw [if_pos (by rw [w]), w]
    exact spl_7 T (by omega) 5 0 xfuel (by omega) (by decide)
  · rw [if_neg (fun u => w ((o_eq (by omega) (by omega)).mp u)), if_neg]
    intro u
    have := congrArg List.length u
    rw [wl_len] at this
    exact w this
theorem len_8 (m : xMem) : F_J0_length_8abf5_i8 m = some (Int32.ofNat 4, m) := by
  unfold F_J0_length_8abf5_i8 F_J0_coder_7d493_i8
  rw [if_neg (show ¬ (1 : Int32) = 0 by decide), Option.bind_some]
  dsimp only
  exact congrArg (fun v => some (v, m)) (show (4 : Int32) >>> ((0 : Int32) &&& 31) = Int32.ofNat 4 by decide)
theorem chr_8 (m : xMem) : ∀ j, j < 4 → ∃ x, F_J0_charAt_5068e_i8 (Int32.ofNat j) m = some (Int32.ofNat x, m) ∧ (wds 8)[j]? = some x ∧ x ≤ 126
  | 0, _ => ⟨112, rfl, rfl, by omega⟩
  | 1, _ => ⟨97, rfl, rfl, by omega⟩
  | 2, _ => ⟨105, rfl, rfl, by omega⟩
  | 3, _ => ⟨100, rfl, rfl, by omega⟩
  | j + 4, h => by omega
theorem spl_8 {c : Nat → Nat} {tp a : Nat} {m : xMem} (T : tpS c tp m.1) (ha : a + 4 ≤ tp) : ∀ (k j fk : Nat), j + k = 4 → k < fk → L_X7_spells_i8_27 (Int32.ofNat a) fk (Int32.ofNat j) m = some (if wl c k (a + j) = (wds 8).drop j then 1 else 0, m)
  | 0, j, fk + 1, h, _ => by
    have e : j = 4 := by omega
    subst e
    unfold L_X7_spells_i8_27
    rw [len_8, Option.bind_some]
    rfl
  | k + 1, j, fk + 1, h, hf => by
    obtain ⟨t1, t2, t3⟩ := id T
    have q : ¬ Int32.ofNat 4 ≤ Int32.ofNat j := fun w => by have := (o_le (by omega) (by omega)).mp w; omega
    have i1 : xin (Int32.ofNat (a + j)) 600 = true := o_in (by omega) (by omega)
    have n1 : (Int32.ofNat (a + j)).toNatClampNeg = a + j := o_nat (by omega)
    obtain ⟨x, c1, c2, c3⟩ := chr_8 m j (by omega)
    obtain ⟨s1, s2⟩ := t3 (a + j) (by omega)
    have s1' : m.1 ag_tape_signs (a + j) = Int32.ofNat (c (a + j)) := s1
    have hd : (wds 8).drop j = x :: (wds 8).drop (j + 1) := dr_c c2
    have hrec := spl_8 T ha k (j + 1) fk (by omega) (by omega)
    have eq : (Int32.ofNat (c (a + j)) = Int32.ofNat x) ↔ c (a + j) = x := o_eq (by omega) (by omega)
    unfold L_X7_spells_i8_27
    rw [len_8, Option.bind_some]
    dsimp only
    rw [if_neg q, o_add, if_pos i1, n1, c1, Option.bind_some]
    dsimp only
    rw [s1', hd]
    show _ = some (if c (a + j) :: wl c k (a + j + 1) = x :: (wds 8).drop (j + 1) then 1 else 0, m)
    by_cases w : c (a + j) = x
    · rw [if_pos (eq.mpr w), o_succ, hrec, w]
      congr 2
      by_cases w2 : wl c k (a + (j + 1)) = (wds 8).drop (j + 1)
      · rw [if_pos w2, if_pos (by rw [← w2]; rfl)]
      · rw [if_neg w2, if_neg (fun u => w2 (by injection u))]
    · rw [if_neg (fun u => w (eq.mp u)), if_neg (fun u => w (by injection u))]
theorem spw_8 {c : Nat → Nat} {tp a e : Nat} {m : xMem} (T : tpS c tp m.1) (ha : a ≤ e) (he : e ≤ tp) : F_X7_spells_i8 (Int32.ofNat a) (Int32.ofNat e) m = some (if wl c (e - a) a = wds 8 then 1 else 0, m) := by
  obtain ⟨t1, t2, t3⟩ := id T
  have t1' : m.1 ag_tape fTape_length = Int32.ofNat tp := t1
  have q1 : ¬ Int32.ofNat a < 0 := fun w => by
    rw [Int32.lt_iff_toInt_lt, o_toInt (by omega)] at w
    have : (0 : Int32).toInt = 0 := rfl
    omega
  have q2 : ¬ Int32.ofNat tp < Int32.ofNat e := fun w => by have := (o_lt (by omega) (by omega)).mp w; omega
  unfold F_X7_spells_i8
  rw [if_neg q1, t1', if_neg q2, len_8, Option.bind_some, o_sub ha]
  dsimp only
  by_cases w : e - a = 4
  · rw [if_pos (by rw [w]), w]
    exact spl_8 T (by omega) 4 0 xfuel (by omega) (by decide)
  · rw [if_neg (fun u => w ((o_eq (by omega) (by omega)).mp u)), if_neg]
    intro u
    have := congrArg List.length u
    rw [wl_len] at this
    exact w this
/-- a word's code -/
def wcd (l : List Nat) : Nat := if l = wds 0 then 201 else if l = wds 1 then 202 else if l = wds 2 then 203 else if l = wds 3 then 204 else if l = wds 4 then 205 else if l = wds 5 then 206 else if l = wds 6 then 207 else if l = wds 7 then 208 else if l = wds 8 then 209 else 1
theorem c_wordToken {c : Nat → Nat} {tp a e : Nat} {m : xMem} (T : tpS c tp m.1) (ha : a ≤ e) (he : e ≤ tp) : F_X8_wordToken (Int32.ofNat a) (Int32.ofNat e) m = some (Int32.ofNat (wcd (wl c (e - a) a)), m) := by
  have d10 : ¬ ((1 : Int32) = 0) := by decide
  unfold F_X8_wordToken wcd
  rw [spw_0 T ha he, Option.bind_some]
  dsimp only
  by_cases w0 : wl c (e - a) a = wds 0
  · rw [if_pos w0, if_pos w0, if_neg d10]
    rfl
  rw [if_neg w0, if_neg w0, if_pos rfl]
  rw [spw_1 T ha he, Option.bind_some]
  dsimp only
  by_cases w1 : wl c (e - a) a = wds 1
  · rw [if_pos w1, if_pos w1, if_neg d10]
    rfl
  rw [if_neg w1, if_neg w1, if_pos rfl]
  rw [spw_2 T ha he, Option.bind_some]
  dsimp only
  by_cases w2 : wl c (e - a) a = wds 2
  · rw [if_pos w2, if_pos w2, if_neg d10]
    rfl
  rw [if_neg w2, if_neg w2, if_pos rfl]
  rw [spw_3 T ha he, Option.bind_some]
  dsimp only
  by_cases w3 : wl c (e - a) a = wds 3
  · rw [if_pos w3, if_pos w3, if_neg d10]
    rfl
  rw [if_neg w3, if_neg w3, if_pos rfl]
  rw [spw_4 T ha he, Option.bind_some]
  dsimp only
  by_cases w4 : wl c (e - a) a = wds 4
  · rw [if_pos w4, if_pos w4, if_neg d10]
    rfl
  rw [if_neg w4, if_neg w4, if_pos rfl]
  rw [spw_5 T ha he, Option.bind_some]
  dsimp only
  by_cases w5 : wl c (e - a) a = wds 5
  · rw [if_pos w5, if_pos w5, if_neg d10]
    rfl
  rw [if_neg w5, if_neg w5, if_pos rfl]
  rw [spw_6 T ha he, Option.bind_some]
  dsimp only
  by_cases w6 : wl c (e - a) a = wds 6
  · rw [if_pos w6, if_pos w6, if_neg d10]
    rfl
  rw [if_neg w6, if_neg w6, if_pos rfl]
  rw [spw_7 T ha he, Option.bind_some]
  dsimp only
  by_cases w7 : wl c (e - a) a = wds 7
  · rw [if_pos w7, if_pos w7, if_neg d10]
    rfl
  rw [if_neg w7, if_neg w7, if_pos rfl]
  rw [spw_8 T ha he, Option.bind_some]
  dsimp only
  by_cases w8 : wl c (e - a) a = wds 8
  · rw [if_pos w8, if_pos w8, if_neg d10]
    rfl
  rw [if_neg w8, if_neg w8, if_pos rfl]
  rfl
