section CU
variable {c : Nat → Nat} {tp : Nat}
def vl : List Nat → Nat → Nat
  | [], v => v
  | x :: xs, v => vl xs (37 * v + (x - 96))
def rv : List Nat → Nat
  | [] => 0
  | x :: xs => 37 * rv xs + (x - 96)
theorem vl_rv : ∀ xs ys, vl xs (rv ys) = rv (xs.reverse ++ ys)
  | [], ys => rfl
  | x :: xs, ys => by
    have := vl_rv xs (x :: ys)
    rw [List.reverse_cons, List.append_assoc]
    exact this
theorem rv_inj : ∀ xs ys : List Nat, (∀ x ∈ xs, 97 ≤ x ∧ x ≤ 122) → (∀ x ∈ ys, 97 ≤ x ∧ x ≤ 122) → rv xs = rv ys → xs = ys
  | [], [], _, _, _ => rfl
  | [], y :: ys, _, h2, h => by
    have := h2 y (List.mem_cons_self ..)
    have h' : 0 = 37 * rv ys + (y - 96) := h
    omega
  | x :: xs, [], h1, _, h => by
    have := h1 x (List.mem_cons_self ..)
    have h' : 37 * rv xs + (x - 96) = 0 := h
    omega
  | x :: xs, y :: ys, h1, h2, h => by
    have a := h1 x (List.mem_cons_self ..)
    have b := h2 y (List.mem_cons_self ..)
    have h' : 37 * rv xs + (x - 96) = 37 * rv ys + (y - 96) := h
    rw [rv_inj xs ys (fun z hz => h1 z (List.mem_cons_of_mem _ hz)) (fun z hz => h2 z (List.mem_cons_of_mem _ hz)) (by omega)]
    congr 1
    omega
theorem vl_inj {xs ys : List Nat} (h1 : ∀ x ∈ xs, 97 ≤ x ∧ x ≤ 122) (h2 : ∀ x ∈ ys, 97 ≤ x ∧ x ≤ 122) (h : vl xs 0 = vl ys 0) : xs = ys := by
  have e1 := vl_rv xs []
  have e2 := vl_rv ys []
  rw [List.append_nil] at e1 e2
  have e : rv xs.reverse = rv ys.reverse := by rw [← e1, ← e2]; exact h
  have := rv_inj _ _ (fun x hx => h1 x (List.mem_reverse.mp hx)) (fun x hx => h2 x (List.mem_reverse.mp hx)) e
  have := congrArg List.reverse this
  rw [List.reverse_reverse, List.reverse_reverse] at this
  exact this
theorem wds_g : ∀ w : Fin 9, (∀ x ∈ wds w.1, 97 ≤ x ∧ x ≤ 122) ∧ Int64.ofNat (vl (wds w.1) 0) = xm0.2 92 w.1 ∧ (wds w.1).length ≤ 8 ∧ vl (wds w.1) 0 < 9000000000000 := by decide +kernel
theorem vl_lt : ∀ (xs : List Nat) (v n : Nat), (∀ x ∈ xs, 97 ≤ x ∧ x ≤ 122) → v < 37 ^ n → vl xs v < 37 ^ (n + xs.length)
  | [], v, n, _, h => h
  | x :: xs, v, n, h1, h => by
    have a := h1 x (List.mem_cons_self ..)
    have := vl_lt xs (37 * v + (x - 96)) (n + 1) (fun z hz => h1 z (List.mem_cons_of_mem _ hz)) (by rw [Nat.pow_succ]; omega)
    rw [List.length_cons, show n + (xs.length + 1) = n + 1 + xs.length by omega]
    exact this
theorem wl_mem {p : Nat → Bool} (hp : ∀ j, p j = true → 97 ≤ c j ∧ c j ≤ 122) : ∀ k a, (∀ j, a ≤ j → j < a + k → p j = true) → ∀ x ∈ wl c k a, 97 ≤ x ∧ x ≤ 122
  | 0, a, _, x, hx => by cases hx
  | k + 1, a, h, x, hx => by
    rcases List.mem_cons.mp hx with e | e
    · rw [e]; exact hp a (h a (by omega) (by omega))
    · exact wl_mem hp k (a + 1) (fun j h1 h2 => h j (by omega) (by omega)) x e
theorem i64_inj {a b : Nat} (ha : a < 9000000000000000) (hb : b < 9000000000000000) (h : Int64.ofNat a = Int64.ofNat b) : a = b := by
  have := congrArg Int64.toInt h
  rw [Int64.toInt_ofNat_of_lt (by omega), Int64.toInt_ofNat_of_lt (by omega)] at this
  omega
theorem wcd_c (l : List Nat) : (wcd l = 1 ∧ ∀ w, w < 9 → l ≠ wds w) ∨ ∃ w, w < 9 ∧ wcd l = 201 + w ∧ l = wds w := by
  unfold wcd
  by_cases w0 : l = wds 0
  · rw [if_pos w0]; exact Or.inr ⟨0, by omega, rfl, w0⟩
  rw [if_neg w0]
  by_cases w1 : l = wds 1
  · rw [if_pos w1]; exact Or.inr ⟨1, by omega, rfl, w1⟩
  rw [if_neg w1]
  by_cases w2 : l = wds 2
  · rw [if_pos w2]; exact Or.inr ⟨2, by omega, rfl, w2⟩
  rw [if_neg w2]
  by_cases w3 : l = wds 3
  · rw [if_pos w3]; exact Or.inr ⟨3, by omega, rfl, w3⟩
  rw [if_neg w3]
  by_cases w4 : l = wds 4
  · rw [if_pos w4]; exact Or.inr ⟨4, by omega, rfl, w4⟩
  rw [if_neg w4]
  by_cases w5 : l = wds 5
  · rw [if_pos w5]; exact Or.inr ⟨5, by omega, rfl, w5⟩
  rw [if_neg w5]
  by_cases w6 : l = wds 6
  · rw [if_pos w6]; exact Or.inr ⟨6, by omega, rfl, w6⟩
  rw [if_neg w6]
  by_cases w7 : l = wds 7
  · rw [if_pos w7]; exact Or.inr ⟨7, by omega, rfl, w7⟩
  rw [if_neg w7]
  by_cases w8 : l = wds 8
  · rw [if_pos w8]; exact Or.inr ⟨8, by omega, rfl, w8⟩
  rw [if_neg w8]
  refine Or.inl ⟨rfl, fun w hw => ?_⟩
  have : w = 0 ∨ w = 1 ∨ w = 2 ∨ w = 3 ∨ w = 4 ∨ w = 5 ∨ w = 6 ∨ w = 7 ∨ w = 8 := by omega
  rcases this with e | e | e | e | e | e | e | e | e <;> rw [e] <;> assumption
/-- the reference's tape -/
def tpM (c : Nat → Nat) (tp : Nat) (I : xI) : Prop := I 87 3 = Int32.ofNat tp ∧ tp ≤ 600 ∧ ∀ k, k < tp → I 88 k = Int32.ofNat (c k) ∧ c k ≤ 126
theorem m_isL {x : Nat} (hx : x ≤ 126) (m : xMem) : F_X10_isLetter (Int32.ofNat x) m = some (if 97 ≤ x ∧ x ≤ 122 then 1 else 0, m) := by
  have l1 : (Int32.ofNat x < 97) ↔ x < 97 := o_lt (b := 97) (by omega) (by omega)
  have l2 : (122 < Int32.ofNat x) ↔ 122 < x := o_lt (a := 122) (by omega) (by omega)
  unfold F_X10_isLetter
  by_cases w : x < 97
  · rw [if_pos (l1.mpr w), if_neg (by omega)]
  · rw [if_neg (fun u => w (l1.mp u))]
    by_cases w2 : 122 < x
    · rw [if_pos (l2.mpr w2), if_neg (by omega)]
    · rw [if_neg (fun u => w2 (l2.mp u)), if_pos (by omega)]
theorem m_isD {x : Nat} (hx : x ≤ 126) (m : xMem) : F_X10_isDigit (Int32.ofNat x) m = some (if 48 ≤ x ∧ x ≤ 57 then 1 else 0, m) := by
  have l1 : (Int32.ofNat x < 48) ↔ x < 48 := o_lt (b := 48) (by omega) (by omega)
  have l2 : (57 < Int32.ofNat x) ↔ 57 < x := o_lt (a := 57) (by omega) (by omega)
  unfold F_X10_isDigit
  by_cases w : x < 48
  · rw [if_pos (l1.mpr w), if_neg (by omega)]
  · rw [if_neg (fun u => w (l1.mp u))]
    by_cases w2 : 57 < x
    · rw [if_pos (l2.mpr w2), if_neg (by omega)]
    · rw [if_neg (fun u => w2 (l2.mp u)), if_pos (by omega)]
theorem m_let {m : xMem} (T : tpM c tp m.1) {x1 : Int32} {a0 : Nat} {C : Int32 → Int64 → xMem → Option (Int32 × xMem)} : ∀ (k a fk v : Nat), a + k = tp → k < fk → a0 ≤ a → v < 37 ^ (a - a0) ∨ 8 ≤ a - a0 → ∃ v', L_X10_cutAll_70 x1 (Int32.ofNat a0) C fk (Int32.ofNat a) (Int64.ofNat v) m = C (Int32.ofNat (rend (isl c) k a)) (Int64.ofNat v') m ∧ (rend (isl c) k a - a0 ≤ 8 → v' = vl (wl c (rend (isl c) k a - a) a) v)
  | 0, a, fk + 1, v, h, _, h0, _ => by
    have t2 := T.2.1
    have t1' : m.1 am fGuideBookModel_size = Int32.ofNat tp := T.1
    have q : Int32.ofNat tp ≤ Int32.ofNat a := (o_le (by omega) (by omega)).mpr (by omega)
    refine ⟨v, ?_, fun _ => ?_⟩
    · unfold L_X10_cutAll_70
      rw [t1', if_pos q]
      rfl
    · show v = vl (wl c (a - a) a) v
      rw [Nat.sub_self]
      rfl
  | k + 1, a, fk + 1, v, h, hf, h0, hv => by
    have t2 := T.2.1
    have t1' : m.1 am fGuideBookModel_size = Int32.ofNat tp := T.1
    have q : ¬ Int32.ofNat tp ≤ Int32.ofNat a := fun w => by have := (o_le (by omega) (by omega)).mp w; omega
    have i1 : xin (Int32.ofNat a) 600 = true := o_in (by omega) (by omega)
    have n1 : (Int32.ofNat a).toNatClampNeg = a := o_nat (by omega)
    obtain ⟨s1, s2⟩ := T.2.2 a (by omega)
    have s1' : m.1 am_tape a = Int32.ofNat (c a) := s1
    have er : rend (isl c) (k + 1) a = if isl c a then rend (isl c) k (a + 1) else a := rfl
    by_cases w : 97 ≤ c a ∧ c a ≤ 122
    · have wl' : isl c a = true := decide_eq_true w
      rw [er, if_pos wl']
      have hr := rend_le (p := isl c) k (a + 1)
      have step : ∀ v1, (v1 < 37 ^ (a + 1 - a0) ∨ 8 ≤ a + 1 - a0) → (a - a0 < 8 → v1 = 37 * v + (c a - 96)) → L_X10_cutAll_70 x1 (Int32.ofNat a0) C (fk + 1) (Int32.ofNat a) (Int64.ofNat v) m = L_X10_cutAll_70 x1 (Int32.ofNat a0) C fk (Int32.ofNat (a + 1)) (Int64.ofNat v1) m → ∃ v', L_X10_cutAll_70 x1 (Int32.ofNat a0) C (fk + 1) (Int32.ofNat a) (Int64.ofNat v) m = C (Int32.ofNat (rend (isl c) k (a + 1))) (Int64.ofNat v') m ∧ (rend (isl c) k (a + 1) - a0 ≤ 8 → v' = vl (wl c (rend (isl c) k (a + 1) - a) a) v) := by
        intro v1 b1 b2 hs
        obtain ⟨v', r1, r2⟩ := m_let T (x1 := x1) (a0 := a0) (C := C) k (a + 1) fk v1 (by omega) (by omega) (by omega) b1
        refine ⟨v', hs.trans r1, fun u => ?_⟩
        rw [r2 u, b2 (by omega), show rend (isl c) k (a + 1) - a = (rend (isl c) k (a + 1) - (a + 1)) + 1 by omega]
        rfl
      by_cases w8 : 8 ≤ a - a0
      · have q8 : 8 ≤ Int32.ofNat a - Int32.ofNat a0 := by rw [o_sub h0]; exact (o_le (a := 8) (by omega) (by omega)).mpr w8
        refine step v (Or.inr (by omega)) (fun u => by omega) ?_
        rw [L_X10_cutAll_70, t1', if_neg q, if_pos i1, n1, s1', m_isL s2, Option.bind_some]
        dsimp only
        rw [if_pos w, if_neg (by decide), if_pos q8]
        unfold J_X10_cutAll_121
        rw [o_succ]
      · have q8 : ¬ 8 ≤ Int32.ofNat a - Int32.ofNat a0 := by rw [o_sub h0]; exact fun u => w8 ((o_le (a := 8) (by omega) (by omega)).mp u)
        have hv' : v < 37 ^ (a - a0) := hv.elim id (fun u => absurd u w8)
        have ev : (37 : Int64) * Int64.ofNat v + (Int32.ofNat (c a) - 96).toInt64 = Int64.ofNat (37 * v + (c a - 96)) := by
          rw [show (96 : Int32) = Int32.ofNat 96 from rfl, o_sub (show 96 ≤ c a by omega)]
          have h37 : 37 ^ (a - a0) ≤ 37 ^ 7 := Nat.pow_le_pow_right (by omega) (by omega)
          have h377 : (37 : Nat) ^ 7 = 94931877133 := by decide
          have z : (37 : Int64).toInt = 37 := rfl
          have y1 : (Int64.ofNat v).toInt = v := Int64.toInt_ofNat_of_lt (by omega)
          have y2 : (Int32.ofNat (c a - 96)).toInt64.toInt = ((c a - 96 : Nat) : Int) := by rw [Int32.toInt_toInt64, o_toInt (by omega)]
          have y3 : ((37 : Int64) * Int64.ofNat v).toInt = 37 * (v : Int) := by rw [j_mul (by rw [z, y1]; omega) (by rw [z, y1]; omega), z, y1]
          rw [← Int64.toInt_inj, j_add (by rw [y2, y3]; omega) (by rw [y2, y3]; omega), y2, y3, Int64.toInt_ofNat_of_lt (by omega)]
          push_cast
          rfl
        refine step (37 * v + (c a - 96)) (Or.inl (by rw [show a + 1 - a0 = (a - a0) + 1 by omega, Nat.pow_succ]; omega)) (fun _ => rfl) ?_
        rw [L_X10_cutAll_70, t1', if_neg q, if_pos i1, n1, s1', m_isL s2, Option.bind_some]
        dsimp only
        rw [if_pos w, if_neg (by decide), if_neg q8, if_pos i1, s1']
        unfold F_X10_rank
        rw [m_isL s2, Option.bind_some]
        dsimp only
        rw [if_pos w, if_neg (by decide), Option.bind_some]
        dsimp only
        unfold J_X10_cutAll_121
        rw [o_succ, ev]
    · have wl' : ¬ isl c a = true := fun u => w (of_decide_eq_true u)
      rw [er, if_neg wl']
      refine ⟨v, ?_, fun _ => by rw [Nat.sub_self]; rfl⟩
      rw [L_X10_cutAll_70, t1', if_neg q, if_pos i1, n1, s1', m_isL s2, Option.bind_some]
      dsimp only
      rw [if_neg w, if_pos rfl]
theorem m_dig {m : xMem} (T : tpM c tp m.1) {x1 : Int32} {a0 : Nat} {C : Int32 → Int64 → xMem → Option (Int32 × xMem)} : ∀ (k a fk v : Nat), a + k = tp → k < fk → a0 ≤ a → v < 10 ^ (a - a0) ∨ 4 ≤ a - a0 → ∃ v', L_X10_cutAll_159 x1 (Int32.ofNat a0) C fk (Int32.ofNat a) (Int64.ofNat v) m = C (Int32.ofNat (rend (isd c) k a)) (Int64.ofNat v') m ∧ (rend (isd c) k a - a0 ≤ 4 → v' = nmb c (rend (isd c) k a - a) a v)
  | 0, a, fk + 1, v, h, _, h0, _ => by
    have t2 := T.2.1
    have t1' : m.1 am fGuideBookModel_size = Int32.ofNat tp := T.1
    have q : Int32.ofNat tp ≤ Int32.ofNat a := (o_le (by omega) (by omega)).mpr (by omega)
    refine ⟨v, ?_, fun _ => ?_⟩
    · unfold L_X10_cutAll_159
      rw [t1', if_pos q]
      rfl
    · show v = nmb c (a - a) a v
      rw [Nat.sub_self]
      rfl
  | k + 1, a, fk + 1, v, h, hf, h0, hv => by
    have t2 := T.2.1
    have t1' : m.1 am fGuideBookModel_size = Int32.ofNat tp := T.1
    have q : ¬ Int32.ofNat tp ≤ Int32.ofNat a := fun w => by have := (o_le (by omega) (by omega)).mp w; omega
    have i1 : xin (Int32.ofNat a) 600 = true := o_in (by omega) (by omega)
    have n1 : (Int32.ofNat a).toNatClampNeg = a := o_nat (by omega)
    obtain ⟨s1, s2⟩ := T.2.2 a (by omega)
    have s1' : m.1 am_tape a = Int32.ofNat (c a) := s1
    have er : rend (isd c) (k + 1) a = if isd c a then rend (isd c) k (a + 1) else a := rfl
    by_cases w : 48 ≤ c a ∧ c a ≤ 57
    · have wl' : isd c a = true := decide_eq_true w
      rw [er, if_pos wl']
      have hr := rend_le (p := isd c) k (a + 1)
      have step : ∀ v1, (v1 < 10 ^ (a + 1 - a0) ∨ 4 ≤ a + 1 - a0) → (a - a0 < 4 → v1 = v * 10 + (c a - 48)) → L_X10_cutAll_159 x1 (Int32.ofNat a0) C (fk + 1) (Int32.ofNat a) (Int64.ofNat v) m = L_X10_cutAll_159 x1 (Int32.ofNat a0) C fk (Int32.ofNat (a + 1)) (Int64.ofNat v1) m → ∃ v', L_X10_cutAll_159 x1 (Int32.ofNat a0) C (fk + 1) (Int32.ofNat a) (Int64.ofNat v) m = C (Int32.ofNat (rend (isd c) k (a + 1))) (Int64.ofNat v') m ∧ (rend (isd c) k (a + 1) - a0 ≤ 4 → v' = nmb c (rend (isd c) k (a + 1) - a) a v) := by
        intro v1 b1 b2 hs
        obtain ⟨v', r1, r2⟩ := m_dig T (x1 := x1) (a0 := a0) (C := C) k (a + 1) fk v1 (by omega) (by omega) (by omega) b1
        refine ⟨v', hs.trans r1, fun u => ?_⟩
        rw [r2 u, b2 (by omega), show rend (isd c) k (a + 1) - a = (rend (isd c) k (a + 1) - (a + 1)) + 1 by omega]
        rfl
      by_cases w8 : 4 ≤ a - a0
      · have q8 : 4 ≤ Int32.ofNat a - Int32.ofNat a0 := by rw [o_sub h0]; exact (o_le (a := 4) (by omega) (by omega)).mpr w8
        refine step v (Or.inr (by omega)) (fun u => by omega) ?_
        rw [L_X10_cutAll_159, t1', if_neg q, if_pos i1, n1, s1', m_isD s2, Option.bind_some]
        dsimp only
        rw [if_pos w, if_neg (by decide), if_pos q8]
        unfold J_X10_cutAll_210
        rw [o_succ]
      · have q8 : ¬ 4 ≤ Int32.ofNat a - Int32.ofNat a0 := by rw [o_sub h0]; exact fun u => w8 ((o_le (a := 4) (by omega) (by omega)).mp u)
        have hv' : v < 10 ^ (a - a0) := hv.elim id (fun u => absurd u w8)
        have ev : (10 : Int64) * Int64.ofNat v + (Int32.ofNat (c a)).toInt64 - 48 = Int64.ofNat (v * 10 + (c a - 48)) := by
          have h37 : 10 ^ (a - a0) ≤ 10 ^ 4 := Nat.pow_le_pow_right (by omega) (by omega)
          have z : (10 : Int64).toInt = 10 := rfl
          have z8 : (48 : Int64).toInt = 48 := rfl
          have y1 : (Int64.ofNat v).toInt = v := Int64.toInt_ofNat_of_lt (by omega)
          have y2 : (Int32.ofNat (c a)).toInt64.toInt = (c a : Int) := by rw [Int32.toInt_toInt64, o_toInt (by omega)]
          have y3 : ((10 : Int64) * Int64.ofNat v).toInt = 10 * (v : Int) := by rw [j_mul (by rw [z, y1]; omega) (by rw [z, y1]; omega), z, y1]
          have y4 : ((10 : Int64) * Int64.ofNat v + (Int32.ofNat (c a)).toInt64).toInt = 10 * (v : Int) + c a := by rw [j_add (by rw [y2, y3]; omega) (by rw [y2, y3]; omega), y2, y3]
          rw [← Int64.toInt_inj, j_sub (by rw [y4, z8]; omega) (by rw [y4, z8]; omega), y4, z8, Int64.toInt_ofNat_of_lt (by omega)]
          omega
        refine step (v * 10 + (c a - 48)) (Or.inl (by rw [show a + 1 - a0 = (a - a0) + 1 by omega, Nat.pow_succ]; omega)) (fun _ => rfl) ?_
        rw [L_X10_cutAll_159, t1', if_neg q, if_pos i1, n1, s1', m_isD s2, Option.bind_some]
        dsimp only
        rw [if_pos w, if_neg (by decide), if_neg q8, if_pos i1, s1']
        unfold J_X10_cutAll_210
        rw [o_succ, ev]
    · have wl' : ¬ isd c a = true := fun u => w (of_decide_eq_true u)
      rw [er, if_neg wl']
      refine ⟨v, ?_, fun _ => by rw [Nat.sub_self]; rfl⟩
      rw [L_X10_cutAll_159, t1', if_neg q, if_pos i1, n1, s1', m_isD s2, Option.bind_some]
      dsimp only
      rw [if_neg w, if_pos rfl]
end CU
