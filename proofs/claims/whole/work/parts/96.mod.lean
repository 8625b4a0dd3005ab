/-! the reference's parser -/
section MP
variable {K : Nat → Nat} {V : Nat → Int32} {Pl : Nat → Nat} {N : Nat}
def sgn (k : Nat) : Prop := k = 40 ∨ k = 41 ∨ k = 43 ∨ k = 45 ∨ k = 59 ∨ k = 60 ∨ k = 61
/-- the reference's tokens -/
def MTk (K : Nat → Nat) (V : Nat → Int32) (Pl : Nat → Nat) (N : Nat) (m : xMem) : Prop := N ≤ 600 ∧ m.2 92 = xm0.2 92 ∧ ∀ i, i ≤ N → m.1 90 i = Int32.ofNat (Pl i) ∧ Pl i ≤ 600 ∧ ((K i = 0 ∧ m.1 89 i = 0) ∨ (K i = 1 ∧ (m.1 89 i = 4 ∨ (m.1 89 i = 1 ∧ ∀ w, w < 9 → m.2 91 i ≠ m.2 92 w))) ∨ (K i = 2 ∧ m.1 89 i = 2 ∧ m.2 91 i = (V i).toInt64) ∨ (sgn (K i) ∧ m.1 89 i = 3 ∧ m.2 91 i = (Int32.ofNat (K i)).toInt64) ∨ (201 ≤ K i ∧ K i ≤ 209 ∧ m.1 89 i = 1 ∧ m.2 91 i = m.2 92 (K i - 201)))
theorem wd_ne : ∀ a b : Fin 9, a ≠ b → xm0.2 92 a.1 ≠ xm0.2 92 b.1 := by decide +kernel
theorem wd_eq {a b : Nat} (ha : a < 9) (hb : b < 9) (h : xm0.2 92 a = xm0.2 92 b) : a = b := by
  by_cases w : a = b
  · exact w
  · exact absurd h (wd_ne ⟨a, ha⟩ ⟨b, hb⟩ (fun u => w (by simpa using u)))
theorem sg_eq {a b : Nat} (ha : a ≤ 300) (hb : b ≤ 300) : ((Int32.ofNat a).toInt64 = (Int32.ofNat b).toInt64) ↔ a = b := by
  rw [← Int64.toInt_inj, Int32.toInt_toInt64, Int32.toInt_toInt64, o_toInt (by omega), o_toInt (by omega)]
  omega
/-- no fault yet, at token i -/
def mAt0 (K : Nat → Nat) (V : Nat → Int32) (Pl : Nat → Nat) (N : Nat) (m : xMem) (i : Nat) : Prop := MTk K V Pl N m ∧ m.1 87 8 = 0 ∧ m.1 87 7 = Int32.ofNat i ∧ i ≤ N
theorem m_isSign {m : xMem} {i c : Nat} (h : mAt0 K V Pl N m i) (hc : sgn c) : F_X10_isSign (Int32.ofNat c) m = some (if K i = c then 1 else 0, m) := by
  obtain ⟨⟨hN, hw, ht⟩, hf, ha, hi⟩ := h
  have hf' : m.1 am fGuideBookModel_fault = 0 := hf
  have ha' : m.1 am fGuideBookModel_at = Int32.ofNat i := ha
  have i1 : xin (Int32.ofNat i) 602 = true := o_in (by omega) (by omega)
  have n1 : (Int32.ofNat i).toNatClampNeg = i := o_nat (by omega)
  obtain ⟨-, -, t⟩ := ht i hi
  have hc3 : c ≤ 300 := by unfold sgn at hc; omega
  unfold F_X10_isSign
  rw [hf', if_pos rfl, ha', if_pos i1, n1]
  have no : ¬ m.1 89 i = 3 → K i ≠ c → (if m.1 am_sort i = 3 then (if xin (Int32.ofNat i) 602 = true then (if lg_cmp (m.2 am_value i) (Int32.ofNat c).toInt64 = 0 then some ((1 : Int32), m) else some ((0 : Int32), m)) else none) else some ((0 : Int32), m)) = some (if K i = c then 1 else 0, m) := by
    intro w1 w2
    rw [if_neg (show ¬ m.1 am_sort i = 3 from w1), if_neg w2]
  rcases t with ⟨k, s⟩ | ⟨k, s⟩ | ⟨k, s, -⟩ | ⟨k, s, v⟩ | ⟨k1, k2, s, -⟩
  · exact no (by rw [s]; decide) (by unfold sgn at hc; omega)
  · refine no ?_ (by unfold sgn at hc; omega)
    rcases s with s | ⟨s, -⟩ <;> rw [s] <;> decide
  · exact no (by rw [s]; decide) (by unfold sgn at hc; omega)
  · have hk3 : K i ≤ 300 := by unfold sgn at k; omega
    have s' : m.1 am_sort i = 3 := s
    have v' : m.2 am_value i = (Int32.ofNat (K i)).toInt64 := v
    rw [if_pos s', if_pos i1, v']
    by_cases w : K i = c
    · rw [if_pos ((lg_cmp_eq _ _).mpr ((sg_eq hk3 hc3).mpr w)), if_pos w]
    · rw [if_neg (fun u => w ((sg_eq hk3 hc3).mp ((lg_cmp_eq _ _).mp u))), if_neg w]
  · exact no (by rw [s]; decide) (by unfold sgn at hc; omega)
theorem m_isWord {m : xMem} {i w : Nat} (h : mAt0 K V Pl N m i) (hw9 : w < 9) : F_X10_isWord (Int32.ofNat w) m = some (if K i = 201 + w then 1 else 0, m) := by
  obtain ⟨⟨hN, hw, ht⟩, hf, ha, hi⟩ := h
  have hf' : m.1 am fGuideBookModel_fault = 0 := hf
  have ha' : m.1 am fGuideBookModel_at = Int32.ofNat i := ha
  have i1 : xin (Int32.ofNat i) 602 = true := o_in (by omega) (by omega)
  have n1 : (Int32.ofNat i).toNatClampNeg = i := o_nat (by omega)
  have i2 : xin (Int32.ofNat w) 9 = true := o_in (by omega) (by omega)
  have n2 : (Int32.ofNat w).toNatClampNeg = w := o_nat (by omega)
  obtain ⟨-, -, t⟩ := ht i hi
  unfold F_X10_isWord
  rw [hf', if_pos rfl, ha', if_pos i1, n1, n2]
  have no : ¬ m.1 89 i = 1 → K i ≠ 201 + w → (if m.1 am_sort i = 1 then (if xin (Int32.ofNat i) 602 = true then (if xin (Int32.ofNat w) 9 = true then (if lg_cmp (m.2 am_value i) (m.2 am_words w) = 0 then some ((1 : Int32), m) else some ((0 : Int32), m)) else none) else none) else some ((0 : Int32), m)) = some (if K i = 201 + w then 1 else 0, m) := by
    intro w1 w2
    rw [if_neg (show ¬ m.1 am_sort i = 1 from w1), if_neg w2]
  rcases t with ⟨k, s⟩ | ⟨k, s⟩ | ⟨k, s, -⟩ | ⟨k, s, -⟩ | ⟨k1, k2, s, v⟩
  · exact no (by rw [s]; decide) (by omega)
  · rcases s with s | ⟨s, v⟩
    · exact no (by rw [s]; decide) (by omega)
    · have s' : m.1 am_sort i = 1 := s
      rw [if_pos s', if_pos i1, if_pos i2, if_neg (fun u => v w hw9 ((lg_cmp_eq _ _).mp u)), if_neg (by omega)]
  · exact no (by rw [s]; decide) (by omega)
  · exact no (by rw [s]; decide) (by unfold sgn at k; omega)
  · have s' : m.1 am_sort i = 1 := s
    have v' : m.2 am_value i = m.2 am_words (K i - 201) := v
    rw [if_pos s', if_pos i1, if_pos i2, v']
    have e : (m.2 am_words (K i - 201) = m.2 am_words w) ↔ K i = 201 + w := by
      rw [show m.2 am_words = xm0.2 92 from hw]
      constructor
      · intro u
        have := wd_eq (by omega) hw9 u
        omega
      · intro u
        rw [show K i - 201 = w by omega]
    by_cases z : K i = 201 + w
    · rw [if_pos ((lg_cmp_eq _ _).mpr (e.mpr z)), if_pos z]
    · rw [if_neg (fun u => z (e.mp ((lg_cmp_eq _ _).mp u))), if_neg z]
theorem m_wrong {m : xMem} {i k : Nat} (h : mAt0 K V Pl N m i) : F_X10_wrong (Int32.ofNat k) m = some (0, (xst m.1 87 8 (Int32.ofNat (k + 16 * Pl i)), m.2)) := by
  obtain ⟨⟨hN, hw, ht⟩, hf, ha, hi⟩ := h
  have hf' : m.1 am fGuideBookModel_fault = 0 := hf
  have ha' : m.1 am fGuideBookModel_at = Int32.ofNat i := ha
  have i1 : xin (Int32.ofNat i) 602 = true := o_in (by omega) (by omega)
  have n1 : (Int32.ofNat i).toNatClampNeg = i := o_nat (by omega)
  have t : m.1 am_place i = Int32.ofNat (Pl i) := (ht i hi).1
  unfold F_X10_wrong
  rw [hf', if_pos rfl, ha', if_pos i1, n1, t, o_16, o_add]
theorem m_pwl {m : xMem} {i : Nat} (h : mAt0 K V Pl N m i) : ∀ (k a fk : Nat), a + k = 6 → k < fk → ¬ (204 ≤ K i ∧ K i < 204 + a) → L_X10_partWord_2 fk (Int32.ofNat a) m = some (if 204 ≤ K i ∧ K i ≤ 209 then Int32.ofNat (K i - 204) else -1, m)
  | 0, a, fk + 1, hk, _, hn => by
    have q : 6 ≤ Int32.ofNat a := (o_le (a := 6) (by omega) (by omega)).mpr (by omega)
    unfold L_X10_partWord_2
    rw [if_pos q, if_neg (by omega)]
  | k + 1, a, fk + 1, hk, hf, hn => by
    have q : ¬ 6 ≤ Int32.ofNat a := fun w => by have := (o_le (a := 6) (by omega) (by omega)).mp w; omega
    have e : (3 : Int32) + Int32.ofNat a = Int32.ofNat (3 + a) := o_add (a := 3)
    unfold L_X10_partWord_2
    rw [if_neg q, e, m_isWord h (show 3 + a < 9 by omega), Option.bind_some]
    dsimp only
    by_cases w : K i = 201 + (3 + a)
    · rw [if_pos w, if_neg (by decide), if_pos (by omega), show K i - 204 = a by omega]
    · rw [if_neg w, if_pos rfl, o_succ]
      exact m_pwl h k (a + 1) fk (by omega) (by omega) (by omega)
theorem m_partWord {m : xMem} {i : Nat} (h : mAt0 K V Pl N m i) : F_X10_partWord m = some (if 204 ≤ K i ∧ K i ≤ 209 then Int32.ofNat (K i - 204) else -1, m) := by
  unfold F_X10_partWord
  exact m_pwl h 6 0 xfuel (by omega) (by decide) (by omega)
/-- what the reference's parser may change from depth d and code c on, half h -/
def mfr (h d c : Nat) (m m' : xMem) : Prop := m'.2 = m.2 ∧ ∀ b j, ¬ (b = 87 ∧ (j = 7 ∨ j = 8 ∨ j = 17 ∨ j = 18)) → ¬ ((b = 96 ∨ b = 97) ∧ 660 * h + c ≤ j ∧ j < 660 * h + 660) → ¬ (98 ≤ b ∧ b ≤ 100 ∧ d ≤ j) → m'.1 b j = m.1 b j
theorem mfr.refl {h d c : Nat} (m : xMem) : mfr h d c m m := ⟨rfl, fun _ _ _ _ _ => rfl⟩
theorem mfr.trans {h d c d' c' : Nat} {x y z : xMem} (f : mfr h d c x y) (g : mfr h d' c' y z) (hd : d ≤ d') (hc : c ≤ c') : mfr h d c x z := ⟨g.1.trans f.1, fun b j w1 w2 w3 => (g.2 b j w1 (by omega) (by omega)).trans (f.2 b j w1 w2 w3)⟩
theorem MTk.mv {h d c : Nat} {m m' : xMem} (f : mfr h d c m m') (T : MTk K V Pl N m) : MTk K V Pl N m' := by
  obtain ⟨t1, t2, t3⟩ := T
  refine ⟨t1, by rw [f.1]; exact t2, fun i hi => ?_⟩
  rw [f.2 90 i (by omega) (by omega) (by omega), f.2 89 i (by omega) (by omega) (by omega), f.1]
  exact t3 i hi
/-- the reference at token i, c cells written, depth d; what waits there -/
def mS (K : Nat → Nat) (V : Nat → Int32) (Pl : Nat → Nat) (N h : Nat) (m : xMem) (i c d : Nat) (sw gw aw : Int32) : Prop := mAt0 K V Pl N m i ∧ m.1 87 17 = Int32.ofNat c ∧ c ≤ i + 16 ∧ m.1 87 18 = Int32.ofNat d ∧ d ≤ 5 ∧ m.1 87 16 = Int32.ofNat h ∧ (h = 0 ∨ h = 1) ∧ m.1 98 d = sw ∧ m.1 99 d = gw ∧ m.1 100 d = aw
theorem o_660 {a : Nat} : (660 : Int32) * Int32.ofNat a = Int32.ofNat (660 * a) := o_mul (a := 660)
theorem m_emit {h : Nat} {m : xMem} {c : Nat} (hc : m.1 87 17 = Int32.ofNat c) (hc6 : c ≤ 640) (hn : m.1 87 16 = Int32.ofNat h) (hh : h = 0 ∨ h = 1) (x y : Int32) : F_X10_emit x y m = some (0, (xst (xst (xst m.1 96 (660 * h + c) x) 97 (660 * h + c) y) 87 17 (Int32.ofNat (c + 1)), m.2)) := by
  have hc' : m.1 am fGuideBookModel_codes = Int32.ofNat c := hc
  have hn' : m.1 am fGuideBookModel_next = Int32.ofNat h := hn
  have i1 : xin (Int32.ofNat (660 * h + c)) 1320 = true := o_in (by omega) (by omega)
  have n1 : (Int32.ofNat (660 * h + c)).toNatClampNeg = 660 * h + c := o_nat (by omega)
  simp (decide := true) only [Option.bind_some, ↓reduceIte, xst_f, xst_k, xst_s, ne_eq, not_false_eq_true, not_true_eq_false, and_self, and_true, true_and, and_false, false_and, or_true, true_or, or_false, false_or, F_X10_emit, hc', hn', o_660, o_add, i1, n1, o_succ]
end MP
