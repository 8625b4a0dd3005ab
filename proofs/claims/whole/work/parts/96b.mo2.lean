section MQ
variable {K : Nat → Nat} {V : Nat → Int32} {Pl : Nat → Nat} {N h : Nat}
/-- what goesOnBehind does at a sum's sign, at a comparison's, at an and -/
def gc1 (m_24 : xMem) : Option (Int32 × xMem) :=
    (F_X10_isSign ((43 : Int32)) m_24).bind fun q_25 => (
    if q_25.1 = 0 then (
      if xin (m_24.1 am fGuideBookModel_deep) 7 = true then (
      some ((1 : Int32), (xst (xst q_25.2.1 am_sumWaits (m_24.1 am fGuideBookModel_deep).toNatClampNeg (4 : Int32)) am fGuideBookModel_at (((xst q_25.2.1 am_sumWaits (m_24.1 am fGuideBookModel_deep).toNatClampNeg (4 : Int32)) am fGuideBookModel_at) + (1 : Int32)), q_25.2.2)))
      else none)
    else (
      if xin (m_24.1 am fGuideBookModel_deep) 7 = true then (
      some ((1 : Int32), (xst (xst q_25.2.1 am_sumWaits (m_24.1 am fGuideBookModel_deep).toNatClampNeg (3 : Int32)) am fGuideBookModel_at (((xst q_25.2.1 am_sumWaits (m_24.1 am fGuideBookModel_deep).toNatClampNeg (3 : Int32)) am fGuideBookModel_at) + (1 : Int32)), q_25.2.2)))
      else none))
def gc2 (m_28 : xMem) : Option (Int32 × xMem) :=
    (F_X10_isSign ((60 : Int32)) m_28).bind fun q_29 => (
    if q_29.1 = 0 then (
      if xin (m_28.1 am fGuideBookModel_deep) 7 = true then (
      some ((1 : Int32), (xst (xst q_29.2.1 am_signWaits (m_28.1 am fGuideBookModel_deep).toNatClampNeg (6 : Int32)) am fGuideBookModel_at (((xst q_29.2.1 am_signWaits (m_28.1 am fGuideBookModel_deep).toNatClampNeg (6 : Int32)) am fGuideBookModel_at) + (1 : Int32)), q_29.2.2)))
      else none)
    else (
      if xin (m_28.1 am fGuideBookModel_deep) 7 = true then (
      some ((1 : Int32), (xst (xst q_29.2.1 am_signWaits (m_28.1 am fGuideBookModel_deep).toNatClampNeg (5 : Int32)) am fGuideBookModel_at (((xst q_29.2.1 am_signWaits (m_28.1 am fGuideBookModel_deep).toNatClampNeg (5 : Int32)) am fGuideBookModel_at) + (1 : Int32)), q_29.2.2)))
      else none))
def gc3 (m_32 : xMem) : Option (Int32 × xMem) :=
    if xin (m_32.1 am fGuideBookModel_deep) 7 = true then (
    some ((1 : Int32), (xst (xst m_32.1 am_andWaits (m_32.1 am fGuideBookModel_deep).toNatClampNeg (7 : Int32)) am fGuideBookModel_at (((xst m_32.1 am_andWaits (m_32.1 am fGuideBookModel_deep).toNatClampNeg (7 : Int32)) am fGuideBookModel_at) + (1 : Int32)), m_32.2)))
    else none
/-- on with a part, or out -/
def KT (C : xMem → Option (Int32 × xMem)) (fk : Nat) (q : Int32 × xMem) : Option (Int32 × xMem) := if q.1 = 0 then C q.2 else L_X10_line_185 C fk 1 q.2
/-- the places behind a part -/
def BH (C : xMem → Option (Int32 × xMem)) (fk fk2 : Nat) (m : xMem) : Option (Int32 × xMem) := (L_X10_goesOnBehind_0 gc1 gc2 gc3 fk2 m).bind (KT C fk)
def B43 (C : xMem → Option (Int32 × xMem)) (fk fk2 : Nat) (m : xMem) : Option (Int32 × xMem) := (J_X10_goesOnBehind_43 (fun m => L_X10_goesOnBehind_0 gc1 gc2 gc3 fk2 m) gc1 gc2 gc3 m).bind (KT C fk)
def B189 (C : xMem → Option (Int32 × xMem)) (fk fk2 : Nat) (m : xMem) : Option (Int32 × xMem) := (J_X10_goesOnBehind_189 (fun m => L_X10_goesOnBehind_0 gc1 gc2 gc3 fk2 m) gc1 gc2 gc3 m).bind (KT C fk)
def B218 (C : xMem → Option (Int32 × xMem)) (fk fk2 : Nat) (m : xMem) : Option (Int32 × xMem) := (J_X10_goesOnBehind_218 (fun m => L_X10_goesOnBehind_0 gc1 gc2 gc3 fk2 m) gc1 gc2 gc3 m).bind (KT C fk)
/-- the cells written from c on -/
def mCd (h : Nat) (m : xMem) (c : Nat) (ts : List xTok) : Prop := ∀ j t, ts[j]? = some t → m.1 96 (660 * h + c + j) = tkO t ∧ m.1 97 (660 * h + c + j) = tkA t
theorem mCd.app {m m' : xMem} {c d : Nat} {a b : List xTok} (h1 : mCd h m c a) (f : mfr h d (c + a.length) m m') (h2 : mCd h m' (c + a.length) b) : mCd h m' c (a ++ b) := by
  intro j t ht
  by_cases w : j < a.length
  · rw [List.getElem?_append_left w] at ht
    rw [f.2 96 _ (by omega) (by omega) (by omega), f.2 97 _ (by omega) (by omega) (by omega)]
    exact h1 j t ht
  · rw [List.getElem?_append_right (by omega)] at ht
    have := h2 (j - a.length) t ht
    rw [show 660 * h + (c + a.length) + (j - a.length) = 660 * h + c + j by omega] at this
    exact this
/-- the fault told, and the codes' count in range -/
def mFt (m' : xMem) (v : Int32) : Prop := m'.1 87 8 = v ∧ ∃ c, m'.1 87 17 = Int32.ofNat c ∧ c ≤ 640
/-- what comes of a piece: it gets to X with this waiting, or the fault is told -/
def mR (K : Nat → Nat) (V : Nat → Int32) (Pl : Nat → Nat) (N h : Nat) (C : xMem → Option (Int32 × xMem)) (e : Nat) (X : Nat → Nat → xMem → Option (Int32 × xMem)) (m : xMem) (fk i c d : Nat) (sw gw aw : Int32) (r : xPR) : Prop :=
  (r.1 = 0 → ∃ fk' fk2 m', L_X10_line_185 C fk 1 m = X fk' fk2 m' ∧ fk + i ≤ fk' + r.2.1 ∧ e + d ≤ fk2 ∧ mS K V Pl N h m' r.2.1 (c + r.2.2.length) d sw gw aw ∧ mfr h d c m m' ∧ mCd h m' c r.2.2) ∧
  (r.1 ≠ 0 → ∃ m', L_X10_line_185 C fk 1 m = C m' ∧ mFt m' (Int32.ofNat (r.1 + 16 * Pl r.2.1)) ∧ mfr h d c m m')
/-- a simulation from a part's place, with these waiting before, to X with those -/
def mSim (K : Nat → Nat) (V : Nat → Int32) (Pl : Nat → Nat) (N h d e : Nat) (X : (xMem → Option (Int32 × xMem)) → Nat → Nat → xMem → Option (Int32 × xMem)) (P : Nat → xPR) (Wt : Int32 → Int32 → Int32 → Prop) : Prop := ∀ C m fk i c sw gw aw, Wt sw gw aw → mS K V Pl N h m i c d sw gw aw → N + 2 ≤ fk + i → mR K V Pl N h C e (X C) m fk i c d sw gw aw (P i)
/-- the fault, told: out -/
theorem kt_bad {C : xMem → Option (Int32 × xMem)} {fk fk2 : Nat} {m : xMem} (hf : ¬ m.1 87 8 = 0) : BH C fk (fk2 + 1) m = C m := by
  have hf' : ¬ m.1 am fGuideBookModel_fault = 0 := hf
  unfold BH
  rw [L_X10_goesOnBehind_0, if_neg hf', Option.bind_some]
  unfold KT
  rw [if_pos rfl]
theorem l185 {C : xMem → Option (Int32 × xMem)} {fk : Nat} {m : xMem} (hfk : 1 ≤ fk) (hf : m.1 87 8 = 0) : L_X10_line_185 C (fk + 1) 1 m = (F_X10_part m).bind fun q => if q.1 = 0 then BH C fk xfuel q.2 else L_X10_line_185 C fk 1 q.2 := by
  have hf' : m.1 am fGuideBookModel_fault = 0 := hf
  have z : ∀ q, L_X10_line_185 C fk 0 q = C q := fun q => by
    obtain ⟨f, rfl⟩ : ∃ f, fk = f + 1 := ⟨fk - 1, by omega⟩
    rw [L_X10_line_185, if_pos rfl]
  rw [L_X10_line_185, if_neg (by decide), if_pos hf']
  congr 1
  funext q
  by_cases w : q.1 = 0
  · rw [if_pos w, if_pos w]
    unfold BH F_X10_goesOnBehind
    show (L_X10_goesOnBehind_0 gc1 gc2 gc3 xfuel q.2).bind _ = _
    congr 1
    funext p
    unfold KT J_X10_line_215 J_X10_line_210 J_X10_line_215
    by_cases w2 : p.1 = 0
    · rw [if_pos w2, if_pos w2]
      exact z p.2
    · rw [if_neg w2, if_neg w2]
  · rw [if_neg w, if_neg w]
    rfl
theorem ft_ne {k p : Nat} (hk : 1 ≤ k) (hk9 : k ≤ 9) (hp : p ≤ 600) : ¬ Int32.ofNat (k + 16 * p) = 0 ∧ ¬ Int32.ofNat (k + 16 * p) ≤ 0 := by
  constructor
  · intro w
    have := (o_eq (b := 0) (by omega) (by omega)).mp w
    omega
  · intro w
    have := (o_le (b := 0) (by omega) (by omega)).mp w
    omega
theorem tb_v {v : Int32} : v.toInt64.toInt32 = v := by
  have := Int32.toInt_toInt64 v
  have h1 := Int32.le_toInt v
  have h2 := Int32.toInt_lt v
  rw [← Int32.toInt_inj, j_i32 (by rw [this]; omega) (by rw [this]; omega), this]
theorem p59_bad {m : xMem} {x : Int32} (hf : ¬ m.1 87 8 ≤ 0) : J_X10_part_59 x m = some (0, m) := by
  unfold J_X10_part_59
  rw [if_neg (show ¬ m.1 am fGuideBookModel_fault ≤ 0 from hf)]
/-- a part that ends here -/
theorem m_part_no {m : xMem} {i c d : Nat} {sw gw aw : Int32} (S : mS K V Pl N h m i c d sw gw aw) (hp : ¬ (K i = 40 ∨ K i = 2 ∨ (204 ≤ K i ∧ K i ≤ 209))) : F_X10_part m = some (0, (xst m.1 87 8 (Int32.ofNat (1 + 16 * Pl i)), m.2)) := by
  obtain ⟨A, -⟩ := id S
  obtain ⟨⟨hN, hw, ht⟩, hf, ha, hi⟩ := id A
  have hf' : m.1 am fGuideBookModel_fault = 0 := hf
  have ha' : m.1 am fGuideBookModel_at = Int32.ofNat i := ha
  have i1 : xin (Int32.ofNat i) 602 = true := o_in (by omega) (by omega)
  have n1 : (Int32.ofNat i).toNatClampNeg = i := o_nat (by omega)
  obtain ⟨-, hpl, t⟩ := ht i hi
  have s2 : ¬ m.1 am_sort i = 2 := by
    show ¬ m.1 89 i = 2
    rcases t with ⟨k, s⟩ | ⟨k, s⟩ | ⟨k, s, -⟩ | ⟨k, s, -⟩ | ⟨k1, k2, s, -⟩
    · rw [s]; decide
    · rcases s with s | ⟨s, -⟩ <;> rw [s] <;> decide
    · omega
    · rw [s]; decide
    · rw [s]; decide
  unfold F_X10_part
  rw [m_partWord A, Option.bind_some]
  dsimp only
  rw [hf', if_pos rfl, ha', if_pos i1, n1, if_neg s2, show (40 : Int32) = Int32.ofNat 40 from rfl, m_isSign A (Or.inl rfl), Option.bind_some]
  dsimp only
  rw [if_neg (show ¬ K i = 40 by omega), if_pos rfl, if_neg (show ¬ (204 ≤ K i ∧ K i ≤ 209) by omega), if_neg (show ¬ (0 : Int32) ≤ -1 by decide), show (1 : Int32) = Int32.ofNat 1 from rfl, m_wrong A, Option.bind_some]
  exact p59_bad (m := (xst m.1 87 8 (Int32.ofNat (1 + 16 * Pl i)), m.2)) (by
    show ¬ xst m.1 87 8 (Int32.ofNat (1 + 16 * Pl i)) 87 8 ≤ 0
    rw [xst_s]
    exact (ft_ne (by omega) (by omega) hpl).2)
/-- up to where it is known to be a part -/
theorem m_part_46 {m : xMem} {i c d : Nat} {sw gw aw : Int32} (S : mS K V Pl N h m i c d sw gw aw) (hp : K i = 40 ∨ K i = 2 ∨ (204 ≤ K i ∧ K i ≤ 209)) : F_X10_part m = J_X10_part_46 (if 204 ≤ K i ∧ K i ≤ 209 then Int32.ofNat (K i - 204) else -1) m := by
  obtain ⟨A, -⟩ := id S
  obtain ⟨⟨hN, hw, ht⟩, hf, ha, hi⟩ := id A
  have hf' : m.1 am fGuideBookModel_fault = 0 := hf
  have ha' : m.1 am fGuideBookModel_at = Int32.ofNat i := ha
  have i1 : xin (Int32.ofNat i) 602 = true := o_in (by omega) (by omega)
  have n1 : (Int32.ofNat i).toNatClampNeg = i := o_nat (by omega)
  unfold F_X10_part
  rw [m_partWord A, Option.bind_some]
  dsimp only
  rw [hf', if_pos rfl, ha', if_pos i1, n1]
  by_cases s2 : m.1 am_sort i = 2
  · rw [if_pos s2]
  · rw [if_neg s2, show (40 : Int32) = Int32.ofNat 40 from rfl, m_isSign A (Or.inl rfl), Option.bind_some]
    dsimp only
    by_cases w : K i = 40
    · rw [if_pos w, if_neg (by decide)]
    · rw [if_neg w, if_pos rfl]
      by_cases wn : 204 ≤ K i ∧ K i ≤ 209
      · rw [if_pos wn, if_pos]
        rw [o_zero, o_le (by omega) (by omega)]
        omega
      · exfalso
        obtain ⟨-, -, t⟩ := ht i hi
        have k2 : K i = 2 := by omega
        rcases t with ⟨k, s⟩ | ⟨k, s⟩ | ⟨k, s, -⟩ | ⟨k, s, -⟩ | ⟨k1, k2, s, -⟩
        · omega
        · omega
        · exact s2 s
        · unfold sgn at k; omega
        · omega
theorem mS.fr {m m' : xMem} {i c d c0 : Nat} {sw gw aw : Int32} (S : mS K V Pl N h m i c d sw gw aw) (f : mfr h d c0 m m') : MTk K V Pl N m' ∧ m'.1 87 16 = Int32.ofNat h := ⟨S.1.1.mv f, (f.2 87 16 (by omega) (by omega) (by omega)).trans S.2.2.2.2.2.1⟩
/-- a cell written and one token on, at the same depth -/
theorem m_put {m : xMem} {i c d : Nat} {sw gw aw : Int32} (S : mS K V Pl N h m i c d sw gw aw) (hi : i < N) {t : xTok} : mS K V Pl N h (xst (xst (xst (xst m.1 96 (660 * h + c) (tkO t)) 97 (660 * h + c) (tkA t)) 87 17 (Int32.ofNat (c + 1))) 87 7 (Int32.ofNat (i + 1)), m.2) (i + 1) (c + 1) d sw gw aw ∧ mfr h d c m (xst (xst (xst (xst m.1 96 (660 * h + c) (tkO t)) 97 (660 * h + c) (tkA t)) 87 17 (Int32.ofNat (c + 1))) 87 7 (Int32.ofNat (i + 1)), m.2) ∧ mCd h (xst (xst (xst (xst m.1 96 (660 * h + c) (tkO t)) 97 (660 * h + c) (tkA t)) 87 17 (Int32.ofNat (c + 1))) 87 7 (Int32.ofNat (i + 1)), m.2) c [t] := by
  obtain ⟨A, hc, hci, hd, hd5, hn, hh, q1, q2, q3⟩ := id S
  have hN := A.1.1
  obtain ⟨I, hI⟩ : ∃ I : xI, I = xst (xst (xst (xst m.1 96 (660 * h + c) (tkO t)) 97 (660 * h + c) (tkA t)) 87 17 (Int32.ofNat (c + 1))) 87 7 (Int32.ofNat (i + 1)) := ⟨_, rfl⟩
  rw [← hI]
  have F : ∀ b j, ¬ (b = 87 ∧ (j = 7 ∨ j = 17)) → ¬ ((b = 96 ∨ b = 97) ∧ j = 660 * h + c) → I b j = m.1 b j := fun b j w1 w2 => by
    rw [hI, xst_n (by omega), xst_n (by omega), xst_n (by omega), xst_n (by omega)]
  have f : mfr h d c m (I, m.2) := ⟨rfl, fun b j w1 w2 w3 => F b j (by omega) (by omega)⟩
  refine ⟨⟨⟨A.1.mv f, (F 87 8 (by omega) (by omega)).trans A.2.1, ?_, by omega⟩, ?_, by omega, (F 87 18 (by omega) (by omega)).trans hd, hd5, (F 87 16 (by omega) (by omega)).trans hn, hh, (F 98 d (by omega) (by omega)).trans q1, (F 99 d (by omega) (by omega)).trans q2, (F 100 d (by omega) (by omega)).trans q3⟩, f, fun j t' ht => ?_⟩
  · show I 87 7 = _
    rw [hI]; exact xst_s
  · show I 87 17 = _
    rw [hI, xst_n (by omega)]; exact xst_s
  · have : j = 0 ∧ t' = t := by
      cases j with
      | zero => exact ⟨rfl, by simpa using ht.symm⟩
      | succ j => simp at ht
    rw [this.1, this.2, Nat.add_zero]
    constructor
    · show I 96 _ = _
      rw [hI, xst_n (by omega), xst_n (by omega), xst_n (by omega)]; exact xst_s
    · show I 97 _ = _
      rw [hI, xst_n (by omega), xst_n (by omega)]; exact xst_s
theorem m_opens {m : xMem} {d : Nat} (hd : m.1 87 18 = Int32.ofNat d) (hd6 : d ≤ 6) : F_X10_opens m = some (0, (xst (xst (xst m.1 98 d 0) 99 d 0) 100 d 0, m.2)) := by
  have hd' : m.1 am fGuideBookModel_deep = Int32.ofNat d := hd
  have i1 : xin (Int32.ofNat d) 7 = true := o_in (by omega) (by omega)
  have n1 : (Int32.ofNat d).toNatClampNeg = d := o_nat (by omega)
  simp (decide := true) only [Option.bind_some, ↓reduceIte, xst_f, xst_k, xst_s, ne_eq, not_false_eq_true, not_true_eq_false, and_self, and_true, true_and, and_false, false_and, or_true, true_or, or_false, false_or, F_X10_opens, hd', i1, n1]
/-- a part, by the reference -/
theorem s_mP (hK : ∀ i, i ≤ N → (K i = 0 ↔ i = N)) {E : Nat → Nat → xPR} {d : Nat} (hEg : ∀ i, i ≤ N → prG N i (E (d + 1) i)) (hEe : ∀ i, i ≤ N → (E (d + 1) i).1 = 0 → K (E (d + 1) i).2.1 ≠ 203) (hE : d < 5 → mSim K V Pl N h (d + 1) 1989 B218 (E (d + 1)) (fun s g a => s = 0 ∧ g = 0 ∧ a = 0)) : mSim K V Pl N h d 1990 BH (pP K V E d) (fun _ _ _ => True) := by
  intro C m fk i c sw gw aw _ S hfk
  obtain ⟨A, hc, hci, hd, hd5, hn, hh, q1, q2, q3⟩ := id S
  have hN := A.1.1
  have hi := A.2.2.2
  obtain ⟨fk, rfl⟩ : ∃ f, fk = f + 1 := ⟨fk - 1, by omega⟩
  have hpl := (A.1.2.2 i hi).2.1
  have hL := l185 (C := C) (fk := fk) (m := m) (by omega) A.2.1
  have hx2 : xfuel = 1999 + 1 := rfl
  have bad : ∀ k, 1 ≤ k → k ≤ 9 → F_X10_part m = some (0, (xst m.1 87 8 (Int32.ofNat (k + 16 * Pl i)), m.2)) → ∃ m', L_X10_line_185 C (fk + 1) 1 m = C m' ∧ mFt m' (Int32.ofNat (k + 16 * Pl i)) ∧ mfr h d c m m' := by
    intro k k1 k9 hp
    have e8 : (xst m.1 87 8 (Int32.ofNat (k + 16 * Pl i))) 87 8 = Int32.ofNat (k + 16 * Pl i) := xst_s
    refine ⟨(xst m.1 87 8 (Int32.ofNat (k + 16 * Pl i)), m.2), ?_, ⟨e8, c, by dsimp only; rw [xst_n (by omega)]; exact hc, by omega⟩, rfl, fun b j w1 w2 w3 => xst_n (by omega)⟩
    rw [hL, hp, Option.bind_some]
    dsimp only
    rw [if_pos rfl, hx2]
    exact kt_bad (fun u => (ft_ne k1 k9 hpl).1 (e8.symm.trans u))
  by_cases w : K i = 40 ∨ K i = 2 ∨ (204 ≤ K i ∧ K i ≤ 209)
  · have h46 := m_part_46 S w
    have hiN : i < N := at_lt hK hi (by omega)
    have hd' : m.1 am fGuideBookModel_deep = Int32.ofNat d := hd
    by_cases w5 : d < 5
    · have qd : ¬ Int32.ofNat d = 5 := fun u => by have := (o_eq (b := 5) (by omega) (by omega)).mp u; omega
      have h59 : F_X10_part m = J_X10_part_59 (if 204 ≤ K i ∧ K i ≤ 209 then Int32.ofNat (K i - 204) else -1) m := by
        rw [h46]
        unfold J_X10_part_46
        rw [hd', if_neg qd]
      have hf0 : m.1 am fGuideBookModel_fault ≤ 0 := by rw [show m.1 am fGuideBookModel_fault = 0 from A.2.1]; exact Int32.le_refl _
      have b1 : xbb 1 = true := by decide
      have b0 : xbb 0 = true := by decide
      have ha' : m.1 am fGuideBookModel_at = Int32.ofNat i := A.2.2.1
      by_cases w40 : K i = 40
      · -- a part within
        obtain ⟨m1, hm1⟩ : ∃ m1 : xMem, m1 = (xst (xst (xst (xst (xst m.1 87 7 (Int32.ofNat (i + 1))) 87 18 (Int32.ofNat (d + 1))) 98 (d + 1) 0) 99 (d + 1) 0) 100 (d + 1) 0, m.2) := ⟨_, rfl⟩
        have F1 : ∀ b j, ¬ (b = 87 ∧ (j = 7 ∨ j = 18)) → ¬ (98 ≤ b ∧ b ≤ 100 ∧ j = d + 1) → m1.1 b j = m.1 b j := fun b j u1 u2 => by
          rw [hm1]
          show xst (xst (xst (xst (xst m.1 87 7 (Int32.ofNat (i + 1))) 87 18 (Int32.ofNat (d + 1))) 98 (d + 1) 0) 99 (d + 1) 0) 100 (d + 1) 0 b j = _
          rw [xst_n (by omega), xst_n (by omega), xst_n (by omega), xst_n (by omega), xst_n (by omega)]
        have f1 : mfr h (d + 1) c m m1 := ⟨by rw [hm1], fun b j u1 u2 u3 => F1 b j (by omega) (by omega)⟩
        have S1 : mS K V Pl N h m1 (i + 1) c (d + 1) 0 0 0 := by
          refine ⟨⟨A.1.mv f1, (F1 87 8 (by omega) (by omega)).trans A.2.1, ?_, by omega⟩, (F1 87 17 (by omega) (by omega)).trans hc, by omega, ?_, by omega, (F1 87 16 (by omega) (by omega)).trans hn, hh, ?_, ?_, ?_⟩ <;> rw [hm1] <;> dsimp only
          · rw [xst_n (by omega), xst_n (by omega), xst_n (by omega), xst_n (by omega)]; exact xst_s
          · rw [xst_n (by omega), xst_n (by omega), xst_n (by omega)]; exact xst_s
          · rw [xst_n (by omega), xst_n (by omega)]; exact xst_s
          · rw [xst_n (by omega)]; exact xst_s
          · exact xst_s
        have hpt : F_X10_part m = some (1, m1) := by
          rw [h59]
          unfold J_X10_part_59 F_X10_hasSign
          rw [if_pos hf0, show (40 : Int32) = Int32.ofNat 40 from rfl, m_isSign A (Or.inl rfl), Option.bind_some]
          dsimp only
          rw [if_pos w40, if_neg (by decide), if_pos b1, Option.bind_some]
          dsimp only
          rw [if_neg (by decide), ha', o_succ]
          have hdd : xst m.1 am fGuideBookModel_at (Int32.ofNat (i + 1)) am fGuideBookModel_deep = Int32.ofNat d := (xst_n (by decide)).trans hd
          rw [hdd, o_succ, m_opens (m := (xst (xst m.1 am fGuideBookModel_at (Int32.ofNat (i + 1))) am fGuideBookModel_deep (Int32.ofNat (d + 1)), m.2)) (d := d + 1) (by show xst (xst m.1 87 7 (Int32.ofNat (i + 1))) 87 18 (Int32.ofNat (d + 1)) 87 18 = _; exact xst_s) (by omega), Option.bind_some, hm1]
        have hL1 : L_X10_line_185 C (fk + 1) 1 m = L_X10_line_185 C fk 1 m1 := by
          rw [hL, hpt, Option.bind_some]
          dsimp only
          rw [if_neg (by decide)]
        have hr := hE w5 C m1 fk (i + 1) c 0 0 0 ⟨rfl, rfl, rfl⟩ S1 (by omega)
        have eP : pP K V E d i = (if (E (d + 1) (i + 1)).1 = 0 then (if K (E (d + 1) (i + 1)).2.1 = 41 then (0, (E (d + 1) (i + 1)).2.1 + 1, (E (d + 1) (i + 1)).2.2) else (1, (E (d + 1) (i + 1)).2.1, [])) else E (d + 1) (i + 1)) := by
          unfold pP
          rw [if_pos w, if_neg (show ¬ 5 ≤ d by omega), if_pos w40]
        rw [eP]
        have gE := hEg (i + 1) (by omega)
        generalize hEr : E (d + 1) (i + 1) = r at *
        by_cases z : r.1 = 0
        · rw [if_pos z]
          obtain ⟨fk', fk2, m2, e1, e2, e3, S2, f2, cd⟩ := hr.1 z
          have h203 : K r.2.1 ≠ 203 := by have := hEe (i + 1) (by omega); rw [hEr] at this; exact this z
          obtain ⟨A2, hc2, hci2, hd2, -, hn2, -, -, -, -⟩ := id S2
          have hlen := (gE.2 z).2.1
          have hpl2 := (A2.1.2.2 r.2.1 A2.2.2.2).2.1
          have hd2' : m2.1 am fGuideBookModel_deep = Int32.ofNat (d + 1) := hd2
          have ha2' : m2.1 am fGuideBookModel_at = Int32.ofNat r.2.1 := A2.2.2.1
          have qd2 : ¬ Int32.ofNat (d + 1) = 0 := fun u => by have := (o_eq (b := 0) (by omega) (by omega)).mp u; omega
          have hB : ∀ m3, F_X10_takeSign (Int32.ofNat 41) m2 = some (0, m3) → m3.1 87 18 = Int32.ofNat (d + 1) → B218 C fk' fk2 m2 = BH C fk' fk2 (xst m3.1 87 18 (Int32.ofNat d), m3.2) := by
            intro m3 u1 u2
            unfold B218 BH J_X10_goesOnBehind_218
            rw [show (2 : Int32) = Int32.ofNat 2 from rfl, m_isWord A2 (by omega), Option.bind_some]
            dsimp only
            rw [if_neg (show ¬ K r.2.1 = 201 + 2 from h203), if_pos rfl, hd2', if_neg qd2, show (41 : Int32) = Int32.ofNat 41 from rfl, u1, Option.bind_some]
            dsimp only
            have u2' : m3.1 am fGuideBookModel_deep = Int32.ofNat (d + 1) := u2
            rw [u2', show Int32.ofNat (d + 1) - 1 = Int32.ofNat d from o_pred]
          by_cases y : K r.2.1 = 41
          · rw [if_pos y]
            have hjN : r.2.1 < N := at_lt hK A2.2.2.2 (by omega)
            obtain ⟨m3, hm3⟩ : ∃ m3 : xMem, m3 = (xst (xst m2.1 87 7 (Int32.ofNat (r.2.1 + 1))) 87 18 (Int32.ofNat d), m2.2) := ⟨_, rfl⟩
            have F3 : ∀ b j, ¬ (b = 87 ∧ (j = 7 ∨ j = 18)) → m3.1 b j = m2.1 b j := fun b j u1 => by
              rw [hm3]
              show xst (xst m2.1 87 7 (Int32.ofNat (r.2.1 + 1))) 87 18 (Int32.ofNat d) b j = _
              rw [xst_n (by omega), xst_n (by omega)]
            have f3 : mfr h d (c + r.2.2.length) m2 m3 := ⟨by rw [hm3], fun b j u1 u2 u3 => F3 b j (by omega)⟩
            have f23 : mfr h (d + 1) c m m2 := f1.trans f2 (Nat.le_refl _) (Nat.le_refl _)
            refine ⟨fun _ => ⟨fk', fk2, m3, ?_, by show fk + 1 + i ≤ fk' + (r.2.1 + 1); omega, by omega, ?_, ?_, ?_⟩, fun u => absurd rfl u⟩
            · rw [hL1, e1, hB (xst m2.1 87 7 (Int32.ofNat (r.2.1 + 1)), m2.2) ?_ ?_, hm3]
              · unfold F_X10_takeSign
                rw [m_isSign A2 (Or.inr (Or.inl rfl)), Option.bind_some]
                dsimp only
                rw [if_pos y, if_neg (by decide), ha2', o_succ]
              · show xst m2.1 87 7 (Int32.ofNat (r.2.1 + 1)) 87 18 = _
                exact (xst_n (by decide)).trans hd2
            · refine ⟨⟨A2.1.mv f3, (F3 87 8 (by omega)).trans A2.2.1, ?_, by show r.2.1 + 1 ≤ N; omega⟩, (F3 87 17 (by omega)).trans hc2, by show c + r.2.2.length ≤ r.2.1 + 1 + 16; omega, ?_, hd5, (F3 87 16 (by omega)).trans hn2, hh, ?_, ?_, ?_⟩
              · rw [hm3]
                show xst (xst m2.1 87 7 (Int32.ofNat (r.2.1 + 1))) 87 18 (Int32.ofNat d) 87 7 = _
                rw [xst_n (by omega)]; exact xst_s
              · rw [hm3]
                show xst (xst m2.1 87 7 (Int32.ofNat (r.2.1 + 1))) 87 18 (Int32.ofNat d) 87 18 = _
                exact xst_s
              · rw [F3 98 d (by omega), f23.2 98 d (by omega) (by omega) (by omega)]; exact q1
              · rw [F3 99 d (by omega), f23.2 99 d (by omega) (by omega) (by omega)]; exact q2
              · rw [F3 100 d (by omega), f23.2 100 d (by omega) (by omega) (by omega)]; exact q3
            · refine ⟨f3.1.trans f23.1, fun b j u1 u2 u3 => (F3 b j (by omega)).trans (f23.2 b j u1 u2 (by omega))⟩
            · intro j t ht
              have := cd j t ht
              rw [F3 96 _ (by omega), F3 97 _ (by omega)]
              exact this
          · rw [if_neg y]
            refine ⟨fun u => absurd (show (1 : Nat) = 0 from u) (by decide), fun _ => ?_⟩
            have e8 : ∀ v, xst (xst m2.1 87 8 v) 87 18 (Int32.ofNat d) 87 8 = v := fun v => (xst_n (by decide)).trans xst_s
            have f23 : mfr h (d + 1) c m m2 := f1.trans f2 (Nat.le_refl _) (Nat.le_refl _)
            refine ⟨(xst (xst m2.1 87 8 (Int32.ofNat (1 + 16 * Pl r.2.1))) 87 18 (Int32.ofNat d), m2.2), ?_, ⟨e8 _, c + r.2.2.length, by dsimp only; rw [xst_n (by omega), xst_n (by omega)]; exact hc2, by have := A2.2.2.2; omega⟩, f23.1, fun b j u1 u2 u3 => ?_⟩
            · rw [hL1, e1, hB (xst m2.1 87 8 (Int32.ofNat (1 + 16 * Pl r.2.1)), m2.2) ?_ ?_]
              · obtain ⟨g, rfl⟩ : ∃ g, fk2 = g + 1 := ⟨fk2 - 1, by omega⟩
                exact kt_bad (fun u => (ft_ne (by omega) (by omega) hpl2).1 ((e8 _).symm.trans u))
              · unfold F_X10_takeSign
                rw [m_isSign A2 (Or.inr (Or.inl rfl)), Option.bind_some]
                dsimp only
                rw [if_neg y, if_pos rfl, show (1 : Int32) = Int32.ofNat 1 from rfl, m_wrong A2, Option.bind_some]
              · show xst m2.1 87 8 (Int32.ofNat (1 + 16 * Pl r.2.1)) 87 18 = _
                exact (xst_n (by decide)).trans hd2
            · show xst (xst m2.1 87 8 (Int32.ofNat (1 + 16 * Pl r.2.1))) 87 18 (Int32.ofNat d) b j = _
              rw [xst_n (by omega), xst_n (by omega)]
              exact f23.2 b j u1 u2 (by omega)
        · rw [if_neg z]
          refine ⟨fun u => absurd u z, fun _ => ?_⟩
          obtain ⟨m2, e1, e2, f2⟩ := hr.2 z
          have f23 : mfr h (d + 1) c m m2 := f1.trans f2 (Nat.le_refl _) (Nat.le_refl _)
          exact ⟨m2, hL1.trans e1, e2, f23.1, fun b j u1 u2 u3 => f23.2 b j u1 u2 (by omega)⟩
      · -- an operand
        have eP : pP K V E d i = (0, i + 1, [pTk K V i]) := by
          unfold pP
          rw [if_pos w, if_neg (show ¬ 5 ≤ d by omega), if_neg w40]
        obtain ⟨S1, f1, cd1⟩ := m_put S hiN (t := pTk K V i)
        rw [eP]
        have hem := fun x y => m_emit (m := (xst m.1 87 7 (Int32.ofNat i + 0), m.2)) (c := c) (by show xst m.1 87 7 (Int32.ofNat i + 0) 87 17 = _; rw [xst_n (by decide)]; exact hc) (by omega) (by show xst m.1 87 7 (Int32.ofNat i + 0) 87 16 = _; rw [xst_n (by decide)]; exact hn) hh x y
        have hpt : F_X10_part m = some (0, (xst (xst (xst (xst m.1 96 (660 * h + c) (tkO (pTk K V i))) 97 (660 * h + c) (tkA (pTk K V i))) 87 17 (Int32.ofNat (c + 1))) 87 7 (Int32.ofNat (i + 1)), m.2)) := by
          have hself : xst m.1 87 7 (Int32.ofNat i + 0) = m.1 := by
            funext b j
            by_cases u : b = 87 ∧ j = 7
            · rw [u.1, u.2, Int32.add_zero]
              exact xst_s.trans A.2.2.1.symm
            · exact xst_n u
          rw [h59]
          unfold J_X10_part_59 F_X10_hasSign
          rw [if_pos hf0, show (40 : Int32) = Int32.ofNat 40 from rfl, m_isSign A (Or.inl rfl), Option.bind_some]
          dsimp only
          rw [if_neg w40, if_pos rfl, if_pos b0, Option.bind_some]
          dsimp only
          rw [if_pos rfl, ha']
          have e7 : ∀ x y, xst (xst (xst m.1 96 (660 * h + c) x) 97 (660 * h + c) y) 87 17 (Int32.ofNat (c + 1)) am fGuideBookModel_at = Int32.ofNat i := fun x y => ((xst_n (by decide)).trans ((xst_n (fun u => absurd u.1 (by decide))).trans (xst_n (fun u => absurd u.1 (by decide))))).trans A.2.2.1
          have hem' : ∀ x y, F_X10_emit x y (xst m.1 am fGuideBookModel_at (Int32.ofNat i + 0), m.2) = some (0, (xst (xst (xst m.1 96 (660 * h + c) x) 97 (660 * h + c) y) 87 17 (Int32.ofNat (c + 1)), m.2)) := fun x y => by
            have := hem x y
            rw [hself] at this
            show F_X10_emit x y (xst m.1 87 7 (Int32.ofNat i + 0), m.2) = _
            rw [hself]
            exact this
          by_cases wn : 204 ≤ K i ∧ K i ≤ 209
          · have ht : pTk K V i = .inl (.inr (K i - 204)) := by unfold pTk; rw [if_neg (by omega)]
            have x0 : (0 : Int32) ≤ Int32.ofNat (K i - 204) := by rw [o_zero, o_le (by omega) (by omega)]; omega
            rw [if_pos wn, if_pos x0, if_pos x0, hem', Option.bind_some]
            dsimp only
            rw [e7, o_succ, ht]
            rfl
          · have k2 : K i = 2 := by omega
            have ht : pTk K V i = .inl (.inl (V i)) := by unfold pTk; rw [if_pos k2]
            have i1 : xin (Int32.ofNat i) 602 = true := o_in (by omega) (by omega)
            have n1 : (Int32.ofNat i).toNatClampNeg = i := o_nat (by omega)
            have hv : m.2 91 i = (V i).toInt64 := by
              obtain ⟨-, -, t⟩ := A.1.2.2 i hi
              rcases t with ⟨k, s⟩ | ⟨k, s⟩ | ⟨k, s, v⟩ | ⟨k, s, -⟩ | ⟨k1, k2', s, -⟩
              · omega
              · omega
              · exact v
              · unfold sgn at k; omega
              · omega
            have e7' : xst m.1 am fGuideBookModel_at (Int32.ofNat i + 0) am fGuideBookModel_at = Int32.ofNat i := by rw [Int32.add_zero]; exact xst_s
            have hv' : m.2 am_value i = (V i).toInt64 := hv
            rw [if_neg wn, if_neg (show ¬ (0 : Int32) ≤ -1 by decide), if_neg (show ¬ (0 : Int32) ≤ -1 by decide)]
            simp only [e7', i1, ↓reduceIte, n1, hv', tb_v, hem', Option.bind_some]
            rw [e7, o_succ, ht]
            rfl
        refine ⟨fun _ => ⟨fk, xfuel, _, ?_, by show fk + 1 + i ≤ fk + (i + 1); omega, by rw [xfuel_eq]; omega, S1, f1, cd1⟩, fun u => absurd rfl u⟩
        rw [hL, hpt, Option.bind_some]
        dsimp only
        rw [if_pos rfl]
    · have d5 : d = 5 := by omega
      have eP : pP K V E d i = (5, i, []) := by
        unfold pP
        rw [if_pos w, if_pos (show 5 ≤ d by omega)]
      rw [eP]
      refine ⟨fun u => absurd (show (5 : Nat) = 0 from u) (by decide), fun _ => bad 5 (by omega) (by omega) ?_⟩
      rw [h46]
      unfold J_X10_part_46
      rw [hd', d5, if_pos (show Int32.ofNat 5 = 5 from rfl), show (5 : Int32) = Int32.ofNat 5 from rfl, m_wrong A, Option.bind_some]
      exact p59_bad (m := (xst m.1 87 8 (Int32.ofNat (5 + 16 * Pl i)), m.2)) (by
        show ¬ xst m.1 87 8 (Int32.ofNat (5 + 16 * Pl i)) 87 8 ≤ 0
        rw [xst_s]
        exact (ft_ne (by omega) (by omega) hpl).2)
  · have eP : pP K V E d i = (1, i, []) := by unfold pP; rw [if_neg w]
    rw [eP]
    exact ⟨fun u => absurd (show (1 : Nat) = 0 from u) (by decide), fun _ => bad 1 (by omega) (by omega) (m_part_no S w)⟩
end MQ
