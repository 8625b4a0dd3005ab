section MQ
variable {K : Nat → Nat} {V : Nat → Int32} {Pl : Nat → Nat} {N h : Nat}
/-- what goesOnBehind does at a sum's sign, at a comparison's, at an and -/
def gc1 (m_24 : xMem) : Option (Int32 × xMem) :=
    (F_X10_isSign ((43 : Int32)) m_24).bind fun q_25 => (
    if q_25.1 = 0 then (
      if xin (m_24.1 am fGuideBookModel_deep) 7 = true then (
      some ((1 : Int32), (xst (xst q_25.2.1 am_sumWaits (m_24.1 am fGuideBookModel_deep).toNatClampNeg (4 : Int32)) am fGuideBookModel_at (((xst q_25.2.1 am_sumWaits (m_24.1 am fGuideBookModel_deep).toNatClampNeg (4 : Int32)) am fGuideBookModel_at) + (1 : Int32)), q_25.2.2)))
      else none)
    else (
      if xin (m_24.1 am fGuideBookModel_deep) 7 = true then (
      some ((1 : Int32), (xst (xst q_25.2.1 am_sumWaits (m_24.1 am fGuideBookModel_deep).toNatClampNeg (3 : Int32)) am fGuideBookModel_at (((xst q_25.2.1 am_sumWaits (m_24.1 am fGuideBookModel_deep).toNatClampNeg (3 : Int32)) am fGuideBookModel_at) + (1 : Int32)), q_25.2.2)))
      else none))
def gc2 (m_28 : xMem) : Option (Int32 × xMem) :=
    (F_X10_isSign ((60 : Int32)) m_28).bind fun q_29 => (
    if q_29.1 = 0 then (
      if xin (m_28.1 am fGuideBookModel_deep) 7 = true then (
      some ((1 : Int32), (xst (xst q_29.2.1 am_signWaits (m_28.1 am fGuideBookModel_deep).toNatClampNeg (6 : Int32)) am fGuideBookModel_at (((xst q_29.2.1 am_signWaits (m_28.1 am fGuideBookModel_deep).toNatClampNeg (6 : Int32)) am fGuideBookModel_at) + (1 : Int32)), q_29.2.2)))
      else none)
    else (
      if xin (m_28.1 am fGuideBookModel_deep) 7 = true then (
      some ((1 : Int32), (xst (xst q_29.2.1 am_signWaits (m_28.1 am fGuideBookModel_deep).toNatClampNeg (5 : Int32)) am fGuideBookModel_at (((xst q_29.2.1 am_signWaits (m_28.1 am fGuideBookModel_deep).toNatClampNeg (5 : Int32)) am fGuideBookModel_at) + (1 : Int32)), q_29.2.2)))
      else none))
def gc3 (m_32 : xMem) : Option (Int32 × xMem) :=
    if xin (m_32.1 am fGuideBookModel_deep) 7 = true then (
    some ((1 : Int32), (xst (xst m_32.1 am_andWaits (m_32.1 am fGuideBookModel_deep).toNatClampNeg (7 : Int32)) am fGuideBookModel_at (((xst m_32.1 am_andWaits (m_32.1 am fGuideBookModel_deep).toNatClampNeg (7 : Int32)) am fGuideBookModel_at) + (1 : Int32)), m_32.2)))
    else none
/-- on with a part, or out -/
def KT (C : xMem → Option (Int32 × xMem)) (fk : Nat) (q : Int32 × xMem) : Option (Int32 × xMem) := if q.1 = 0 then C q.2 else L_X10_line_185 C fk 1 q.2
/-- the places behind a part -/
def BH (C : xMem → Option (Int32 × xMem)) (fk fk2 : Nat) (m : xMem) : Option (Int32 × xMem) := (L_X10_goesOnBehind_0 gc1 gc2 gc3 fk2 m).bind (KT C fk)
def B43 (C : xMem → Option (Int32 × xMem)) (fk fk2 : Nat) (m : xMem) : Option (Int32 × xMem) := (J_X10_goesOnBehind_43 (fun m => L_X10_goesOnBehind_0 gc1 gc2 gc3 fk2 m) gc1 gc2 gc3 m).bind (KT C fk)
def B189 (C : xMem → Option (Int32 × xMem)) (fk fk2 : Nat) (m : xMem) : Option (Int32 × xMem) := (J_X10_goesOnBehind_189 (fun m => L_X10_goesOnBehind_0 gc1 gc2 gc3 fk2 m) gc1 gc2 gc3 m).bind (KT C fk)
def B218 (C : xMem → Option (Int32 × xMem)) (fk fk2 : Nat) (m : xMem) : Option (Int32 × xMem) := (J_X10_goesOnBehind_218 (fun m => L_X10_goesOnBehind_0 gc1 gc2 gc3 fk2 m) gc1 gc2 gc3 m).bind (KT C fk)
/-- the cells written from c on -/
def mCd (h : Nat) (m : xMem) (c : Nat) (ts : List xTok) : Prop := ∀ j t, ts[j]? = some t → m.1 96 (660 * h + c + j) = tkO t ∧ m.1 97 (660 * h + c + j) = tkA t
theorem mCd.app {m m' : xMem} {c d : Nat} {a b : List xTok} (h1 : mCd h m c a) (f : mfr h d (c + a.length) m m') (h2 : mCd h m' (c + a.length) b) : mCd h m' c (a ++ b) := by
  intro j t ht
  by_cases w : j < a.length
  · rw [List.getElem?_append_left w] at ht
    rw [f.2 96 _ (by omega) (by omega) (by omega), f.2 97 _ (by omega) (by omega) (by omega)]
    exact h1 j t ht
  · rw [List.getElem?_append_right (by omega)] at ht
    have := h2 (j - a.length) t ht
    rw [show 660 * h + (c + a.length) + (j - a.length) = 660 * h + c + j by omega] at this
    exact this
/-- what comes of a piece: it gets to X with this waiting, or the fault is told -/
def mR (K : Nat → Nat) (V : Nat → Int32) (Pl : Nat → Nat) (N h : Nat) (C : xMem → Option (Int32 × xMem)) (X : Nat → Nat → xMem → Option (Int32 × xMem)) (m : xMem) (fk i c d : Nat) (sw gw aw : Int32) (r : xPR) : Prop :=
  (r.1 = 0 → ∃ fk' fk2 m', L_X10_line_185 C fk 1 m = X fk' fk2 m' ∧ fk + i ≤ fk' + r.2.1 ∧ 1990 + d ≤ fk2 ∧ mS K V Pl N h m' r.2.1 (c + r.2.2.length) d sw gw aw ∧ mfr h d c m m' ∧ mCd h m' c r.2.2) ∧
  (r.1 ≠ 0 → ∃ m', L_X10_line_185 C fk 1 m = C m' ∧ m'.1 87 8 = Int32.ofNat (r.1 + 16 * Pl r.2.1) ∧ mfr h d c m m')
/-- a simulation from a part's place, with these waiting before, to X with those -/
def mSim (K : Nat → Nat) (V : Nat → Int32) (Pl : Nat → Nat) (N h d : Nat) (X : (xMem → Option (Int32 × xMem)) → Nat → Nat → xMem → Option (Int32 × xMem)) (P : Nat → xPR) (Wt : Int32 → Int32 → Int32 → Prop) : Prop := ∀ C m fk i c sw gw aw, Wt sw gw aw → mS K V Pl N h m i c d sw gw aw → N + 2 ≤ fk + i → mR K V Pl N h C (X C) m fk i c d sw gw aw (P i)
/-- the fault, told: out -/
theorem kt_bad {C : xMem → Option (Int32 × xMem)} {fk fk2 : Nat} {m : xMem} (hf : ¬ m.1 87 8 = 0) : BH C fk (fk2 + 1) m = C m := by
  have hf' : ¬ m.1 am fGuideBookModel_fault = 0 := hf
  unfold BH
  rw [L_X10_goesOnBehind_0, if_neg hf', Option.bind_some]
  unfold KT
  rw [if_pos rfl]
theorem l185 {C : xMem → Option (Int32 × xMem)} {fk : Nat} {m : xMem} (hfk : 1 ≤ fk) (hf : m.1 87 8 = 0) : L_X10_line_185 C (fk + 1) 1 m = (F_X10_part m).bind fun q => if q.1 = 0 then BH C fk xfuel q.2 else L_X10_line_185 C fk 1 q.2 := by
  have hf' : m.1 am fGuideBookModel_fault = 0 := hf
  have z : ∀ q, L_X10_line_185 C fk 0 q = C q := fun q => by
    obtain ⟨f, rfl⟩ : ∃ f, fk = f + 1 := ⟨fk - 1, by omega⟩
    rw [L_X10_line_185, if_pos rfl]
  rw [L_X10_line_185, if_neg (by decide), if_pos hf']
  congr 1
  funext q
  by_cases w : q.1 = 0
  · rw [if_pos w, if_pos w]
    unfold BH F_X10_goesOnBehind
    show (L_X10_goesOnBehind_0 gc1 gc2 gc3 xfuel q.2).bind _ = _
    congr 1
    funext p
    unfold KT J_X10_line_215 J_X10_line_210 J_X10_line_215
    by_cases w2 : p.1 = 0
    · rw [if_pos w2, if_pos w2]
      exact z p.2
    · rw [if_neg w2, if_neg w2]
  · rw [if_neg w, if_neg w]
    rfl
theorem ft_ne {k p : Nat} (hk : 1 ≤ k) (hk9 : k ≤ 9) (hp : p ≤ 600) : ¬ Int32.ofNat (k + 16 * p) = 0 ∧ ¬ Int32.ofNat (k + 16 * p) ≤ 0 := by
  constructor
  · intro w
    have := (o_eq (b := 0) (by omega) (by omega)).mp w
    omega
  · intro w
    have := (o_le (b := 0) (by omega) (by omega)).mp w
    omega
theorem tb_v {v : Int32} : v.toInt64.toInt32 = v := by
  have := Int32.toInt_toInt64 v
  have h1 := Int32.le_toInt v
  have h2 := Int32.toInt_lt v
  rw [← Int32.toInt_inj, j_i32 (by rw [this]; omega) (by rw [this]; omega), this]
/-- a part that ends here -/
theorem m_part_no {m : xMem} {i c d : Nat} {sw gw aw : Int32} (S : mS K V Pl N h m i c d sw gw aw) (hp : ¬ (K i = 40 ∨ K i = 2 ∨ (204 ≤ K i ∧ K i ≤ 209))) : F_X10_part m = some (0, (xst m.1 87 8 (Int32.ofNat (1 + 16 * Pl i)), m.2)) := by
  obtain ⟨A, -⟩ := id S
  obtain ⟨⟨hN, hw, ht⟩, hf, ha, hi⟩ := id A
  have hf' : m.1 am fGuideBookModel_fault = 0 := hf
  have ha' : m.1 am fGuideBookModel_at = Int32.ofNat i := ha
  have i1 : xin (Int32.ofNat i) 602 = true := o_in (by omega) (by omega)
  have n1 : (Int32.ofNat i).toNatClampNeg = i := o_nat (by omega)
  obtain ⟨-, hpl, t⟩ := ht i hi
  have s2 : ¬ m.1 am_sort i = 2 := by
    show ¬ m.1 89 i = 2
    rcases t with ⟨k, s⟩ | ⟨k, s⟩ | ⟨k, s, -⟩ | ⟨k, s, -⟩ | ⟨k1, k2, s, -⟩
    · rw [s]; decide
    · rcases s with s | ⟨s, -⟩ <;> rw [s] <;> decide
    · omega
    · rw [s]; decide
    · rw [s]; decide
  unfold F_X10_part
  rw [m_partWord A, Option.bind_some]
  dsimp only
  rw [hf', if_pos rfl, ha', if_pos i1, n1, if_neg s2, show (40 : Int32) = Int32.ofNat 40 from rfl, m_isSign A (Or.inl rfl), Option.bind_some]
  dsimp only
  rw [if_neg (show ¬ K i = 40 by omega), if_pos rfl, if_neg (show ¬ (204 ≤ K i ∧ K i ≤ 209) by omega), if_neg (show ¬ (0 : Int32) ≤ -1 by decide), show (1 : Int32) = Int32.ofNat 1 from rfl, m_wrong A, Option.bind_some]
  unfold J_X10_part_59
  have e : (xst m.1 87 8 (Int32.ofNat (1 + 16 * Pl i))) am fGuideBookModel_fault = Int32.ofNat (1 + 16 * Pl i) := xst_s
  dsimp only
  rw [e, if_neg (ft_ne (by omega) (by omega) hpl).2]
/-- up to where it is known to be a part -/
theorem m_part_46 {m : xMem} {i c d : Nat} {sw gw aw : Int32} (S : mS K V Pl N h m i c d sw gw aw) (hp : K i = 40 ∨ K i = 2 ∨ (204 ≤ K i ∧ K i ≤ 209)) : F_X10_part m = J_X10_part_46 (if 204 ≤ K i ∧ K i ≤ 209 then Int32.ofNat (K i - 204) else -1) m := by
  obtain ⟨A, -⟩ := id S
  obtain ⟨⟨hN, hw, ht⟩, hf, ha, hi⟩ := id A
  have hf' : m.1 am fGuideBookModel_fault = 0 := hf
  have ha' : m.1 am fGuideBookModel_at = Int32.ofNat i := ha
  have i1 : xin (Int32.ofNat i) 602 = true := o_in (by omega) (by omega)
  have n1 : (Int32.ofNat i).toNatClampNeg = i := o_nat (by omega)
  unfold F_X10_part
  rw [m_partWord A, Option.bind_some]
  dsimp only
  rw [hf', if_pos rfl, ha', if_pos i1, n1]
  by_cases s2 : m.1 am_sort i = 2
  · rw [if_pos s2]
  · rw [if_neg s2, show (40 : Int32) = Int32.ofNat 40 from rfl, m_isSign A (Or.inl rfl), Option.bind_some]
    dsimp only
    by_cases w : K i = 40
    · rw [if_pos w, if_neg (by decide)]
    · rw [if_neg w, if_pos rfl]
      by_cases wn : 204 ≤ K i ∧ K i ≤ 209
      · rw [if_pos wn, if_pos]
        rw [o_zero, o_le (by omega) (by omega)]
        omega
      · exfalso
        obtain ⟨-, -, t⟩ := ht i hi
        have k2 : K i = 2 := by omega
        rcases t with ⟨k, s⟩ | ⟨k, s⟩ | ⟨k, s, -⟩ | ⟨k, s, -⟩ | ⟨k1, k2, s, -⟩
        · omega
        · omega
        · exact s2 s
        · unfold sgn at k; omega
        · omega
theorem mS.fr {m m' : xMem} {i c d c0 : Nat} {sw gw aw : Int32} (S : mS K V Pl N h m i c d sw gw aw) (f : mfr h d c0 m m') : MTk K V Pl N m' ∧ m'.1 87 16 = Int32.ofNat h := ⟨S.1.1.mv f, (f.2 87 16 (by omega) (by omega) (by omega)).trans S.2.2.2.2.2.1⟩
/-- a cell written and one token on, at the same depth -/
theorem m_put {m : xMem} {i c d : Nat} {sw gw aw : Int32} (S : mS K V Pl N h m i c d sw gw aw) (hi : i < N) {t : xTok} : mS K V Pl N h (xst (xst (xst (xst m.1 96 (660 * h + c) (tkO t)) 97 (660 * h + c) (tkA t)) 87 17 (Int32.ofNat (c + 1))) 87 7 (Int32.ofNat (i + 1)), m.2) (i + 1) (c + 1) d sw gw aw ∧ mfr h d c m (xst (xst (xst (xst m.1 96 (660 * h + c) (tkO t)) 97 (660 * h + c) (tkA t)) 87 17 (Int32.ofNat (c + 1))) 87 7 (Int32.ofNat (i + 1)), m.2) ∧ mCd h (xst (xst (xst (xst m.1 96 (660 * h + c) (tkO t)) 97 (660 * h + c) (tkA t)) 87 17 (Int32.ofNat (c + 1))) 87 7 (Int32.ofNat (i + 1)), m.2) c [t] := by
  obtain ⟨A, hc, hci, hd, hd5, hn, hh, q1, q2, q3⟩ := id S
  have hN := A.1.1
  obtain ⟨I, hI⟩ : ∃ I : xI, I = xst (xst (xst (xst m.1 96 (660 * h + c) (tkO t)) 97 (660 * h + c) (tkA t)) 87 17 (Int32.ofNat (c + 1))) 87 7 (Int32.ofNat (i + 1)) := ⟨_, rfl⟩
  rw [← hI]
  have F : ∀ b j, ¬ (b = 87 ∧ (j = 7 ∨ j = 17)) → ¬ ((b = 96 ∨ b = 97) ∧ j = 660 * h + c) → I b j = m.1 b j := fun b j w1 w2 => by
    rw [hI, xst_n (by omega), xst_n (by omega), xst_n (by omega), xst_n (by omega)]
  have f : mfr h d c m (I, m.2) := ⟨rfl, fun b j w1 w2 w3 => F b j (by omega) (by omega)⟩
  refine ⟨⟨⟨A.1.mv f, (F 87 8 (by omega) (by omega)).trans A.2.1, ?_, by omega⟩, ?_, by omega, (F 87 18 (by omega) (by omega)).trans hd, hd5, (F 87 16 (by omega) (by omega)).trans hn, hh, (F 98 d (by omega) (by omega)).trans q1, (F 99 d (by omega) (by omega)).trans q2, (F 100 d (by omega) (by omega)).trans q3⟩, f, fun j t' ht => ?_⟩
  · show I 87 7 = _
    rw [hI]; exact xst_s
  · show I 87 17 = _
    rw [hI, xst_n (by omega)]; exact xst_s
  · have : j = 0 ∧ t' = t := by
      cases j with
      | zero => exact ⟨rfl, by simpa using ht.symm⟩
      | succ j => simp at ht
    rw [this.1, this.2, Nat.add_zero]
    constructor
    · show I 96 _ = _
      rw [hI, xst_n (by omega), xst_n (by omega), xst_n (by omega)]; exact xst_s
    · show I 97 _ = _
      rw [hI, xst_n (by omega), xst_n (by omega)]; exact xst_s
end MQ
