section MN
variable {K : Nat → Nat} {V : Nat → Int32} {Pl : Nat → Nat} {N h : Nat}
/-- what the reference's reading of a text may change, half h -/
def gfr (h : Nat) (m m' : xMem) : Prop := m'.2 = m.2 ∧ ∀ b j, ¬ (b = 87 ∧ (j = 7 ∨ j = 8 ∨ j = 17 ∨ j = 18)) → ¬ (98 ≤ b ∧ b ≤ 100) → ¬ ((b = 96 ∨ b = 97) ∧ 660 * h ≤ j ∧ j < 660 * h + 660) → ¬ ((b = 94 ∨ b = 95) ∧ 16 * h ≤ j ∧ j < 16 * h + 16) → ¬ (b = 93 ∧ j = h) → m'.1 b j = m.1 b j
theorem gfr.refl (m : xMem) : gfr h m m := ⟨rfl, fun _ _ _ _ _ _ _ => rfl⟩
theorem gfr.trans {x y z : xMem} (f : gfr h x y) (g : gfr h y z) : gfr h x z := ⟨g.1.trans f.1, fun b j w1 w2 w3 w4 w5 => (g.2 b j w1 w2 w3 w4 w5).trans (f.2 b j w1 w2 w3 w4 w5)⟩
theorem mfr.g {d c : Nat} {m m' : xMem} (f : mfr h d c m m') : gfr h m m' := ⟨f.1, fun b j w1 w2 w3 w4 w5 => f.2 b j w1 (by omega) (by omega)⟩
/-- the end of a line -/
def cnL (m_21 : xMem) : Option (Int32 × xMem) :=
      (F_X10_emit ((0 : Int32)) ((0 : Int32)) m_21).bind fun q_22 => (
      (F_X10_takeSign ((59 : Int32)) q_22.2).bind fun q_23 => (
      if xin (q_23.2.1 am fGuideBookModel_next) 2 = true then (
      if xin (q_23.2.1 am fGuideBookModel_next) 2 = true then (
      some (0, (xst q_23.2.1 am_lines (q_23.2.1 am fGuideBookModel_next).toNatClampNeg ((q_23.2.1 am_lines (q_23.2.1 am fGuideBookModel_next).toNatClampNeg) + (1 : Int32)), q_23.2.2)))
      else none)
      else none))
theorem cn_bad {m : xMem} {c : Nat} (hf : ¬ m.1 87 8 = 0) (hc : m.1 87 17 = Int32.ofNat c) (hc6 : c ≤ 640) (hn : m.1 87 16 = Int32.ofNat h) (hh : h = 0 ∨ h = 1) : ∃ m', cnL m = some (0, m') ∧ gfr h m m' ∧ m'.1 87 8 = m.1 87 8 := by
  obtain ⟨I, hI⟩ : ∃ I : xI, I = xst (xst (xst m.1 96 (660 * h + c) 0) 97 (660 * h + c) 0) 87 17 (Int32.ofNat (c + 1)) := ⟨_, rfl⟩
  have F : ∀ b j, ¬ (b = 87 ∧ j = 17) → ¬ ((b = 96 ∨ b = 97) ∧ j = 660 * h + c) → I b j = m.1 b j := fun b j u1 u2 => by
    rw [hI, xst_n u1, xst_n (by omega), xst_n (by omega)]
  have f8 : ¬ I am fGuideBookModel_fault = 0 := fun u => hf ((F 87 8 (by omega) (by omega)).symm.trans u)
  have n8 : I am fGuideBookModel_next = Int32.ofNat h := (F 87 16 (by omega) (by omega)).trans hn
  have i2 : xin (Int32.ofNat h) 2 = true := o_in (by omega) (by omega)
  have n2 : (Int32.ofNat h).toNatClampNeg = h := o_nat (by omega)
  have ht : F_X10_takeSign 59 (I, m.2) = some (0, (I, m.2)) := by
    unfold F_X10_takeSign F_X10_isSign F_X10_wrong
    simp only [f8, ↓reduceIte, Option.bind_some]
  refine ⟨(xst I 93 h (I 93 h + 1), m.2), ?_, ⟨rfl, fun b j w1 w2 w3 w4 w5 => ?_⟩, ?_⟩
  · unfold cnL
    rw [m_emit hc hc6 hn hh, Option.bind_some, ← hI]
    dsimp only
    rw [ht, Option.bind_some]
    dsimp only
    simp only [n8, i2, n2, ↓reduceIte]
  · show xst I 93 h (I 93 h + 1) b j = _
    rw [xst_n w5]
    exact F b j (by omega) (by omega)
  · show xst I 93 h (I 93 h + 1) 87 8 = _
    rw [xst_n (by omega)]
    exact F 87 8 (by omega) (by omega)
/-- with a fault told, the rest of a line does nothing more -/
theorem tl_bad {m : xMem} {c x : Nat} (hf : ¬ m.1 87 8 = 0) (hc : m.1 87 17 = Int32.ofNat c) (hc6 : c ≤ 640) (hn : m.1 87 16 = Int32.ofNat h) (hh : h = 0 ∨ h = 1) (hx : 16 * h ≤ x ∧ x < 16 * h + 16) : ∃ m', ((F_X10_takeWord ((1 : Int32)) m).bind fun q_8 => (
    if xin (Int32.ofNat x) 32 = true then (
    (F_X10_opens (xst (xst q_8.2.1 am_lineAt (Int32.ofNat x).toNatClampNeg (((660 : Int32) * (q_8.2.1 am fGuideBookModel_next)) + (q_8.2.1 am fGuideBookModel_codes))) am fGuideBookModel_deep (0 : Int32), q_8.2.2)).bind fun q_10 => (
    L_X10_line_185 cnL xfuel ((1 : Int32)) q_10.2))
    else none)) = some (0, m') ∧ gfr h m m' ∧ m'.1 87 8 = m.1 87 8 := by
  have hf' : ¬ m.1 am fGuideBookModel_fault = 0 := hf
  have i1 : xin (Int32.ofNat x) 32 = true := o_in (by omega) (by omega)
  have n1 : (Int32.ofNat x).toNatClampNeg = x := o_nat (by omega)
  have hself : xst m.1 am fGuideBookModel_at (m.1 am fGuideBookModel_at + 0) = m.1 := by
    funext b j
    by_cases u : b = am ∧ j = fGuideBookModel_at
    · rw [u.1, u.2, Int32.add_zero]; exact xst_s
    · exact xst_n u
  have hself2 : ((xst m.1 am fGuideBookModel_at (m.1 am fGuideBookModel_at + 0), m.2) : xMem) = m := by rw [hself]
  have b0 : xbb 0 = true := by decide
  have htw : F_X10_takeWord 1 m = some (0, m) := by
    unfold F_X10_takeWord F_X10_hasWord F_X10_isWord F_X10_wrong
    simp only [hf', ↓reduceIte, Option.bind_some, b0, hself, hself2]
  rw [htw, Option.bind_some]
  dsimp only
  rw [if_pos i1, n1]
  obtain ⟨I, hI⟩ : ∃ I : xI, I = xst (xst m.1 am_lineAt x (((660 : Int32) * (m.1 am fGuideBookModel_next)) + (m.1 am fGuideBookModel_codes))) am fGuideBookModel_deep 0 := ⟨_, rfl⟩
  rw [← hI]
  have F : ∀ b j, ¬ (b = 95 ∧ j = x) → ¬ (b = 87 ∧ j = 18) → I b j = m.1 b j := fun b j u1 u2 => by rw [hI, xst_n u2, xst_n u1]
  rw [m_opens (m := (I, m.2)) (d := 0) (by show I 87 18 = _; rw [hI]; exact xst_s) (by omega), Option.bind_some]
  dsimp only
  obtain ⟨J, hJ⟩ : ∃ J : xI, J = xst (xst (xst I 98 0 0) 99 0 0) 100 0 0 := ⟨_, rfl⟩
  rw [← hJ]
  have G : ∀ b j, ¬ (98 ≤ b ∧ b ≤ 100) → J b j = I b j := fun b j u => by rw [hJ, xst_n (by omega), xst_n (by omega), xst_n (by omega)]
  have H8 : J 87 8 = m.1 87 8 := (G 87 8 (by omega)).trans (F 87 8 (by omega) (by omega))
  have hf2 : ¬ (J, m.2).1 am fGuideBookModel_fault = 0 := fun u => hf (H8.symm.trans u)
  obtain ⟨m', r1, r2, r3⟩ := cn_bad (h := h) (m := (J, m.2)) (c := c) (fun u => hf (H8.symm.trans u)) ((G 87 17 (by omega)).trans ((F 87 17 (by omega) (by omega)).trans hc)) hc6 ((G 87 16 (by omega)).trans ((F 87 16 (by omega) (by omega)).trans hn)) hh
  refine ⟨m', ?_, ?_, r3.trans H8⟩
  · rw [show xfuel = 1999 + 1 from rfl, L_X10_line_185, if_neg (by decide), if_neg hf2]
    exact r1
  · refine gfr.trans (y := (J, m.2)) ⟨rfl, fun b j w1 w2 w3 w4 w5 => ?_⟩ r2
    exact (G b j w2).trans (F b j (by omega) (by omega))
end MN
