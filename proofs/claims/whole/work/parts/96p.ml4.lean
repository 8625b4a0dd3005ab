section MO
variable {K : Nat → Nat} {V : Nat → Int32} {Pl : Nat → Nat} {N h : Nat}
/-- what a line of the reference comes to -/
def mLr (K : Nat → Nat) (V : Nat → Int32) (Pl : Nat → Nat) (N h : Nat) (m m' : xMem) (ls : List xLine) (r : xLR) : Prop := gfr h m m' ∧ (r.1 = 0 → mAt0 K V Pl N m' r.2.1 ∧ m'.1 87 17 = Int32.ofNat (mAt (ls ++ [r.2.2]) (ls ++ [r.2.2]).length) ∧ cAt (ls ++ [r.2.2]) (ls ++ [r.2.2]).length ≤ r.2.1 ∧ txM m'.1 h (ls ++ [r.2.2])) ∧ (r.1 ≠ 0 → m'.1 87 8 = Int32.ofNat (r.1 + 16 * Pl r.2.1))
theorem m_l113b {m : xMem} {c x : Nat} (hf : ¬ m.1 87 8 = 0) (hf' : ¬ m.1 87 8 ≤ 0) (hc : m.1 87 17 = Int32.ofNat c) (hc6 : c ≤ 640) (hn : m.1 87 16 = Int32.ofNat h) (hh : h = 0 ∨ h = 1) (hx : 16 * h ≤ x ∧ x < 16 * h + 16) : ∃ m', J_X10_line_113 (Int32.ofNat x) m = some (0, m') ∧ gfr h m m' ∧ m'.1 87 8 = m.1 87 8 := by
  have i1 : xin (Int32.ofNat x) 32 = true := o_in (by omega) (by omega)
  have n1 : (Int32.ofNat x).toNatClampNeg = x := o_nat (by omega)
  have f0 : ¬ m.1 am fGuideBookModel_fault ≤ 0 := hf'
  obtain ⟨m1, hm1⟩ : ∃ m1 : xMem, m1 = (xst (xst m.1 am_lineN x 0) am fGuideBookModel_at (xst m.1 am_lineN x 0 am fGuideBookModel_at + 1), m.2) := ⟨_, rfl⟩
  have F1 : ∀ b j, ¬ (b = 94 ∧ j = x) → ¬ (b = 87 ∧ j = 7) → m1.1 b j = m.1 b j := fun b j u1 u2 => by
    rw [hm1]
    show xst (xst m.1 94 x 0) 87 7 _ b j = _
    rw [xst_n u2, xst_n u1]
  have g1 : gfr h m m1 := ⟨by rw [hm1], fun b j u1 u2 u3 u4 u5 => F1 b j (by omega) (by omega)⟩
  have e8 : m1.1 87 8 = m.1 87 8 := F1 87 8 (by omega) (by omega)
  obtain ⟨m3, k1, k2, k3⟩ := tl_bad (h := h) (x := x) (m := m1) (c := c) (by rw [e8]; exact hf) ((F1 87 17 (by omega) (by omega)).trans hc) hc6 ((F1 87 16 (by omega) (by omega)).trans hn) hh hx
  refine ⟨m3, ?_, g1.trans k2, k3.trans e8⟩
  unfold J_X10_line_113
  rw [if_neg f0, if_pos i1, n1, ← hm1]
  rw [n1] at k1
  exact k1
theorem m_line (hK : ∀ i, i ≤ N → (K i = 0 ↔ i = N)) (hK9 : ∀ i, i ≤ N → K i ≤ 209) (hV : ∀ i, 0 ≤ V i) {m : xMem} {i : Nat} {ls : List xLine} (A : mAt0 K V Pl N m i) (hc : m.1 87 17 = Int32.ofNat (mAt ls ls.length)) (hci : cAt ls ls.length ≤ i) (hn : m.1 87 16 = Int32.ofNat h) (hh : h = 0 ∨ h = 1) (T : txM m.1 h ls) (hl : ls.length ≤ 16) : ∃ m', F_X10_line m = some (0, m') ∧ mLr K V Pl N h m m' ls (pLn K V ls.length i) := by
  have hN := A.1.1
  have hi := A.2.2.2
  have hcl := (cAt_le (ls := ls) ls.length).2
  have hpl := (A.1.2.2 i hi).2.1
  have n8 : m.1 am fGuideBookModel_next = Int32.ofNat h := hn
  have i2 : xin (Int32.ofNat h) 2 = true := o_in (by omega) (by omega)
  have n2 : (Int32.ofNat h).toNatClampNeg = h := o_nat (by omega)
  have l8 : m.1 am_lines h = Int32.ofNat ls.length := T.1
  have bad : ∀ k, 1 ≤ k → k ≤ 9 → pLn K V ls.length i = (k, i, 0, []) → (F_X10_wrong (Int32.ofNat k) m).bind (fun q => J_X10_line_35 q.2) = F_X10_line m → ∃ m', F_X10_line m = some (0, m') ∧ mLr K V Pl N h m m' ls (pLn K V ls.length i) := by
    intro k k1 k9 e hw
    have e8 : xst m.1 87 8 (Int32.ofNat (k + 16 * Pl i)) 87 8 = Int32.ofNat (k + 16 * Pl i) := xst_s
    have f8 : ¬ xst m.1 87 8 (Int32.ofNat (k + 16 * Pl i)) am fGuideBookModel_fault ≤ 0 := fun u => (ft_ne k1 k9 hpl).2 (by rw [← e8]; exact u)
    refine ⟨(xst m.1 87 8 (Int32.ofNat (k + 16 * Pl i)), m.2), ?_, ⟨rfl, fun b j u1 u2 u3 u4 u5 => xst_n (by omega)⟩, ?_, ?_⟩
    · rw [← hw, m_wrong A, Option.bind_some]
      unfold J_X10_line_35
      dsimp only
      rw [if_neg f8]
    · rw [e]; intro u; have : k = 0 := u; omega
    · rw [e]; intro _; exact e8
  have hw1 : F_X10_isWord 0 m = some (if K i = 201 then 1 else 0, m) := m_isWord (w := 0) A (by omega)
  by_cases w1 : K i = 201
  · by_cases w16 : ls.length = 16
    · refine bad 5 (by omega) (by omega) ?_ ?_
      · unfold pLn
        rw [if_pos w1, if_pos (by omega)]
      · unfold F_X10_line
        rw [hw1, Option.bind_some]
        dsimp only
        rw [if_pos w1, if_neg (by decide), n8, if_pos i2, n2, l8, if_pos (show Int32.ofNat ls.length = 16 by rw [w16]; rfl)]
        rfl
    · have hl' : ls.length < 16 := by omega
      have q16 : ¬ Int32.ofNat ls.length = 16 := fun u => w16 ((o_eq (b := 16) (by omega) (by omega)).mp u)
      have hi1 : i < N := at_lt hK hi (by omega)
      have f0 : m.1 am fGuideBookModel_fault ≤ 0 := by rw [show m.1 am fGuideBookModel_fault = 0 from A.2.1]; decide
      have a0 : m.1 am fGuideBookModel_at = Int32.ofNat i := A.2.2.1
      obtain ⟨m1, hm1⟩ : ∃ m1 : xMem, m1 = (xst m.1 87 7 (Int32.ofNat (i + 1)), m.2) := ⟨_, rfl⟩
      have F1 : ∀ b j, ¬ (b = 87 ∧ j = 7) → m1.1 b j = m.1 b j := fun b j u => by rw [hm1]; exact xst_n u
      have g1 : gfr h m m1 := ⟨by rw [hm1], fun b j u1 u2 u3 u4 u5 => F1 b j (by omega)⟩
      have A1 : mAt0 K V Pl N m1 (i + 1) := ⟨A.1.g g1, (F1 87 8 (by omega)).trans A.2.1, by rw [hm1]; dsimp only; exact xst_s, by omega⟩
      have hc1 : m1.1 87 17 = Int32.ofNat (mAt ls ls.length) := (F1 87 17 (by omega)).trans hc
      have hn1 : m1.1 87 16 = Int32.ofNat h := (F1 87 16 (by omega)).trans hn
      have T1 : txM m1.1 h ls := by
        refine ⟨(F1 93 h (by omega)).trans T.1, fun j l hl => ?_⟩
        obtain ⟨b1, b2, b3, b4⟩ := T.2 j l hl
        refine ⟨(F1 94 _ (by omega)).trans b1, (F1 95 _ (by omega)).trans b2, fun y t ht => ?_, (F1 96 _ (by omega)).trans b4⟩
        rw [F1 96 _ (by omega), F1 97 _ (by omega)]
        exact b3 y t ht
      have i3 : xin (Int32.ofNat (i + 1)) 602 = true := o_in (by omega) (by omega)
      have n3 : (Int32.ofNat (i + 1)).toNatClampNeg = i + 1 := o_nat (by omega)
      have hs := m_sort2 A1.1 A1.2.2.2
      have en : m1.1 am fGuideBookModel_next = Int32.ofNat h := hn1
      have ea : m1.1 am fGuideBookModel_at = Int32.ofNat (i + 1) := A1.2.2.1
      have el : m1.1 am_lines h = Int32.ofNat ls.length := T1.1
      have hst : F_X10_line m = (if m1.1 am_sort (i + 1) = 2 then (if lg_cmp (m1.2 am_value (i + 1)) 5 ≤ 0 then J_X10_line_113 (Int32.ofNat (16 * h + ls.length)) m1 else (F_X10_wrong 4 m1).bind fun q => J_X10_line_113 (Int32.ofNat (16 * h + ls.length)) q.2) else (F_X10_wrong 1 m1).bind fun q => J_X10_line_113 (Int32.ofNat (16 * h + ls.length)) q.2) := by
        unfold F_X10_line
        rw [hw1, Option.bind_some]
        dsimp only
        rw [if_pos w1, if_neg (by decide), n8, if_pos i2, n2, l8, if_neg q16]
        unfold J_X10_line_35
        rw [if_pos f0, a0, o_succ]
        have e1 : xst m.1 am fGuideBookModel_at (Int32.ofNat (i + 1)) = m1.1 := by rw [hm1]
        have e2 : m.2 = m1.2 := by rw [hm1]
        rw [e1, e2]
        simp only [en, ea, el, n2, n3, i2, i3, ↓reduceIte, o_16, o_add]
      have bad2 : ∀ k, 1 ≤ k → k ≤ 9 → pLn K V ls.length i = (k, i + 1, 0, []) → F_X10_line m = ((F_X10_wrong (Int32.ofNat k) m1).bind fun q => J_X10_line_113 (Int32.ofNat (16 * h + ls.length)) q.2) → ∃ m', F_X10_line m = some (0, m') ∧ mLr K V Pl N h m m' ls (pLn K V ls.length i) := by
        intro k k1 k9 e hw
        have e8 : xst m1.1 87 8 (Int32.ofNat (k + 16 * Pl (i + 1))) 87 8 = Int32.ofNat (k + 16 * Pl (i + 1)) := xst_s
        have hpl1 := (A1.1.2.2 (i + 1) A1.2.2.2).2.1
        have e17 : xst m1.1 87 8 (Int32.ofNat (k + 16 * Pl (i + 1))) 87 17 = Int32.ofNat (mAt ls ls.length) := by rw [xst_n (by omega)]; exact hc1
        have e16 : xst m1.1 87 8 (Int32.ofNat (k + 16 * Pl (i + 1))) 87 16 = Int32.ofNat h := by rw [xst_n (by omega)]; exact hn1
        obtain ⟨m3, k1', k2, k3⟩ := m_l113b (h := h) (x := 16 * h + ls.length) (m := (xst m1.1 87 8 (Int32.ofNat (k + 16 * Pl (i + 1))), m1.2)) (c := mAt ls ls.length) (by rw [show (xst m1.1 87 8 (Int32.ofNat (k + 16 * Pl (i + 1))), m1.2).1 87 8 = _ from e8]; exact (ft_ne k1 k9 hpl1).1) (by rw [show (xst m1.1 87 8 (Int32.ofNat (k + 16 * Pl (i + 1))), m1.2).1 87 8 = _ from e8]; exact (ft_ne k1 k9 hpl1).2) e17 (by omega) e16 hh (by omega)
        refine ⟨m3, ?_, g1.trans (gfr.trans (y := (xst m1.1 87 8 (Int32.ofNat (k + 16 * Pl (i + 1))), m1.2)) ⟨rfl, fun b j u1 u2 u3 u4 u5 => xst_n (by omega)⟩ k2), ?_, ?_⟩
        · rw [hw, m_wrong A1, Option.bind_some]
          exact k1'
        · rw [e]; intro u; have : k = 0 := u; omega
        · rw [e]; intro _; exact k3.trans e8
      by_cases w2 : K (i + 1) = 2
      · have v0 : m1.2 am_value (i + 1) = (V (i + 1)).toInt64 := hs.2.1 w2
        have s0 : m1.1 am_sort (i + 1) = 2 := hs.1.mpr w2
        by_cases w5 : V (i + 1) ≤ 5
        · rw [hst, if_pos s0, v0, if_pos (lc5.mpr w5)]
          obtain ⟨m2, k1, k2, k3, k4⟩ := m_l113 hK hK9 hV A1 hc1 hci hn1 hh T1 hl' w1 w2 w5
          exact ⟨m2, k1, g1.trans k2, k3, k4⟩
        · refine bad2 4 (by omega) (by omega) ?_ ?_
          · unfold pLn
            rw [if_pos w1, if_neg (by omega), if_pos w2, if_neg w5]
          · rw [hst, if_pos s0, v0, if_neg (fun u => w5 (lc5.mp u))]
            rfl
      · refine bad2 1 (by omega) (by omega) ?_ ?_
        · unfold pLn
          rw [if_pos w1, if_neg (by omega), if_neg w2]
        · rw [hst, if_neg (fun u => w2 (hs.1.mp u))]
          rfl
  · refine bad 1 (by omega) (by omega) ?_ ?_
    · unfold pLn
      rw [if_neg w1]
    · unfold F_X10_line
      rw [hw1, Option.bind_some]
      dsimp only
      rw [if_neg w1, if_pos rfl]
      rfl
theorem pLn_g (hK : ∀ i, i ≤ N → (K i = 0 ↔ i = N)) (hV : ∀ i, 0 ≤ V i) (n i : Nat) (hi : i ≤ N) : (pLn K V n i).2.1 ≤ N := by
  unfold pLn
  split
  · have h1 : i < N := at_lt hK hi (by omega)
    split
    · exact hi
    · split
      · have h2 : i + 1 < N := at_lt hK h1 (by omega)
        split
        · split
          · have h3 : i + 2 < N := at_lt hK h2 (by omega)
            have g := (pE_g (N := N) hK hV 10 0 (i + 3) h3).1
            split
            · split
              · exact at_lt hK g (by omega)
              · exact g
            · exact g
          · exact h2
        · exact h1
      · exact h1
  · exact hi
/-- all lines -/
theorem pLn_f9 (n i : Nat) : (pLn K V n i).1 ≤ 9 := by
  unfold pLn
  repeat' split
  all_goals first
    | exact Nat.zero_le _
    | exact pE_f9 _ _ _
    | (show 1 ≤ 9; decide)
    | (show 4 ≤ 9; decide)
    | (show 5 ≤ 9; decide)
theorem pLn_16 (i : Nat) : (pLn K V 16 i).1 ≠ 0 := by
  unfold pLn
  split
  · rw [if_pos (Nat.le_refl _)]
    show (5 : Nat) ≠ 0
    decide
  · show (1 : Nat) ≠ 0
    decide
theorem m_lines (hK : ∀ i, i ≤ N → (K i = 0 ↔ i = N)) (hK9 : ∀ i, i ≤ N → K i ≤ 209) (hV : ∀ i, 0 ≤ V i) (C : xMem → Option (Int32 × xMem)) (hh : h = 0 ∨ h = 1) : ∀ (k fk : Nat) (m : xMem) (i : Nat) (ls : List xLine), ls.length + k = 17 → k < fk → mAt0 K V Pl N m i → m.1 87 17 = Int32.ofNat (mAt ls ls.length) → cAt ls ls.length ≤ i → m.1 87 16 = Int32.ofNat h → txM m.1 h ls → 1 ≤ k → ∃ m', L_X10_text_34 C fk m = C m' ∧ gfr h m m' ∧ ((pTx K V k ls.length i).1 = 0 → m'.1 87 8 = 0 ∧ (ls ++ (pTx K V k ls.length i).2.2).length ≤ 16 ∧ txM m'.1 h (ls ++ (pTx K V k ls.length i).2.2) ∧ cAt (ls ++ (pTx K V k ls.length i).2.2) (ls ++ (pTx K V k ls.length i).2.2).length ≤ N) ∧ ((pTx K V k ls.length i).1 ≠ 0 → m'.1 87 8 = Int32.ofNat ((pTx K V k ls.length i).1 + 16 * Pl (pTx K V k ls.length i).2.1) ∧ ¬ m'.1 87 8 = 0)
  | 0, _, _, _, _, _, _, _, _, _, _, _, h1 => by omega
  | k + 1, fk + 1, m, i, ls, hl, hf, A, hc, hci, hn, T, h1 => by
    have hN := A.1.1
    have hi := A.2.2.2
    have f0 : m.1 am fGuideBookModel_fault = 0 := A.2.1
    have a0 : m.1 am fGuideBookModel_at = Int32.ofNat i := A.2.2.1
    have i3 : xin (Int32.ofNat i) 602 = true := o_in (by omega) (by omega)
    have n3 : (Int32.ofNat i).toNatClampNeg = i := o_nat (by omega)
    have hs := (m_sort2 A.1 hi).2.2
    have ep : pTx K V (k + 1) ls.length i = if K i = 0 then (0, i, []) else if (pLn K V ls.length i).1 = 0 then ((pTx K V k (ls.length + 1) (pLn K V ls.length i).2.1).1, (pTx K V k (ls.length + 1) (pLn K V ls.length i).2.1).2.1, ((pLn K V ls.length i).2.2.1, (pLn K V ls.length i).2.2.2) :: (pTx K V k (ls.length + 1) (pLn K V ls.length i).2.1).2.2) else ((pLn K V ls.length i).1, (pLn K V ls.length i).2.1, []) := rfl
    rw [ep, L_X10_text_34, if_pos f0, a0, if_pos i3, n3]
    by_cases w : K i = 0
    · rw [if_pos (show m.1 am_sort i = 0 from hs.mpr w), if_pos w]
      refine ⟨m, rfl, gfr.refl m, fun _ => ?_, fun u => absurd rfl u⟩
      rw [List.append_nil]
      exact ⟨A.2.1, by omega, T, by omega⟩
    · rw [if_neg (show ¬ m.1 am_sort i = 0 from fun u => w (hs.mp u)), if_neg w]
      obtain ⟨m1, r1, g1, r2, r3⟩ := m_line hK hK9 hV A hc hci hn hh T (by omega)
      rw [r1, Option.bind_some]
      dsimp only
      by_cases z : (pLn K V ls.length i).1 = 0
      · rw [if_pos z]
        obtain ⟨A1, c1, c2, T1⟩ := r2 z
        have hk1 : 1 ≤ k := by
          rcases Nat.eq_zero_or_pos k with u | u
          · have : ls.length = 16 := by omega
            rw [this] at z
            exact absurd z (pLn_16 i)
          · exact u
        obtain ⟨m2, y1, y2, y3, y4⟩ := m_lines hK hK9 hV C hh k fk m1 (pLn K V ls.length i).2.1 (ls ++ [(pLn K V ls.length i).2.2]) (by rw [List.length_append, List.length_singleton]; omega) (by omega) A1 c1 c2 ((g1.2 87 16 (by omega) (by omega) (by omega) (by omega) (by omega)).trans hn) T1 hk1
        rw [List.length_append, List.length_singleton] at y3 y4
        refine ⟨m2, y1, g1.trans y2, fun u => ?_, y4⟩
        have := y3 u
        rw [List.append_assoc] at this
        exact this
      · rw [if_neg z]
        obtain ⟨fk', rfl⟩ : ∃ f, fk = f + 1 := ⟨fk - 1, by omega⟩
        have hpl : Pl (pLn K V ls.length i).2.1 ≤ 600 := (A.1.2.2 _ (pLn_g hK hV ls.length i hi)).2.1
        have h8 : ¬ m1.1 87 8 = 0 := by rw [r3 z]; exact (ft_ne (by omega) (pLn_f9 _ _) hpl).1
        refine ⟨m1, ?_, g1, fun u => absurd u z, fun _ => ⟨r3 z, h8⟩⟩
        rw [L_X10_text_34, if_neg (show ¬ m1.1 am fGuideBookModel_fault = 0 from h8)]
end MO
