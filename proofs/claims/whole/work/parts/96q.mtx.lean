section MQ
variable {K : Nat → Nat} {V : Nat → Int32} {Pl : Nat → Nat} {N h h0 : Nat}
theorem mTk1_MTk {m : xMem} {i : Nat} {t : xTk} (h : mTk1 m i t) (ht : t.1 ≤ 600) (hw : m.2 92 = xm0.2 92) : m.1 90 i = Int32.ofNat t.1 ∧ t.1 ≤ 600 ∧ ((t.2.1 = 0 ∧ m.1 89 i = 0) ∨ (t.2.1 = 1 ∧ (m.1 89 i = 4 ∨ (m.1 89 i = 1 ∧ ∀ w, w < 9 → m.2 91 i ≠ m.2 92 w))) ∨ (t.2.1 = 2 ∧ m.1 89 i = 2 ∧ m.2 91 i = (t.2.2).toInt64) ∨ (sgn (t.2.1) ∧ m.1 89 i = 3 ∧ m.2 91 i = (Int32.ofNat (t.2.1)).toInt64) ∨ (201 ≤ t.2.1 ∧ t.2.1 ≤ 209 ∧ m.1 89 i = 1 ∧ m.2 91 i = m.2 92 (t.2.1 - 201))) := by
  rw [hw]
  exact ⟨h.1, ht, Or.inr h.2⟩
/-- the cells that the reference's `text` may change; h: the half it writes -/
def xfr (h : Nat) (m m' : xMem) : Prop := (∀ b, b ≠ 91 → m'.2 b = m.2 b) ∧ ∀ b j, ¬ (b = 87 ∧ (j = 0 ∨ j = 2 ∨ j = 3 ∨ j = 7 ∨ j = 8 ∨ j = 15 ∨ j = 16 ∨ j = 17 ∨ j = 18)) → ¬ (b = 89 ∨ b = 90) → ¬ (98 ≤ b ∧ b ≤ 100) → ¬ ((b = 96 ∨ b = 97) ∧ 660 * h ≤ j ∧ j < 660 * h + 660) → ¬ ((b = 94 ∨ b = 95) ∧ 16 * h ≤ j ∧ j < 16 * h + 16) → ¬ (b = 93 ∧ j = h) → m'.1 b j = m.1 b j
/-- what the reference makes of the tape -/
theorem m_text {c : Nat → Nat} {tp : Nat} {m : xMem} (T0 : m.1 87 2 = Int32.ofNat tp) (T1 : tp ≤ 600) (T2 : ∀ k, k < tp → m.1 88 k = Int32.ofNat (c k) ∧ c k ≤ 126) (hh0 : h0 = 0 ∨ h0 = 1) (hh : h = 1 - h0) (hho : m.1 87 15 = Int32.ofNat h0) (hw : m.2 92 = xm0.2 92) (hK : ∀ i, i ≤ N → (K i = 0 ↔ i = N)) (hV : ∀ i, 0 ≤ V i) (hK9 : ∀ i, i ≤ N → K i ≤ 209) (hP : ∀ i, i ≤ N → Pl i ≤ 600) (hN : N = (tkl c tp tp 0).length) (hT : ∀ i, i ≤ N → (tkl c tp tp 0 ++ [(tp, 0, 0)])[i]? = some (Pl i, K i, V i)) : ∃ m', F_X10_text m = some (Int32.ofNat (if (pTx K V 17 0 0).1 = 0 then 0 else (pTx K V 17 0 0).1 + 16 * Pl (pTx K V 17 0 0).2.1), m') ∧ xfr h m m' ∧ m'.1 87 2 = 0 ∧ ((pTx K V 17 0 0).1 = 0 → m'.1 87 15 = Int32.ofNat h ∧ (pTx K V 17 0 0).2.2.length ≤ 16 ∧ txM m'.1 h (pTx K V 17 0 0).2.2 ∧ cAt (pTx K V 17 0 0).2.2 (pTx K V 17 0 0).2.2.length ≤ N) ∧ ((pTx K V 17 0 0).1 ≠ 0 → m'.1 87 15 = Int32.ofNat h0) := by
  have hlen := tkl_len (c := c) (tp := tp) tp 0 (by omega)
  obtain ⟨m1, hm1⟩ : ∃ m1 : xMem, m1 = (xst (xst (xst m.1 87 0 0) 87 3 (Int32.ofNat tp)) 87 2 0, m.2) := ⟨_, rfl⟩
  have F1 : ∀ b j, ¬ (b = 87 ∧ (j = 0 ∨ j = 2 ∨ j = 3)) → m1.1 b j = m.1 b j := fun b j u => by
    rw [hm1]
    show xst (xst (xst m.1 87 0 0) 87 3 (Int32.ofNat tp)) 87 2 0 b j = _
    rw [xst_n (by omega), xst_n (by omega), xst_n (by omega)]
  have TM : tpM c tp m1.1 := by
    refine ⟨?_, T1, fun k hk => ?_⟩
    · rw [hm1]
      show xst (xst (xst m.1 87 0 0) 87 3 (Int32.ofNat tp)) 87 2 0 87 3 = _
      rw [xst_n (by omega)]
      exact xst_s
    · rw [F1 88 k (by omega)]
      exact T2 k hk
  have e2 : m1.1 87 2 = 0 := by rw [hm1]; dsimp only; exact xst_s
  obtain ⟨m2, r1, ⟨r2, r3, r4⟩, r5⟩ := m_cut (C := fun x1_62 m_63 => (
    if xin x1_62 602 = true then (
    if xin x1_62 602 = true then (
    some ((0 : Int32), ((xst (xst (xst (xst m_63.1 am_sort x1_62.toNatClampNeg (0 : Int32)) am_place x1_62.toNatClampNeg ((xst m_63.1 am_sort x1_62.toNatClampNeg (0 : Int32)) am fGuideBookModel_size)) am fGuideBookModel_at (0 : Int32)) am fGuideBookModel_fault (0 : Int32), m_63.2) : xMem)))
    else none)
    else none)) tp 0 0 xfuel m1 (by omega) (by omega) (by rw [xfuel_eq]; omega) (Nat.le_refl _) TM
  rw [Nat.zero_add, ← hN] at r1
  have iN : xin (Int32.ofNat N) 602 = true := o_in (by omega) (by omega)
  have nN : (Int32.ofNat N).toNatClampNeg = N := o_nat (by omega)
  have F2 : ∀ b i, ¬ (b = 89 ∨ b = 90) → m2.1 b i = m1.1 b i := fun b i u => r2 b i (by omega)
  have sz : xst m2.1 am_sort N 0 am fGuideBookModel_size = Int32.ofNat tp := (xst_n (fun u => absurd u.1 (by decide))).trans ((F2 87 3 (by omega)).trans TM.1)
  have i2 : xin (Int32.ofNat h) 2 = true := o_in (by omega) (by omega)
  have n2 : (Int32.ofNat h).toNatClampNeg = h := o_nat (by omega)
  have s1 : (1 : Int32) - Int32.ofNat h0 = Int32.ofNat h := by rw [hh]; exact o_sub (a := 1) (by omega)
  obtain ⟨m3, hm3⟩ : ∃ m3 : xMem, m3 = (xst (xst (xst (xst (xst (xst (xst m2.1 89 N 0) 90 N (Int32.ofNat tp)) 87 7 0) 87 8 0) 87 16 (Int32.ofNat h)) 93 h 0) 87 17 0, m2.2) := ⟨_, rfl⟩
  have F3 : ∀ b j, ¬ ((b = 89 ∨ b = 90) ∧ j = N) → ¬ (b = 87 ∧ (j = 7 ∨ j = 8 ∨ j = 16 ∨ j = 17)) → ¬ (b = 93 ∧ j = h) → m3.1 b j = m2.1 b j := fun b j u1 u2 u3 => by
    rw [hm3]
    show xst (xst (xst (xst (xst (xst (xst m2.1 89 N 0) 90 N (Int32.ofNat tp)) 87 7 0) 87 8 0) 87 16 (Int32.ofNat h)) 93 h 0) 87 17 0 b j = _
    rw [xst_n (by omega), xst_n (by omega), xst_n (by omega), xst_n (by omega), xst_n (by omega), xst_n (by omega), xst_n (by omega)]
  have ho2 : xst (xst (xst (xst m2.1 89 N 0) 90 N (Int32.ofNat tp)) 87 7 0) 87 8 0 am fGuideBookModel_holds = Int32.ofNat h0 := by
    show xst (xst (xst (xst m2.1 89 N 0) 90 N (Int32.ofNat tp)) 87 7 0) 87 8 0 87 15 = _
    rw [xst_n (by omega), xst_n (by omega), xst_n (by omega), xst_n (by omega), F2 87 15 (by omega), F1 87 15 (by omega)]
    exact hho
  have w2 : m2.2 92 = xm0.2 92 := by rw [r3 92 (by decide), hm1]; exact hw
  have w3 : m3.2 92 = xm0.2 92 := by rw [hm3]; exact w2
  have ex : F_X10_text m = L_X10_text_34 (fun m_5 => (
    if (m_5.1 am fGuideBookModel_fault) = 0 then (
      some ((xst m_5.1 am fGuideBookModel_holds (m_5.1 am fGuideBookModel_next)) am fGuideBookModel_fault, (xst m_5.1 am fGuideBookModel_holds (m_5.1 am fGuideBookModel_next), m_5.2)))
    else (
      some (m_5.1 am fGuideBookModel_fault, m_5)))) xfuel m3 := by
    unfold F_X10_text F_X10_cutAll
    have hx : xst m.1 am fGuideBookModel_thrown 0 am fGuideBookModel_taped = Int32.ofNat tp := (xst_n (by decide)).trans T0
    dsimp only
    rw [hx]
    show (L_X10_cutAll_17 _ xfuel (Int32.ofNat 0) (Int32.ofNat 0) (xst (xst (xst m.1 87 0 0) 87 3 (Int32.ofNat tp)) 87 2 0, m.2)).bind _ = _
    rw [← hm1, r1]
    rw [if_pos iN, if_pos iN, nN, sz, Option.bind_some]
    dsimp only
    have hA : xst (xst (xst (xst m2.1 am_sort N 0) am_place N (Int32.ofNat tp)) am fGuideBookModel_at 0) am fGuideBookModel_fault 0 am fGuideBookModel_holds = Int32.ofNat h0 := ho2
    have hB : xst (xst (xst (xst (xst m2.1 am_sort N 0) am_place N (Int32.ofNat tp)) am fGuideBookModel_at 0) am fGuideBookModel_fault 0) am fGuideBookModel_next (Int32.ofNat h) am fGuideBookModel_next = Int32.ofNat h := xst_s
    simp only [hA, s1, hB, i2, n2, ↓reduceIte]
    rw [hm3]
  have MT : MTk K V Pl N m3 := by
    refine ⟨by omega, w3, fun i hi => ?_⟩
    have ht := hT i hi
    rcases Nat.lt_or_ge i N with u | u
    · rw [List.getElem?_append_left (by omega)] at ht
      have := mTk1_MTk (r5 i _ ht) (hP i hi) w2
      rw [Nat.zero_add] at this
      rw [F3 90 i (by omega) (by omega) (by omega), F3 89 i (by omega) (by omega) (by omega), hm3]
      exact this
    · have hiN : i = N := by omega
      rw [hiN, List.getElem?_append_right (by omega), hN, Nat.sub_self, ← hN] at ht
      have ht2 : (tp, 0, (0 : Int32)) = (Pl N, K N, V N) := by simpa using ht
      have h1 : Pl N = tp := (congrArg Prod.fst ht2).symm
      have h2 : K N = 0 := (congrArg (fun q => q.2.1) ht2).symm
      rw [hiN, h1, h2]
      refine ⟨?_, T1, Or.inl ⟨rfl, ?_⟩⟩
      · rw [hm3]
        show xst (xst (xst (xst (xst (xst (xst m2.1 89 N 0) 90 N (Int32.ofNat tp)) 87 7 0) 87 8 0) 87 16 (Int32.ofNat h)) 93 h 0) 87 17 0 90 N = _
        rw [xst_n (by omega), xst_n (by omega), xst_n (by omega), xst_n (by omega), xst_n (by omega)]
        exact xst_s
      · rw [hm3]
        show xst (xst (xst (xst (xst (xst (xst m2.1 89 N 0) 90 N (Int32.ofNat tp)) 87 7 0) 87 8 0) 87 16 (Int32.ofNat h)) 93 h 0) 87 17 0 89 N = _
        rw [xst_n (by omega), xst_n (by omega), xst_n (by omega), xst_n (by omega), xst_n (by omega), xst_n (by omega)]
        exact xst_s
  have A3 : mAt0 K V Pl N m3 0 := by
    refine ⟨MT, ?_, ?_, by omega⟩ <;> rw [hm3] <;> dsimp only
    · rw [xst_n (by omega), xst_n (by omega), xst_n (by omega)]; exact xst_s
    · rw [xst_n (by omega), xst_n (by omega), xst_n (by omega), xst_n (by omega)]; exact xst_s
  have c3 : m3.1 87 17 = Int32.ofNat (mAt ([] : List xLine) ([] : List xLine).length) := by rw [hm3]; dsimp only; exact xst_s
  have n3 : m3.1 87 16 = Int32.ofNat h := by rw [hm3]; dsimp only; rw [xst_n (by omega), xst_n (by omega)]; exact xst_s
  have t3 : txM m3.1 h [] := ⟨by rw [hm3]; dsimp only; rw [xst_n (by omega)]; exact xst_s, fun i l hl => by cases hl⟩
  obtain ⟨m4, y1, y2, y3, y4⟩ := m_lines (Pl := Pl) (h := h) hK hK9 hV (fun m_5 => (
    if (m_5.1 am fGuideBookModel_fault) = 0 then (
      some ((xst m_5.1 am fGuideBookModel_holds (m_5.1 am fGuideBookModel_next)) am fGuideBookModel_fault, (xst m_5.1 am fGuideBookModel_holds (m_5.1 am fGuideBookModel_next), m_5.2)))
    else (
      some (m_5.1 am fGuideBookModel_fault, m_5)))) (by omega) 17 xfuel m3 0 [] rfl (by decide) A3 c3 (Nat.le_refl _) n3 t3 (by omega)
  have y3' : (pTx K V 17 0 0).1 = 0 → m4.1 87 8 = 0 ∧ (pTx K V 17 0 0).2.2.length ≤ 16 ∧ txM m4.1 h (pTx K V 17 0 0).2.2 ∧ cAt (pTx K V 17 0 0).2.2 (pTx K V 17 0 0).2.2.length ≤ N := y3
  have y4' : (pTx K V 17 0 0).1 ≠ 0 → m4.1 87 8 = Int32.ofNat ((pTx K V 17 0 0).1 + 16 * Pl (pTx K V 17 0 0).2.1) ∧ ¬ m4.1 87 8 = 0 := y4
  have fr4 : xfr h m m4 := by
    refine ⟨fun b hb => ?_, fun b j u1 u2 u3 u4 u5 u6 => ?_⟩
    · rw [y2.1, hm3]
      exact (r3 b hb).trans (by rw [hm1])
    · rw [y2.2 b j (by omega) u3 u4 u5 u6, F3 b j (by omega) (by omega) u6, F2 b j u2, F1 b j (by omega)]
  have e42 : m4.1 87 2 = 0 := by
    rw [y2.2 87 2 (by omega) (by omega) (by omega) (by omega) (by omega), F3 87 2 (by omega) (by omega) (by omega), F2 87 2 (by omega)]
    exact e2
  have n4 : m4.1 87 16 = Int32.ofNat h := (y2.2 87 16 (by omega) (by omega) (by omega) (by omega) (by omega)).trans n3
  have o4 : m4.1 87 15 = Int32.ofNat h0 := by
    rw [y2.2 87 15 (by omega) (by omega) (by omega) (by omega) (by omega), F3 87 15 (by omega) (by omega) (by omega), F2 87 15 (by omega), F1 87 15 (by omega)]
    exact hho
  rw [ex, y1]
  by_cases z : (pTx K V 17 0 0).1 = 0
  · obtain ⟨z1, z2, z3, z4⟩ := y3' z
    have G : ∀ b j, ¬ (b = 87 ∧ j = 15) → xst m4.1 87 15 (m4.1 87 16) b j = m4.1 b j := fun b j u => xst_n u
    refine ⟨(xst m4.1 87 15 (m4.1 87 16), m4.2), ?_, ⟨fr4.1, fun b j u1 u2 u3 u4 u5 u6 => ?_⟩, ?_, fun _ => ⟨?_, z2, ?_, z4⟩, fun u => absurd z u⟩
    · rw [if_pos (show m4.1 am fGuideBookModel_fault = 0 from z1), if_pos z]
      show some (xst m4.1 87 15 (m4.1 87 16) 87 8, _) = _
      rw [G 87 8 (by omega), z1]
      rfl
    · show xst m4.1 87 15 (m4.1 87 16) b j = _
      rw [G b j (by omega)]
      exact fr4.2 b j u1 u2 u3 u4 u5 u6
    · show xst m4.1 87 15 (m4.1 87 16) 87 2 = _
      rw [G 87 2 (by omega)]
      exact e42
    · show xst m4.1 87 15 (m4.1 87 16) 87 15 = _
      rw [n4]
      exact xst_s
    · show txM (xst m4.1 87 15 (m4.1 87 16)) h _
      refine ⟨(G 93 h (by omega)).trans z3.1, fun j l hl => ?_⟩
      obtain ⟨b1, b2, b3, b4⟩ := z3.2 j l hl
      refine ⟨(G 94 _ (by omega)).trans b1, (G 95 _ (by omega)).trans b2, fun y t ht => ?_, (G 96 _ (by omega)).trans b4⟩
      rw [G 96 _ (by omega), G 97 _ (by omega)]
      exact b3 y t ht
  · obtain ⟨z1, z2⟩ := y4' z
    refine ⟨m4, ?_, fr4, e42, fun u => absurd u z, fun _ => o4⟩
    rw [if_neg (show ¬ m4.1 am fGuideBookModel_fault = 0 from z2), if_neg z, ← z1]
end MQ
