section LK
variable {K : Nat → Nat} {V : Nat → Int32} {Pl : Nat → Nat} {N : Nat}
theorem c_lines (hK : ∀ i, i ≤ N → (K i = 0 ↔ i = N)) (hV : ∀ i, 0 ≤ V i) (hP : ∀ i, i ≤ N → Pl i ≤ 600) : ∀ (k fk : Nat) (m : xMem) (i : Nat) (ls : List xLine), ls.length + k = 17 → k < fk → pAt K V Pl N m i (cAt ls ls.length) → dC m ls → ls.length ≤ 16 ∨ K i = 0 → ∃ m', L_X5_parse_27 fk (Int32.ofNat ls.length) m = some (Int32.ofNat (if (pTx K V k ls.length i).1 = 0 then 0 else (pTx K V k ls.length i).1 + 16 * Pl (pTx K V k ls.length i).2.1), m') ∧ lfr m m' ∧ ((pTx K V k ls.length i).1 = 0 → dC m' (ls ++ (pTx K V k ls.length i).2.2) ∧ (ls ++ (pTx K V k ls.length i).2.2).length ≤ 17)
  | 0, fk + 1, m, i, ls, hl, _, h, D, hz => by
    have q : 16 < Int32.ofNat ls.length := (o_lt (a := 16) (by omega) (by omega)).mpr (by omega)
    refine ⟨m, ?_, lfr.refl m, fun _ => ?_⟩
    · unfold L_X5_parse_27
      rw [if_pos q]
      rfl
    · show dC m (ls ++ []) ∧ (ls ++ []).length ≤ 17
      rw [List.append_nil]
      exact ⟨D, by omega⟩
  | k + 1, fk + 1, m, i, ls, hl, hf, h, D, hz => by
    have q : ¬ 16 < Int32.ofNat ls.length := fun u => by have := (o_lt (a := 16) (by omega) (by omega)).mp u; omega
    have hk := (h.1.2.2 i h.2.2.1).2.2.2.1
    have e0 : (Int32.ofNat (K i) = 0) ↔ K i = 0 := o_eq (b := 0) (by omega) (by omega)
    have ep : pTx K V (k + 1) ls.length i = if K i = 0 then (0, i, []) else if (pLn K V ls.length i).1 = 0 then ((pTx K V k (ls.length + 1) (pLn K V ls.length i).2.1).1, (pTx K V k (ls.length + 1) (pLn K V ls.length i).2.1).2.1, ((pLn K V ls.length i).2.2.1, (pLn K V ls.length i).2.2.2) :: (pTx K V k (ls.length + 1) (pLn K V ls.length i).2.1).2.2) else ((pLn K V ls.length i).1, (pLn K V ls.length i).2.1, []) := rfl
    rw [ep]
    unfold L_X5_parse_27
    rw [if_neg q, c_token h, Option.bind_some]
    dsimp only
    by_cases w : K i = 0
    · rw [if_pos (e0.mpr w), if_pos w]
      refine ⟨m, rfl, lfr.refl m, fun _ => ?_⟩
      show dC m (ls ++ []) ∧ (ls ++ []).length ≤ 17
      rw [List.append_nil]
      exact ⟨D, by omega⟩
    · rw [if_neg (fun u => w (e0.mp u)), if_neg w]
      obtain ⟨m1, g1, g2, g3, g4⟩ := c_line hK hV h D (by omega)
      rw [g1, Option.bind_some]
      dsimp only
      by_cases z : (pLn K V ls.length i).1 = 0
      · obtain ⟨z1, z2, z3, z4, z5⟩ := g3 z
        rw [if_pos z, if_neg (by decide), if_pos z, o_succ]
        obtain ⟨m2, y1, y2, y3⟩ := c_lines hK hV hP k fk m1 (pLn K V ls.length i).2.1 (ls ++ [(pLn K V ls.length i).2.2]) (by rw [List.length_append, List.length_singleton]; omega) (by omega) z4 z5 (Or.inl (by rw [List.length_append, List.length_singleton]; omega))
        rw [List.length_append, List.length_singleton] at y1 y3
        refine ⟨m2, y1, g2.trans y2, fun u => ?_⟩
        have := y3 u
        rw [List.append_assoc] at this
        exact this
      · rw [if_neg z, if_pos rfl, if_neg z]
        have g5 : m1.1 ag_parser fParser_fault = _ := g4 z
        refine ⟨m1, ?_, g2, fun u => absurd u z⟩
        rw [g5, if_neg z]
/-- what the class makes of the tape -/
theorem c_text {c : Nat → Nat} {tp : Nat} {m : xMem} (T : tpS c tp m.1) (hK : ∀ i, i ≤ N → (K i = 0 ↔ i = N)) (hV : ∀ i, 0 ≤ V i) (hK9 : ∀ i, i ≤ N → K i ≤ 209) (hP : ∀ i, i ≤ N → Pl i ≤ 600) (hN : N = (tkl c tp tp 0).length) (hT : ∀ i, i ≤ N → (tkl c tp tp 0 ++ [(tp, 0, 0)])[i]? = some (Pl i, K i, V i)) : ∃ m', F_X5_parse m = some (Int32.ofNat (if (pTx K V 17 0 0).1 = 0 then 0 else (pTx K V 17 0 0).1 + 16 * Pl (pTx K V 17 0 0).2.1), m') ∧ m'.2 = m.2 ∧ (∀ b j, ¬ (31 ≤ b ∧ b ≤ 39) → m'.1 b j = m.1 b j) ∧ ((pTx K V 17 0 0).1 = 0 → dC m' (pTx K V 17 0 0).2.2 ∧ (pTx K V 17 0 0).2.2.length ≤ 17) := by
  have t2 := T.2.1
  obtain ⟨m1, s1, s2, s3⟩ := c_scan T
  have hlen := tkl_len (c := c) (tp := tp) tp 0 (by omega)
  obtain ⟨m2, hm2⟩ : ∃ m2 : xMem, m2 = (xst (xst (xst (xst m1.1 36 4 0) 36 5 0) 31 2 0) 31 3 0, m1.2) := ⟨_, rfl⟩
  have F2 : ∀ b j, ¬ (b = 36 ∧ (j = 4 ∨ j = 5)) → ¬ (b = 31 ∧ (j = 2 ∨ j = 3)) → m2.1 b j = m1.1 b j := fun b j u1 u2 => by
    rw [hm2]
    show xst (xst (xst (xst m1.1 36 4 0) 36 5 0) 31 2 0) 31 3 0 b j = _
    rw [xst_n (by omega), xst_n (by omega), xst_n (by omega), xst_n (by omega)]
  have P0 : pAt K V Pl N m2 0 (cAt ([] : List xLine) ([] : List xLine).length) := by
    refine ⟨⟨?_, by omega, fun i hi => ?_⟩, ?_, by omega, ?_, Nat.le_refl _⟩
    · rw [F2 32 3 (by omega) (by omega), s3.1, List.length_append, List.length_singleton, hN]
    · obtain ⟨a1, a2, a3⟩ := s3.2 i _ (hT i hi)
      rw [F2 33 i (by omega) (by omega), F2 34 i (by omega) (by omega), F2 35 i (by omega) (by omega)]
      exact ⟨a1, a2, a3, hK9 i hi, hP i hi⟩
    · rw [hm2]
      show xst (xst (xst (xst m1.1 36 4 0) 36 5 0) 31 2 0) 31 3 0 31 2 = _
      rw [xst_n (by omega)]; exact xst_s
    · rw [hm2]
      show xst (xst (xst (xst m1.1 36 4 0) 36 5 0) 31 2 0) 31 3 0 36 4 = _
      rw [xst_n (by omega), xst_n (by omega), xst_n (by omega)]; exact xst_s
  have D0 : dC m2 [] := by
    refine ⟨⟨?_, fun i l h => by cases h⟩, ?_⟩
    · rw [hm2]
      show xst (xst (xst (xst m1.1 36 4 0) 36 5 0) 31 2 0) 31 3 0 36 5 = _
      rw [xst_n (by omega), xst_n (by omega)]; exact xst_s
    · rw [hm2]
      show xst (xst (xst (xst m1.1 36 4 0) 36 5 0) 31 2 0) 31 3 0 36 4 = _
      rw [xst_n (by omega), xst_n (by omega), xst_n (by omega)]; exact xst_s
  obtain ⟨m3, r1, r2, r3⟩ := c_lines hK hV hP 17 xfuel m2 0 [] rfl (by decide) P0 D0 (Or.inl (by decide))
  refine ⟨m3, ?_, by rw [r2.1, hm2]; exact s2.1, fun b j u => ?_, fun u => r3 u⟩
  · unfold F_X5_parse F_X6_clear
    rw [s1, Option.bind_some, Option.bind_some]
    show L_X5_parse_27 xfuel 0 (xst (xst (xst (xst m1.1 36 4 0) 36 5 0) 31 2 0) 31 3 0, m1.2) = _
    rw [← hm2]
    exact r1
  · rw [r2.2 b j (by omega) (by omega) (by omega), F2 b j (by omega) (by omega), s2.2 b j (by omega)]
end LK
