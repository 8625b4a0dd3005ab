section MM
variable {K : Nat → Nat} {V : Nat → Int32} {Pl : Nat → Nat} {N h : Nat}
theorem MTk.g {m m' : xMem} (f : gfr h m m') (T : MTk K V Pl N m) : MTk K V Pl N m' := by
  refine ⟨T.1, by rw [f.1]; exact T.2.1, fun i hi => ?_⟩
  rw [f.2 90 i (by omega) (by omega) (by omega) (by omega) (by omega), f.2 89 i (by omega) (by omega) (by omega) (by omega) (by omega), f.1]
  exact T.2.2 i hi
theorem m_sort2 {m : xMem} {i : Nat} (T : MTk K V Pl N m) (hi : i ≤ N) : (m.1 89 i = 2 ↔ K i = 2) ∧ (K i = 2 → m.2 91 i = (V i).toInt64) ∧ (m.1 89 i = 0 ↔ K i = 0) := by
  obtain ⟨-, -, t⟩ := T.2.2 i hi
  rcases t with ⟨k, s⟩ | ⟨k, s⟩ | ⟨k, s, v⟩ | ⟨k, s, -⟩ | ⟨k1, k2, s, -⟩
  · rw [s, k]; exact ⟨⟨fun u => absurd u (by decide), fun u => absurd u (by decide)⟩, fun u => absurd u (by decide), ⟨fun _ => rfl, fun _ => rfl⟩⟩
  · rw [k]
    have q : ¬ m.1 89 i = 2 ∧ ¬ m.1 89 i = 0 := by rcases s with s | ⟨s, -⟩ <;> rw [s] <;> decide
    exact ⟨⟨fun u => absurd u q.1, fun u => absurd u (by decide)⟩, fun u => absurd u (by decide), ⟨fun u => absurd u q.2, fun u => absurd u (by decide)⟩⟩
  · rw [s, k]; exact ⟨⟨fun _ => rfl, fun _ => rfl⟩, fun _ => v, ⟨fun u => absurd u (by decide), fun u => absurd u (by decide)⟩⟩
  · rw [s]
    have : ¬ K i = 2 ∧ ¬ K i = 0 := by unfold sgn at k; omega
    exact ⟨⟨fun u => absurd u (by decide), fun u => absurd u this.1⟩, fun u => absurd u this.1, ⟨fun u => absurd u (by decide), fun u => absurd u this.2⟩⟩
  · rw [s]
    have : ¬ K i = 2 ∧ ¬ K i = 0 := by omega
    exact ⟨⟨fun u => absurd u (by decide), fun u => absurd u this.1⟩, fun u => absurd u this.1, ⟨fun u => absurd u (by decide), fun u => absurd u this.2⟩⟩
theorem lc5 {v : Int32} : lg_cmp v.toInt64 5 ≤ 0 ↔ v ≤ 5 := by
  rw [lg_cmp_le, Int64.le_iff_toInt_le, Int32.le_iff_toInt_le, Int32.toInt_toInt64]
  rfl
theorem pP_f9 {E : Nat → Nat → xPR} (hE : ∀ d i, (E d i).1 ≤ 9) (d i : Nat) : (pP K V E d i).1 ≤ 9 := by
  unfold pP
  split
  · split
    · show 5 ≤ 9
      decide
    · split
      · split
        · split
          · exact Nat.zero_le _
          · show 1 ≤ 9
            decide
        · exact hE _ _
      · exact Nat.zero_le _
  · show 1 ≤ 9
    decide
theorem pL_f9 {Q : Nat → xPR} (hQ : ∀ i, (Q i).1 ≤ 9) (b : Nat) : ∀ n i, (pL K Q b n i).1 ≤ 9
  | 0, i => Nat.zero_le _
  | n + 1, i => by
    unfold pL
    split
    · split
      · exact pL_f9 hQ b n _
      · exact hQ _
    · exact Nat.zero_le _
theorem pQ_f9 {Q : Nat → xPR} (hQ : ∀ i, (Q i).1 ≤ 9) (b n i : Nat) : (pQ K Q b n i).1 ≤ 9 := by
  unfold pQ
  split
  · exact pL_f9 hQ b n _
  · exact hQ _
theorem pE_f9 : ∀ f d i, (pE K V f d i).1 ≤ 9
  | 0, d, i => by show 5 ≤ 9; decide
  | f + 1, d, i => by
    show (pB K V (pE K V f) d 0 i).1 ≤ 9
    unfold pB
    rw [if_pos rfl]
    exact pQ_f9 (pQ_f9 (pQ_f9 (pP_f9 (pE_f9 f) d) 2 600) 1 1) 0 600 i
/-- from the stars on -/
theorem m_l113 (hK : ∀ i, i ≤ N → (K i = 0 ↔ i = N)) (hK9 : ∀ i, i ≤ N → K i ≤ 209) (hV : ∀ i, 0 ≤ V i) {m : xMem} {i : Nat} {ls : List xLine} (A : mAt0 K V Pl N m (i + 1)) (hc : m.1 87 17 = Int32.ofNat (mAt ls ls.length)) (hci : cAt ls ls.length ≤ i) (hn : m.1 87 16 = Int32.ofNat h) (hh : h = 0 ∨ h = 1) (T : txM m.1 h ls) (hl : ls.length < 16) (w1 : K i = 201) (w2 : K (i + 1) = 2) (w5 : V (i + 1) ≤ 5) : ∃ m', J_X10_line_113 (Int32.ofNat (16 * h + ls.length)) m = some (0, m') ∧ gfr h m m' ∧ ((pLn K V ls.length i).1 = 0 → mAt0 K V Pl N m' (pLn K V ls.length i).2.1 ∧ m'.1 87 17 = Int32.ofNat (mAt (ls ++ [(pLn K V ls.length i).2.2]) (ls ++ [(pLn K V ls.length i).2.2]).length) ∧ cAt (ls ++ [(pLn K V ls.length i).2.2]) (ls ++ [(pLn K V ls.length i).2.2]).length ≤ (pLn K V ls.length i).2.1 ∧ txM m'.1 h (ls ++ [(pLn K V ls.length i).2.2])) ∧ ((pLn K V ls.length i).1 ≠ 0 → m'.1 87 8 = Int32.ofNat ((pLn K V ls.length i).1 + 16 * Pl (pLn K V ls.length i).2.1)) := by
  have hN := A.1.1
  have hi2 : i + 1 < N := at_lt hK A.2.2.2 (by omega)
  have hcl := (cAt_le (ls := ls) ls.length).2
  have i1 : xin (Int32.ofNat (16 * h + ls.length)) 32 = true := o_in (by omega) (by omega)
  have n1 : (Int32.ofNat (16 * h + ls.length)).toNatClampNeg = 16 * h + ls.length := o_nat (by omega)
  have i3 : xin (Int32.ofNat (i + 1)) 602 = true := o_in (by omega) (by omega)
  have n3 : (Int32.ofNat (i + 1)).toNatClampNeg = i + 1 := o_nat (by omega)
  have f0 : m.1 am fGuideBookModel_fault ≤ 0 := by rw [show m.1 am fGuideBookModel_fault = 0 from A.2.1]; decide
  have a0 : m.1 am fGuideBookModel_at = Int32.ofNat (i + 1) := A.2.2.1
  have v0 : m.2 am_value (i + 1) = (V (i + 1)).toInt64 := (m_sort2 A.1 A.2.2.2).2.1 w2
  obtain ⟨m1, hm1⟩ : ∃ m1 : xMem, m1 = (xst (xst m.1 94 (16 * h + ls.length) (V (i + 1))) 87 7 (Int32.ofNat (i + 2)), m.2) := ⟨_, rfl⟩
  have F1 : ∀ b j, ¬ (b = 94 ∧ j = 16 * h + ls.length) → ¬ (b = 87 ∧ j = 7) → m1.1 b j = m.1 b j := fun b j u1 u2 => by
    rw [hm1]
    show xst (xst m.1 94 (16 * h + ls.length) (V (i + 1))) 87 7 (Int32.ofNat (i + 2)) b j = _
    rw [xst_n u2, xst_n u1]
  have g1 : gfr h m m1 := ⟨by rw [hm1], fun b j u1 u2 u3 u4 u5 => F1 b j (by omega) (by omega)⟩
  have A1 : mAt0 K V Pl N m1 (i + 2) := ⟨A.1.g g1, (F1 87 8 (by omega) (by omega)).trans A.2.1, by rw [hm1]; dsimp only; exact xst_s, by omega⟩
  have hc1 : m1.1 87 17 = Int32.ofNat (mAt ls ls.length) := (F1 87 17 (by omega) (by omega)).trans hc
  have hn1 : m1.1 87 16 = Int32.ofNat h := (F1 87 16 (by omega) (by omega)).trans hn
  have v1 : m1.1 94 (16 * h + ls.length) = V (i + 1) := by
    rw [hm1]
    show xst (xst m.1 94 (16 * h + ls.length) (V (i + 1))) 87 7 (Int32.ofNat (i + 2)) 94 (16 * h + ls.length) = _
    rw [xst_n (by omega)]
    exact xst_s
  have e7 : xst m.1 am_lineN (16 * h + ls.length) (V (i + 1)) am fGuideBookModel_at + 1 = Int32.ofNat (i + 2) := by
    rw [show xst m.1 am_lineN (16 * h + ls.length) (V (i + 1)) am fGuideBookModel_at = Int32.ofNat (i + 1) from (xst_n (fun u => absurd u.1 (by decide))).trans a0, o_succ]
  unfold J_X10_line_113
  rw [if_pos f0, a0, if_pos i3, if_pos i1, n1, n3, v0, tb_v, e7]
  show ∃ m', ((F_X10_takeWord 1 (xst (xst m.1 94 (16 * h + ls.length) (V (i + 1))) 87 7 (Int32.ofNat (i + 2)), m.2)).bind fun q_8 => (
    if xin (Int32.ofNat (16 * h + ls.length)) 32 = true then (
    (F_X10_opens (xst (xst q_8.2.1 am_lineAt (16 * h + ls.length) (((660 : Int32) * (q_8.2.1 am fGuideBookModel_next)) + (q_8.2.1 am fGuideBookModel_codes))) am fGuideBookModel_deep (0 : Int32), q_8.2.2)).bind fun q_10 => (
    L_X10_line_185 cnL xfuel ((1 : Int32)) q_10.2))
    else none)) = _ ∧ _
  rw [← hm1]
  by_cases w3 : K (i + 2) = 202
  · have hi3 : i + 2 < N := at_lt hK A1.2.2.2 (by omega)
    have htw : F_X10_takeWord 1 m1 = some (0, (xst m1.1 87 7 (Int32.ofNat (i + 3)), m1.2)) := by
      have a1 : m1.1 am fGuideBookModel_at = Int32.ofNat (i + 2) := A1.2.2.1
      unfold F_X10_takeWord F_X10_hasWord
      rw [show F_X10_isWord 1 m1 = _ from m_isWord (w := 1) A1 (by omega), Option.bind_some]
      dsimp only
      rw [if_pos w3, if_neg (by decide), if_pos (by decide), Option.bind_some]
      dsimp only
      rw [if_neg (by decide), a1, o_succ]
    rw [htw, Option.bind_some]
    dsimp only
    rw [if_pos i1]
    have en : xst m1.1 87 7 (Int32.ofNat (i + 3)) am fGuideBookModel_next = Int32.ofNat h := (xst_n (by decide)).trans hn1
    have ec : xst m1.1 87 7 (Int32.ofNat (i + 3)) am fGuideBookModel_codes = Int32.ofNat (mAt ls ls.length) := (xst_n (by decide)).trans hc1
    rw [en, ec, o_660, o_add]
    obtain ⟨I, hI⟩ : ∃ I : xI, I = xst (xst (xst m1.1 87 7 (Int32.ofNat (i + 3))) am_lineAt (16 * h + ls.length) (Int32.ofNat (660 * h + mAt ls ls.length))) am fGuideBookModel_deep 0 := ⟨_, rfl⟩
    rw [← hI, m_opens (m := (I, m1.2)) (d := 0) (by show I 87 18 = _; rw [hI]; exact xst_s) (by omega), Option.bind_some]
    dsimp only
    obtain ⟨m2, hm2⟩ : ∃ m2 : xMem, m2 = (xst (xst (xst I 98 0 0) 99 0 0) 100 0 0, m1.2) := ⟨_, rfl⟩
    have F2 : ∀ b j, ¬ (98 ≤ b ∧ b ≤ 100) → ¬ (b = 87 ∧ (j = 7 ∨ j = 18)) → ¬ (b = 95 ∧ j = 16 * h + ls.length) → m2.1 b j = m1.1 b j := fun b j u1 u2 u3 => by
      rw [hm2, hI]
      show xst (xst (xst (xst (xst (xst m1.1 87 7 (Int32.ofNat (i + 3))) 95 (16 * h + ls.length) (Int32.ofNat (660 * h + mAt ls ls.length))) 87 18 0) 98 0 0) 99 0 0) 100 0 0 b j = _
      rw [xst_n (by omega), xst_n (by omega), xst_n (by omega), xst_n (by omega), xst_n (by omega), xst_n (by omega)]
    have g2 : gfr h m1 m2 := ⟨by rw [hm2], fun b j u1 u2 u3 u4 u5 => F2 b j (by omega) (by omega) (by omega)⟩
    have v2 : m2.1 95 (16 * h + ls.length) = Int32.ofNat (660 * h + mAt ls ls.length) := by
      rw [hm2, hI]
      show xst (xst (xst (xst (xst (xst m1.1 87 7 (Int32.ofNat (i + 3))) 95 (16 * h + ls.length) (Int32.ofNat (660 * h + mAt ls ls.length))) 87 18 0) 98 0 0) 99 0 0) 100 0 0 95 (16 * h + ls.length) = _
      rw [xst_n (by omega), xst_n (by omega), xst_n (by omega), xst_n (by omega)]
      exact xst_s
    have S2 : mS K V Pl N h m2 (i + 3) (mAt ls ls.length) 0 0 0 0 := by
      refine ⟨⟨A1.1.g g2, (F2 87 8 (by omega) (by omega) (by omega)).trans A1.2.1, ?_, by omega⟩, (F2 87 17 (by omega) (by omega) (by omega)).trans hc1, by omega, ?_, by omega, (F2 87 16 (by omega) (by omega) (by omega)).trans hn1, hh, ?_, ?_, ?_⟩ <;> rw [hm2] <;> dsimp only
      · rw [xst_n (by omega), xst_n (by omega), xst_n (by omega), hI]
        show xst (xst (xst m1.1 87 7 (Int32.ofNat (i + 3))) 95 (16 * h + ls.length) (Int32.ofNat (660 * h + mAt ls ls.length))) 87 18 0 87 7 = _
        rw [xst_n (by omega), xst_n (by omega)]; exact xst_s
      · rw [xst_n (by omega), xst_n (by omega), xst_n (by omega), hI]
        exact xst_s
      · rw [xst_n (by omega), xst_n (by omega)]; exact xst_s
      · rw [xst_n (by omega)]; exact xst_s
      · exact xst_s
    rw [← hm2]
    have sE := s_mE (Pl := Pl) (h := h) hK hK9 hV hN 10 0 (by omega) (by omega)
    have R := sE.1 cnL m2 xfuel (i + 3) (mAt ls ls.length) 0 0 0 ⟨rfl, rfl, rfl⟩ S2 (by rw [xfuel_eq]; omega)
    have gE := pE_g (N := N) hK hV 10 0 (i + 3) (by omega)
    have h203 := sE.2 (i + 3) (by omega)
    by_cases w4 : (pE K V 10 0 (i + 3)).1 = 0
    · obtain ⟨fk', fk2, m3, r1, r2, r3, S3, f3, c3⟩ := R.1 w4
      have hlen := (gE.2 w4).2.1
      rw [r1, b218_o S3 (h203 w4)]
      have hj := gE.1
      obtain ⟨m4, k1, k2, k3, k4, k5⟩ := cn_ok (h := h) S3.1 S3.2.1 (by have := S3.2.2.1; omega) S3.2.2.2.2.2.1 hh
      have gAll : gfr h m m4 := g1.trans (g2.trans (f3.g.trans ⟨k2, fun b j u1 u2 u3 u4 u5 => k3 b j (by omega) (by have := S3.2.2.1; omega) u5⟩))
      refine ⟨m4, k1, gAll, ?_⟩
      by_cases w6 : K (pE K V 10 0 (i + 3)).2.1 = 59
      · have eL : pLn K V ls.length i = (0, (pE K V 10 0 (i + 3)).2.1 + 1, (V (i + 1)).toNatClampNeg, (pE K V 10 0 (i + 3)).2.2) := by
          unfold pLn
          rw [if_pos w1, if_neg (show ¬ 16 ≤ ls.length by omega), if_pos w2, if_pos w5, if_pos w3, if_pos w4, if_pos w6]
        have hjN : (pE K V 10 0 (i + 3)).2.1 < N := at_lt hK hj (by omega)
        rw [eL]
        generalize pE K V 10 0 (i + 3) = r at *
        obtain ⟨z1, z2, z3, z4, z5⟩ := k4 w6
        obtain ⟨sn1, sn2⟩ := mAt_snoc ls ((V (i + 1)).toNatClampNeg, r.2.2)
        dsimp only
        refine ⟨fun _ => ⟨⟨A.1.g gAll, z1, z2, by omega⟩, ?_, ?_, ?_⟩, fun u => absurd rfl u⟩
        · rw [sn1, z3]
        · rw [sn2]
          show cAt ls ls.length + r.2.2.length ≤ r.2.1 + 1
          omega
        · obtain ⟨vs, hvs, hve⟩ := g_ixl (n := 5) ⟨hV (i + 1), w5⟩ (by decide)
          have nvs : (V (i + 1)).toNatClampNeg = vs := by rw [hve]; exact o_nat (by omega)
          have P : ∀ b j, ¬ (b = 87 ∧ (j = 7 ∨ j = 8 ∨ j = 17 ∨ j = 18)) → ¬ (98 ≤ b ∧ b ≤ 100) → ¬ ((b = 96 ∨ b = 97) ∧ 660 * h + mAt ls ls.length ≤ j) → ¬ (b = 93 ∧ j = h) → m4.1 b j = m2.1 b j := fun b j u1 u2 u3 u4 => (k3 b j (by omega) (by omega) u4).trans (f3.2 b j u1 (by omega) (by omega))
          refine txM_snoc T ?_ (fun b j u1 u2 => ?_) (fun b j u1 u2 => ?_) ?_ ?_ (fun j t ht => ?_) ?_
          · rw [z5, f3.2 93 h (by omega) (by omega) (by omega), F2 93 h (by omega) (by omega) (by omega), F1 93 h (by omega) (by omega), T.1, o_succ]
          · rw [P b j (by omega) (by omega) (by omega) (by omega), F2 b j (by omega) (by omega) (by omega), F1 b j (by omega) (by omega)]
          · rw [P b j (by omega) (by omega) (by omega) (by omega), F2 b j (by omega) (by omega) (by omega), F1 b j (by omega) (by omega)]
          · rw [P 94 _ (by omega) (by omega) (by omega) (by omega), F2 94 _ (by omega) (by omega) (by omega), v1, nvs]
            exact hve
          · rw [P 95 _ (by omega) (by omega) (by omega) (by omega), v2]
          · have hjl : j < r.2.2.length := (List.getElem?_eq_some_iff.mp ht).1
            have := c3 j t ht
            rw [k3 96 _ (by omega) (by omega) (by omega), k3 97 _ (by omega) (by omega) (by omega)]
            exact this
          · have := z4
            rw [← Nat.add_assoc] at this
            exact this
      · have eL : pLn K V ls.length i = (1, (pE K V 10 0 (i + 3)).2.1, 0, []) := by
          unfold pLn
          rw [if_pos w1, if_neg (show ¬ 16 ≤ ls.length by omega), if_pos w2, if_pos w5, if_pos w3, if_pos w4, if_neg w6]
        rw [eL]
        exact ⟨fun u => absurd (show (1 : Nat) = 0 from u) (by decide), fun _ => k5 w6⟩
    · obtain ⟨m3, r1, ⟨r2, c', r3, r4⟩, f3⟩ := R.2 w4
      have eL : pLn K V ls.length i = ((pE K V 10 0 (i + 3)).1, (pE K V 10 0 (i + 3)).2.1, 0, []) := by
        unfold pLn
        rw [if_pos w1, if_neg (show ¬ 16 ≤ ls.length by omega), if_pos w2, if_pos w5, if_pos w3, if_neg w4]
      have hft : ¬ m3.1 87 8 = 0 := by
        rw [r2]
        exact (ft_ne (by omega) (pE_f9 (K := K) (V := V) 10 0 (i + 3)) (A.1.2.2 _ gE.1).2.1).1
      obtain ⟨m4, k1, k2, k3⟩ := cn_bad (h := h) hft r3 r4 ((f3.2 87 16 (by omega) (by omega) (by omega)).trans S2.2.2.2.2.2.1) hh
      rw [r1, eL]
      exact ⟨m4, k1, g1.trans (g2.trans (f3.g.trans k2)), fun u => absurd u w4, fun _ => k3.trans r2⟩
  · have eL : pLn K V ls.length i = (1, i + 2, 0, []) := by
      unfold pLn
      rw [if_pos w1, if_neg (show ¬ 16 ≤ ls.length by omega), if_pos w2, if_pos w5, if_neg w3]
    have hself : ((xst m1.1 am fGuideBookModel_at (Int32.ofNat (i + 2) + 0), m1.2) : xMem) = m1 := by
      have : xst m1.1 am fGuideBookModel_at (Int32.ofNat (i + 2) + 0) = m1.1 := by
        funext b j
        by_cases u : b = am ∧ j = fGuideBookModel_at
        · rw [u.1, u.2, Int32.add_zero]; exact xst_s.trans A1.2.2.1.symm
        · exact xst_n u
      rw [this]
    have htw : F_X10_takeWord 1 m1 = some (0, (xst m1.1 87 8 (Int32.ofNat (1 + 16 * Pl (i + 2))), m1.2)) := by
      have a1 : m1.1 am fGuideBookModel_at = Int32.ofNat (i + 2) := A1.2.2.1
      unfold F_X10_takeWord F_X10_hasWord
      rw [show F_X10_isWord 1 m1 = _ from m_isWord (w := 1) A1 (by omega), Option.bind_some]
      dsimp only
      rw [if_neg (show ¬ K (i + 2) = 201 + 1 from w3), if_pos rfl, if_pos (by decide), Option.bind_some]
      dsimp only
      rw [if_pos rfl, a1, hself, show (1 : Int32) = Int32.ofNat 1 from rfl, m_wrong A1, Option.bind_some]
    obtain ⟨m2, hm2⟩ : ∃ m2 : xMem, m2 = (xst m1.1 87 8 (Int32.ofNat (1 + 16 * Pl (i + 2))), m1.2) := ⟨_, rfl⟩
    have e8 : m2.1 87 8 = Int32.ofNat (1 + 16 * Pl (i + 2)) := by rw [hm2]; dsimp only; exact xst_s
    have g2 : gfr h m1 m2 := ⟨by rw [hm2], fun b j u1 u2 u3 u4 u5 => by rw [hm2]; exact xst_n (by omega)⟩
    have hft : ¬ m2.1 87 8 = 0 := by
      rw [e8]
      exact (ft_ne (by omega) (by omega) (A1.1.2.2 (i + 2) (by omega)).2.1).1
    rw [← hm2] at htw
    obtain ⟨m3, k1, k2, k3⟩ := tl_bad (h := h) (x := 16 * h + ls.length) hft (c := mAt ls ls.length) (by rw [hm2]; dsimp only; rw [xst_n (by omega)]; exact hc1) (by omega) (by rw [hm2]; dsimp only; rw [xst_n (by omega)]; exact hn1) hh (by omega)
    rw [tw_bad hft, n1] at k1
    rw [htw, eL]
    exact ⟨m3, k1, g1.trans (g2.trans k2), fun u => absurd (show (1 : Nat) = 0 from u) (by decide), fun _ => k3.trans e8⟩
end MM
