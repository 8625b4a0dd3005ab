section CY
variable {K : Nat → Nat} {V : Nat → Int32} {Pl : Nat → Nat} {N : Nat}
theorem xcp_o {I : xI} {a b k x j : Nat} (h : ¬ x = b) : xcp I a b 0 0 k x j = I x j := by
  unfold xcp
  rw [if_neg h]
theorem xcp_i {I : xI} {a b k j : Nat} (h : j < k) : xcp I a b 0 0 k b j = I a j := by
  unfold xcp va_cpy
  rw [if_pos rfl, if_pos (by omega), Nat.zero_add, Nat.sub_zero]
theorem xcpo_k {k n : Nat} (h : k ≤ n) (hn : n ≤ 600) : xcpo 0 0 (Int32.ofNat k) n n = true := by
  have h1 : ¬ Int32.ofNat k < 0 := o_lt0 (by omega)
  have h2 : (Int32.ofNat k).toNatClampNeg = k := o_nat (by omega)
  have h3 : (0 : Int32).toNatClampNeg = 0 := rfl
  have h4 : ¬ (0 : Int32) < 0 := by decide
  unfold xcpo
  rw [h2, h3]
  simp only [h1, h4, decide_false, Bool.not_false, Bool.and_true, Bool.true_and, Nat.zero_add, h, decide_true]
theorem c_copy {m : xMem} {ls : List xLine} (D : dC m ls) (hl : ls.length ≤ 16) (hc : cAt ls ls.length ≤ 600) : ∃ m', F_X6_copy m = some (0, m') ∧ m'.2 = m.2 ∧ (∀ b j, ¬ (41 ≤ b ∧ b ≤ 44) → m'.1 b j = m.1 b j) ∧ txC m'.1 41 42 43 44 ls := by
  obtain ⟨I, hI⟩ : ∃ I : xI, I = xst (xst m.1 41 4 (Int32.ofNat (cAt ls ls.length))) 41 5 (Int32.ofNat ls.length) := ⟨_, rfl⟩
  have FI : ∀ b j, ¬ b = 41 → I b j = m.1 b j := fun b j u => by rw [hI, xst_n (by omega), xst_n (by omega)]
  have I4 : I 41 4 = Int32.ofNat (cAt ls ls.length) := by rw [hI, xst_n (by omega)]; exact xst_s
  have I5 : I 41 5 = Int32.ofNat ls.length := by rw [hI]; exact xst_s
  have n1 : (Int32.ofNat (cAt ls ls.length)).toNatClampNeg = cAt ls ls.length := o_nat (by omega)
  have n2 : (Int32.ofNat ls.length).toNatClampNeg = ls.length := o_nat (by omega)
  have z0 : (0 : Int32).toNatClampNeg = 0 := rfl
  have d4 : m.1 ag_parser_draft fScript_size = Int32.ofNat (cAt ls ls.length) := D.2
  have d5 : xst m.1 ag_script fScript_size (Int32.ofNat (cAt ls ls.length)) ag_parser_draft fScript_lines = Int32.ofNat ls.length := (xst_n (fun u => absurd u.1 (by decide))).trans D.1.1
  have hI' : xst (xst m.1 ag_script fScript_size (Int32.ofNat (cAt ls ls.length))) ag_script fScript_lines (Int32.ofNat ls.length) = I := by rw [hI]
  have e1 : I ag_script fScript_size = Int32.ofNat (cAt ls ls.length) := I4
  have e2 : ∀ k, xcp I ag_parser_draft_code ag_script_code 0 0 k ag_script fScript_lines = Int32.ofNat ls.length := fun k => (xcp_o (by decide)).trans I5
  have e3 : ∀ k k', xcp (xcp I ag_parser_draft_code ag_script_code 0 0 k) ag_parser_draft_endOf ag_script_endOf 0 0 k' ag_script fScript_lines = Int32.ofNat ls.length := fun k k' => (xcp_o (by decide)).trans (e2 k)
  obtain ⟨J, hJ⟩ : ∃ J : xI, J = xcp (xcp (xcp I 37 42 0 0 (cAt ls ls.length)) 38 43 0 0 ls.length) 39 44 0 0 ls.length := ⟨_, rfl⟩
  have J0 : ∀ b j, ¬ (42 ≤ b ∧ b ≤ 44) → J b j = I b j := fun b j u => by rw [hJ, xcp_o (by omega), xcp_o (by omega), xcp_o (by omega)]
  have J2 : ∀ j, j < cAt ls ls.length → J 42 j = m.1 37 j := fun j hj => by rw [hJ, xcp_o (by omega), xcp_o (by omega), xcp_i hj]; exact FI 37 j (by omega)
  have J3 : ∀ j, j < ls.length → J 43 j = m.1 38 j := fun j hj => by rw [hJ, xcp_o (by omega), xcp_i hj, xcp_o (by omega)]; exact FI 38 j (by omega)
  have J4 : ∀ j, j < ls.length → J 44 j = m.1 39 j := fun j hj => by rw [hJ, xcp_i hj, xcp_o (by omega), xcp_o (by omega)]; exact FI 39 j (by omega)
  refine ⟨(J, m.2), ?_, rfl, fun b j u => (J0 b j (by omega)).trans (FI b j (by omega)), (J0 41 5 (by omega)).trans I5, fun i l hl' => ?_⟩
  · unfold F_X6_copy
    simp only [d4, d5, hI', e1, n1, z0, e2, n2, e3, xcpo_k hc (Nat.le_refl 600), xcpo_k hl (show 16 ≤ 600 by decide), ↓reduceIte]
    rw [hJ]
  · obtain ⟨a1, a2, a3⟩ := D.1.2 i l hl'
    have hi : i < ls.length := (List.getElem?_eq_some_iff.mp hl').1
    have hs := (cAt_s hl').1
    have hm := cAt_mono (ls := ls) (show i + 1 ≤ ls.length by omega)
    refine ⟨(J3 i hi).trans a1, (J4 i hi).trans a2, fun j t ht => ?_⟩
    have hj : j < l.2.length := (List.getElem?_eq_some_iff.mp ht).1
    exact (J2 _ (by omega)).trans (a3 j t ht)
theorem c_tx {c : Nat → Nat} {tp : Nat} {m : xMem} (T : tpS c tp m.1) (hK : ∀ i, i ≤ N → (K i = 0 ↔ i = N)) (hV : ∀ i, 0 ≤ V i) (hK9 : ∀ i, i ≤ N → K i ≤ 209) (hP : ∀ i, i ≤ N → Pl i ≤ 600) (hN : N = (tkl c tp tp 0).length) (hT : ∀ i, i ≤ N → (tkl c tp tp 0 ++ [(tp, 0, 0)])[i]? = some (Pl i, K i, V i)) (hg : (pTx K V 17 0 0).1 = 0 → (pTx K V 17 0 0).2.2.length ≤ 16 ∧ cAt (pTx K V 17 0 0).2.2 (pTx K V 17 0 0).2.2.length ≤ 600) (hq : (pTx K V 17 0 0).1 ≠ 0 → ¬ Int32.ofNat ((pTx K V 17 0 0).1 + 16 * Pl (pTx K V 17 0 0).2.1) = 0) : ∃ m', F_X9_text m = some (Int32.ofNat (if (pTx K V 17 0 0).1 = 0 then 0 else (pTx K V 17 0 0).1 + 16 * Pl (pTx K V 17 0 0).2.1), m') ∧ m'.2 = m.2 ∧ m'.1 29 1 = 0 ∧ (∀ b j, ¬ (31 ≤ b ∧ b ≤ 39) → ¬ (b = 29 ∧ j = 1) → ¬ (41 ≤ b ∧ b ≤ 44) → m'.1 b j = m.1 b j) ∧ ((pTx K V 17 0 0).1 = 0 → txC m'.1 41 42 43 44 (pTx K V 17 0 0).2.2) ∧ ((pTx K V 17 0 0).1 ≠ 0 → ∀ b j, 41 ≤ b → b ≤ 44 → m'.1 b j = m.1 b j) := by
  obtain ⟨m1, r1, r2, r3, r4⟩ := c_text T hK hV hK9 hP hN hT
  unfold F_X9_text
  rw [r1, Option.bind_some]
  dsimp only
  generalize hr : pTx K V 17 0 0 = r at *
  have e29 : xst m1.1 29 1 0 29 1 = 0 := xst_s
  by_cases z : r.1 = 0
  · obtain ⟨g1, g2⟩ := hg z
    obtain ⟨D, -⟩ := r4 z
    have F : ∀ b j, ¬ (b = 29 ∧ j = 1) → xst m1.1 29 1 0 b j = m1.1 b j := fun b j u => xst_n u
    have D' : dC (xst m1.1 29 1 0, m1.2) r.2.2 := by
      refine ⟨⟨(F 36 5 (by omega)).trans D.1.1, fun i l hl => ?_⟩, (F 36 4 (by omega)).trans D.2⟩
      obtain ⟨a1, a2, a3⟩ := D.1.2 i l hl
      exact ⟨(F 38 i (by omega)).trans a1, (F 39 i (by omega)).trans a2, fun j t ht => (F 37 _ (by omega)).trans (a3 j t ht)⟩
    obtain ⟨m2, k1, k2, k3, k4⟩ := c_copy D' g1 g2
    rw [if_pos z, if_pos (show Int32.ofNat 0 = 0 from rfl), show F_X6_copy (xst m1.1 ag_tape fTape_length 0, m1.2) = _ from k1, Option.bind_some]
    refine ⟨m2, rfl, k2.trans r2, (k3 29 1 (by omega)).trans e29, fun b j u1 u2 u3 => ?_, fun _ => k4, fun u => absurd z u⟩
    rw [k3 b j u3]
    exact (F b j u2).trans (r3 b j u1)
  · rw [if_neg z, if_neg (hq z)]
    refine ⟨(xst m1.1 29 1 0, m1.2), rfl, r2, e29, fun b j u1 u2 u3 => (xst_n u2).trans (r3 b j u1), fun u => absurd u z, fun _ b j u1 u2 => (xst_n (by omega)).trans (r3 b j (by omega))⟩
end CY
