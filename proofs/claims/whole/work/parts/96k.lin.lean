/-! lines -/
/-- fault, place, stars, code -/
abbrev xLR := Nat × Nat × Nat × List xTok
section LI
variable (K : Nat → Nat) (V : Nat → Int32)
def pLn (n i : Nat) : xLR :=
  if K i = 201 then
    (if 16 ≤ n then (5, i, 0, [])
    else if K (i + 1) = 2 then
      (if V (i + 1) ≤ 5 then
        (if K (i + 2) = 202 then
          (if (pE K V 10 0 (i + 3)).1 = 0 then
            (if K (pE K V 10 0 (i + 3)).2.1 = 59 then (0, (pE K V 10 0 (i + 3)).2.1 + 1, (V (i + 1)).toNatClampNeg, (pE K V 10 0 (i + 3)).2.2) else (1, (pE K V 10 0 (i + 3)).2.1, 0, []))
          else ((pE K V 10 0 (i + 3)).1, (pE K V 10 0 (i + 3)).2.1, 0, []))
        else (1, i + 2, 0, []))
      else (4, i + 1, 0, []))
    else (1, i + 1, 0, []))
  else (1, i, 0, [])
def pTx : Nat → Nat → Nat → Nat × Nat × List xLine
  | 0, _, i => (0, i, [])
  | k + 1, n, i => if K i = 0 then (0, i, []) else if (pLn K V n i).1 = 0 then ((pTx k (n + 1) (pLn K V n i).2.1).1, (pTx k (n + 1) (pLn K V n i).2.1).2.1, ((pLn K V n i).2.2.1, (pLn K V n i).2.2.2) :: (pTx k (n + 1) (pLn K V n i).2.1).2.2) else ((pLn K V n i).1, (pLn K V n i).2.1, [])
end LI
section LJ
variable {K : Nat → Nat} {V : Nat → Int32} {Pl : Nat → Nat} {N : Nat}
theorem cAt_ap : ∀ (ls : List xLine) (l : xLine) (i : Nat), i ≤ ls.length → cAt (ls ++ [l]) i = cAt ls i ∧ mAt (ls ++ [l]) i = mAt ls i
  | [], l, 0, _ => ⟨rfl, rfl⟩
  | [], l, i + 1, h => by simp at h
  | x :: xs, l, 0, _ => ⟨rfl, rfl⟩
  | x :: xs, l, i + 1, h => by
    have := cAt_ap xs l i (by simpa using h)
    show x.2.length + cAt (xs ++ [l]) i = x.2.length + cAt xs i ∧ x.2.length + 1 + mAt (xs ++ [l]) i = x.2.length + 1 + mAt xs i
    rw [this.1, this.2]
    exact ⟨rfl, rfl⟩
/-- the draft holds these lines -/
def dC (m : xMem) (ls : List xLine) : Prop := txC m.1 36 37 38 39 ls ∧ m.1 36 4 = Int32.ofNat (cAt ls ls.length)
/-- only the parser and the draft have changed -/
def lfr (m m' : xMem) : Prop := m'.2 = m.2 ∧ ∀ b j, ¬ (b = 31 ∧ (j = 2 ∨ j = 3)) → ¬ (b = 36 ∧ (j = 4 ∨ j = 5)) → ¬ (37 ≤ b ∧ b ≤ 39) → m'.1 b j = m.1 b j
theorem pfr.l {m m' : xMem} (h : pfr m m') : lfr m m' := ⟨h.1, fun b j w1 w2 w3 => h.2 b j w1 (by omega) (by omega)⟩
theorem lfr.trans {x y z : xMem} (f : lfr x y) (g : lfr y z) : lfr x z := ⟨g.1.trans f.1, fun b j w1 w2 w3 => (g.2 b j w1 w2 w3).trans (f.2 b j w1 w2 w3)⟩
theorem lfr.refl (m : xMem) : lfr m m := ⟨rfl, fun _ _ _ _ _ => rfl⟩
theorem c_line (hK : ∀ i, i ≤ N → (K i = 0 ↔ i = N)) (hV : ∀ i, 0 ≤ V i) {m : xMem} {i : Nat} {ls : List xLine} (h : pAt K V Pl N m i (cAt ls ls.length)) (D : dC m ls) (hn : ls.length ≤ 16) : ∃ m', F_X5_parseLine (Int32.ofNat ls.length) m = some (if (pLn K V ls.length i).1 = 0 then 1 else 0, m') ∧ lfr m m' ∧ ((pLn K V ls.length i).1 = 0 → i < (pLn K V ls.length i).2.1 ∧ (pLn K V ls.length i).2.2.1 ≤ 5 ∧ ls.length < 16 ∧ pAt K V Pl N m' (pLn K V ls.length i).2.1 (cAt (ls ++ [(pLn K V ls.length i).2.2]) (ls ++ [(pLn K V ls.length i).2.2]).length) ∧ dC m' (ls ++ [(pLn K V ls.length i).2.2])) ∧ ((pLn K V ls.length i).1 ≠ 0 → m'.1 31 3 = Int32.ofNat ((pLn K V ls.length i).1 + 16 * Pl (pLn K V ls.length i).2.1)) := by
  have hk := fun j (hj : j ≤ N) => (h.1.2.2 j hj).2.2.2.1
  have hi := h.2.2.1
  have hN := h.1.2.1
  have b0 : xbb 0 = true := by decide
  have d10 : ¬ ((1 : Int32) = 0) := by decide
  have bad : ∀ {m1 : xMem} {p s k : Nat}, lfr m m1 → pAt K V Pl N m1 p s → 1 ≤ k → pLn K V ls.length i = (k, p, 0, []) → (∃ m', (F_X5_refuse (Int32.ofNat k) m1).bind (fun q => if xbb q.1 = true then some (q.1, q.2) else none) = some (if (pLn K V ls.length i).1 = 0 then 1 else 0, m') ∧ lfr m m' ∧ ((pLn K V ls.length i).1 = 0 → i < (pLn K V ls.length i).2.1 ∧ (pLn K V ls.length i).2.2.1 ≤ 5 ∧ ls.length < 16 ∧ pAt K V Pl N m' (pLn K V ls.length i).2.1 (cAt (ls ++ [(pLn K V ls.length i).2.2]) (ls ++ [(pLn K V ls.length i).2.2]).length) ∧ dC m' (ls ++ [(pLn K V ls.length i).2.2])) ∧ ((pLn K V ls.length i).1 ≠ 0 → m'.1 31 3 = Int32.ofNat ((pLn K V ls.length i).1 + 16 * Pl (pLn K V ls.length i).2.1))) := by
    intro m1 p s k f hp hk1 e
    rw [e]
    have hk0 : k ≠ 0 := by omega
    refine ⟨(xst m1.1 31 3 (Int32.ofNat (k + 16 * Pl p)), m1.2), ?_, f.trans ⟨rfl, fun b j w1 w2 w3 => xst_n (by omega)⟩, fun u => absurd u hk0, fun _ => ?_⟩
    · rw [c_refuse hp, Option.bind_some]
      dsimp only
      rw [if_pos b0, if_neg hk0]
    · show xst m1.1 31 3 (Int32.ofNat (k + 16 * Pl p)) 31 3 = _
      exact xst_s
  have h2' : m.1 ag_parser fParser_at = Int32.ofNat i := h.2.1
  unfold F_X5_parseLine
  rw [c_token h, Option.bind_some]
  dsimp only
  have e201 : (Int32.ofNat (K i) = 201) ↔ K i = 201 := o_eq (b := 201) (by have := hk i hi; omega) (by omega)
  by_cases w1 : K i = 201
  · rw [if_pos (e201.mpr w1)]
    have hi1 : i < N := at_lt hK hi (by omega)
    have l16 : (Int32.ofNat ls.length < 16) ↔ ls.length < 16 := o_lt (b := 16) (by omega) (by omega)
    by_cases w16 : ls.length < 16
    · rw [if_pos (l16.mpr w16), h2', o_succ]
      obtain ⟨P1, f1⟩ := h.nx hi1
      show ∃ m', ((F_X5_token (xst m.1 31 2 (Int32.ofNat (i + 1)), m.2)).bind _) = _ ∧ _
      generalize hm1 : ((xst m.1 31 2 (Int32.ofNat (i + 1)), m.2) : xMem) = m1 at *
      rw [c_token P1, Option.bind_some]
      dsimp only
      have e2 : (Int32.ofNat (K (i + 1)) = 2) ↔ K (i + 1) = 2 := o_eq (b := 2) (by have := hk (i + 1) (by omega); omega) (by omega)
      by_cases w2 : K (i + 1) = 2
      · have hi2 : i + 1 < N := at_lt hK (by omega) (by omega)
        have a1' : m1.1 ag_parser fParser_at = Int32.ofNat (i + 1) := P1.2.1
        have i1 : xin (Int32.ofNat (i + 1)) 601 = true := o_in (by omega) (by omega)
        have n1 : (Int32.ofNat (i + 1)).toNatClampNeg = i + 1 := o_nat (by omega)
        have hv : m1.1 ag_parser_tokens_value (i + 1) = V (i + 1) := (P1.1.2.2 (i + 1) (by omega)).2.2.1
        rw [if_pos (e2.mpr w2), a1', if_pos i1, n1, hv]
        by_cases w5 : V (i + 1) ≤ 5
        · rw [if_pos w5, o_succ]
          obtain ⟨P2, f2⟩ := P1.nx hi2
          show ∃ m', ((F_X5_pass (Int32.ofNat 202) (xst m1.1 31 2 (Int32.ofNat (i + 2)), m1.2)).bind _) = _ ∧ _
          generalize hm2 : ((xst m1.1 31 2 (Int32.ofNat (i + 2)), m1.2) : xMem) = m2 at *
          obtain ⟨m3, k1, k2, k3, k4⟩ := c_pass (c := 202) (by omega) (by omega) hK P2
          rw [k1, Option.bind_some]
          dsimp only
          by_cases w3 : K (i + 2) = 202
          · obtain ⟨P3, q3⟩ := k3 w3
            rw [if_pos w3, if_neg d10]
            obtain ⟨m4, j1, j2⟩ := s_J (Pl := Pl) hK hV 10 0 (by omega) (by omega) m3 (i + 3) (cAt ls ls.length) P3
            have j1' : F_X5_parseJoined 40 0 0 m3 = some (if (pE K V 10 0 (i + 3)).1 = 0 then 1 else 0, m4) := j1
            have f1234 : lfr m m4 := ((f1.l.trans f2.l).trans k2.l).trans j2.1.l
            rw [j1', Option.bind_some]
            dsimp only
            have gE := pE_g (N := N) hK hV 10 0 (i + 3) P3.2.2.1
            by_cases w4 : (pE K V 10 0 (i + 3)).1 = 0
            · obtain ⟨P4, c4, d4⟩ := j2.2.1 w4
              rw [if_pos w4, if_neg d10]
              obtain ⟨m5, y1, y2, y3, y4⟩ := c_pass (c := 59) (by omega) (by omega) hK P4
              rw [show (59 : Int32) = Int32.ofNat 59 from rfl, y1, Option.bind_some]
              dsimp only
              obtain ⟨x1, x2, x3⟩ := gE.2 w4
              by_cases w6 : K (pE K V 10 0 (i + 3)).2.1 = 59
              · obtain ⟨P5, q5⟩ := y3 w6
                have eL : pLn K V ls.length i = (0, (pE K V 10 0 (i + 3)).2.1 + 1, (V (i + 1)).toNatClampNeg, (pE K V 10 0 (i + 3)).2.2) := by
                  unfold pLn
                  rw [if_pos w1, if_neg (show ¬ 16 ≤ ls.length by omega), if_pos w2, if_pos w5, if_pos w3, if_pos w4, if_pos w6]
                rw [if_pos w6, if_neg d10, eL]
                generalize pE K V 10 0 (i + 3) = r at *
                -- the line is ended
                obtain ⟨vs, hvs, hve⟩ := g_ixl (n := 5) ⟨hV (i + 1), w5⟩ (by decide)
                have nvs : (V (i + 1)).toNatClampNeg = vs := by rw [hve]; exact o_nat (by omega)
                have f12345 : lfr m m5 := f1234.trans y2.l
                have hln : m5.1 ag_parser_draft fScript_lines = Int32.ofNat ls.length := by
                  have : m5.1 36 5 = m.1 36 5 := by
                    rw [y2.2 36 5 (by omega) (by omega) (by omega), j2.1.2 36 5 (by omega) (by omega) (by omega), k2.2 36 5 (by omega) (by omega) (by omega), f2.2 36 5 (by omega) (by omega) (by omega), f1.2 36 5 (by omega) (by omega) (by omega)]
                  exact this.trans D.1.1
                have hsz : m5.1 ag_parser_draft fScript_size = Int32.ofNat (cAt ls ls.length + r.2.2.length) := P5.2.2.2.1
                have q16 : ¬ 16 ≤ Int32.ofNat ls.length := fun u => by have := (o_le (a := 16) (by omega) (by omega)).mp u; omega
                have iL : xin (Int32.ofNat ls.length) 16 = true := o_in (by omega) (by omega)
                have nL : (Int32.ofNat ls.length).toNatClampNeg = ls.length := o_nat (by omega)
                obtain ⟨I6, hI6⟩ : ∃ I6 : xI, I6 = xst (xst (xst m5.1 38 ls.length (Int32.ofNat (cAt ls ls.length + r.2.2.length))) 39 ls.length (V (i + 1))) 36 5 (Int32.ofNat (ls.length + 1)) := ⟨_, rfl⟩
                have hend : F_X6_endLine (V (i + 1)) m5 = some (0, (I6, m5.2)) := by
                  rw [hI6]
                  simp (decide := true) only [Option.bind_some, ↓reduceIte, xst_f, xst_k, xst_s, ne_eq, not_false_eq_true, not_true_eq_false, and_self, and_true, true_and, and_false, false_and, or_true, true_or, or_false, false_or, F_X6_endLine, hln, q16, iL, nL, hsz, o_succ]
                have F6 : ∀ b j, ¬ (b = 36 ∧ j = 5) → ¬ ((b = 38 ∨ b = 39) ∧ j = ls.length) → I6 b j = m5.1 b j := fun b j u1 u2 => by
                  rw [hI6, xst_n u1, xst_n (by omega), xst_n (by omega)]
                have c37 : ∀ j, j < cAt ls ls.length → m5.1 37 j = m.1 37 j := fun j hj => by
                  rw [q5, c4 j hj, q3]
                  rw [← hm2]
                  show xst m1.1 31 2 (Int32.ofNat (i + 2)) 37 j = _
                  rw [xst_n (by omega), ← hm1]
                  show xst m.1 31 2 (Int32.ofNat (i + 1)) 37 j = _
                  exact xst_n (by omega)
                have r38 : ∀ b j, b = 38 ∨ b = 39 → m5.1 b j = m.1 b j := fun b j u => by
                  rw [y2.2 b j (by omega) (by omega) (by omega), j2.1.2 b j (by omega) (by omega) (by omega), k2.2 b j (by omega) (by omega) (by omega), f2.2 b j (by omega) (by omega) (by omega), f1.2 b j (by omega) (by omega) (by omega)]
                rw [hend, Option.bind_some]
                have f6 : lfr m5 (I6, m5.2) := ⟨rfl, fun b j u1 u2 u3 => F6 b j (by omega) (by omega)⟩
                have cE : cAt (ls ++ [((V (i + 1)).toNatClampNeg, r.2.2)]) (ls ++ [((V (i + 1)).toNatClampNeg, r.2.2)]).length = cAt ls ls.length + r.2.2.length := by
                  rw [List.length_append, List.length_singleton]
                  have := (cAt_s (ls := ls ++ [((V (i + 1)).toNatClampNeg, r.2.2)]) (i := ls.length) (l := ((V (i + 1)).toNatClampNeg, r.2.2)) (by rw [List.getElem?_append_right (Nat.le_refl _), Nat.sub_self]; rfl)).1
                  rw [this, (cAt_ap ls _ ls.length (Nat.le_refl _)).1]
                refine ⟨(I6, m5.2), rfl, f12345.trans f6, fun _ => ⟨by show i < r.2.1 + 1; omega, by show (V (i + 1)).toNatClampNeg ≤ 5; omega, w16, ?_, ?_⟩, fun u => absurd rfl u⟩
                · show pAt K V Pl N (I6, m5.2) (r.2.1 + 1) (cAt (ls ++ [((V (i + 1)).toNatClampNeg, r.2.2)]) (ls ++ [((V (i + 1)).toNatClampNeg, r.2.2)]).length)
                  rw [cE]
                  obtain ⟨⟨t1, t2, t3⟩, p2, p3, p4, p5⟩ := P5
                  refine ⟨⟨(F6 32 3 (by omega) (by omega)).trans t1, t2, fun j hj => ?_⟩, (F6 31 2 (by omega) (by omega)).trans p2, p3, (F6 36 4 (by omega) (by omega)).trans p4, p5⟩
                  show I6 33 j = _ ∧ I6 34 j = _ ∧ I6 35 j = _ ∧ _
                  rw [F6 33 j (by omega) (by omega), F6 34 j (by omega) (by omega), F6 35 j (by omega) (by omega)]
                  exact t3 j hj
                · refine ⟨⟨?_, fun x l hl => ?_⟩, ?_⟩
                  · show I6 36 5 = _
                    rw [List.length_append, List.length_singleton, hI6]
                    exact xst_s
                  · show I6 38 x = _ ∧ I6 39 x = _ ∧ ∀ j t, l.2[j]? = some t → I6 37 _ = _
                    by_cases xl : x < ls.length
                    · rw [List.getElem?_append_left xl] at hl
                      obtain ⟨z1, z2, z3⟩ := D.1.2 x l hl
                      have ca := (cAt_ap ls ((V (i + 1)).toNatClampNeg, r.2.2) x (by omega)).1
                      have clt := cAt_mono (ls := ls) (show x + 1 ≤ ls.length by omega)
                      have cs := (cAt_s hl).1
                      rw [F6 38 x (by omega) (by omega), F6 39 x (by omega) (by omega), r38 38 x (Or.inl rfl), r38 39 x (Or.inr rfl)]
                      show m.1 38 x = Int32.ofNat (cAt (ls ++ [((V (i + 1)).toNatClampNeg, r.2.2)]) x + l.2.length) ∧ _
                      rw [ca]
                      refine ⟨z1, z2, fun j t ht => ?_⟩
                      have hjl : j < l.2.length := (List.getElem?_eq_some_iff.mp ht).1
                      rw [F6 37 _ (by omega) (by omega), c37 _ (by omega)]
                      exact z3 j t ht
                    · rw [List.getElem?_append_right (by omega)] at hl
                      have x0 : x - ls.length = 0 := by
                        rcases Nat.eq_zero_or_pos (x - ls.length) with v | v
                        · exact v
                        · rw [List.getElem?_eq_none (by simp; omega)] at hl; cases hl
                      rw [x0] at hl
                      have hl' : l = ((V (i + 1)).toNatClampNeg, r.2.2) := by simpa using hl.symm
                      have xe : x = ls.length := by omega
                      subst xe
                      have ca := (cAt_ap ls ((V (i + 1)).toNatClampNeg, r.2.2) ls.length (Nat.le_refl _)).1
                      rw [hl']
                      show I6 38 ls.length = Int32.ofNat (cAt (ls ++ [((V (i + 1)).toNatClampNeg, r.2.2)]) ls.length + r.2.2.length) ∧ I6 39 ls.length = Int32.ofNat (V (i + 1)).toNatClampNeg ∧ ∀ j t, r.2.2[j]? = some t → I6 37 (cAt (ls ++ [((V (i + 1)).toNatClampNeg, r.2.2)]) ls.length + j) = tkC t
                      rw [ca]
                      refine ⟨?_, ?_, fun j t ht => ?_⟩
                      · rw [hI6, xst_n (by omega), xst_n (by omega)]; exact xst_s
                      · rw [hI6, xst_n (by omega), nvs, ← hve]; exact xst_s
                      · rw [F6 37 _ (by omega) (by omega), q5]
                        exact d4 j t ht
                  · show I6 36 4 = _
                    rw [cE, F6 36 4 (by omega) (by omega)]
                    exact P5.2.2.2.1
              · have eL : pLn K V ls.length i = (1, (pE K V 10 0 (i + 3)).2.1, 0, []) := by
                  unfold pLn
                  rw [if_pos w1, if_neg (show ¬ 16 ≤ ls.length by omega), if_pos w2, if_pos w5, if_pos w3, if_pos w4, if_neg w6]
                rw [if_neg w6, if_pos rfl, eL]
                exact ⟨m5, rfl, f1234.trans y2.l, fun u => absurd (show (1 : Nat) = 0 from u) (by decide), fun _ => y4 w6⟩
            · have eL : pLn K V ls.length i = ((pE K V 10 0 (i + 3)).1, (pE K V 10 0 (i + 3)).2.1, 0, []) := by
                unfold pLn
                rw [if_pos w1, if_neg (show ¬ 16 ≤ ls.length by omega), if_pos w2, if_pos w5, if_pos w3, if_neg w4]
              rw [if_neg w4, if_pos rfl, eL]
              refine ⟨m4, ?_, f1234, fun u => absurd u w4, fun _ => j2.2.2 w4⟩
              rw [if_neg w4]
          · have eL : pLn K V ls.length i = (1, i + 2, 0, []) := by
              unfold pLn
              rw [if_pos w1, if_neg (show ¬ 16 ≤ ls.length by omega), if_pos w2, if_pos w5, if_neg w3]
            rw [if_neg w3, if_pos rfl, eL]
            exact ⟨m3, rfl, (f1.l.trans f2.l).trans k2.l, fun u => absurd (show (1 : Nat) = 0 from u) (by decide), fun _ => k4 w3⟩
        · rw [if_neg w5]
          exact bad (k := 4) f1.l P1 (by omega) (by
            unfold pLn
            rw [if_pos w1, if_neg (show ¬ 16 ≤ ls.length by omega), if_pos w2, if_neg w5])
      · rw [if_neg (fun u => w2 (e2.mp u))]
        exact bad (k := 1) f1.l P1 (by omega) (by
          unfold pLn
          rw [if_pos w1, if_neg (show ¬ 16 ≤ ls.length by omega), if_neg w2])
    · rw [if_neg (fun u => w16 (l16.mp u))]
      exact bad (k := 5) (lfr.refl m) h (by omega) (by
        unfold pLn
        rw [if_pos w1, if_pos (show 16 ≤ ls.length by omega)])
  · rw [if_neg (fun u => w1 (e201.mp u))]
    exact bad (k := 1) (lfr.refl m) h (by omega) (by
      unfold pLn
      rw [if_neg w1])
end LJ
