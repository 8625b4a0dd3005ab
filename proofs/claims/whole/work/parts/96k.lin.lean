/-! lines -/
/-- fault, place, stars, code -/
abbrev xLR := Nat × Nat × Nat × List xTok
section LI
variable (K : Nat → Nat) (V : Nat → Int32)
def pLn (n i : Nat) : xLR :=
  if K i = 201 then
    (if 16 ≤ n then (5, i, 0, [])
    else if K (i + 1) = 2 then
      (if V (i + 1) ≤ 5 then
        (if K (i + 2) = 202 then
          (if (pE K V 10 0 (i + 3)).1 = 0 then
            (if K (pE K V 10 0 (i + 3)).2.1 = 59 then (0, (pE K V 10 0 (i + 3)).2.1 + 1, (V (i + 1)).toNatClampNeg, (pE K V 10 0 (i + 3)).2.2) else (1, (pE K V 10 0 (i + 3)).2.1, 0, []))
          else ((pE K V 10 0 (i + 3)).1, (pE K V 10 0 (i + 3)).2.1, 0, []))
        else (1, i + 2, 0, []))
      else (4, i + 1, 0, []))
    else (1, i + 1, 0, []))
  else (1, i, 0, [])
def pTx : Nat → Nat → Nat → Nat × Nat × List xLine
  | 0, _, i => (0, i, [])
  | k + 1, n, i => if K i = 0 then (0, i, []) else if (pLn K V n i).1 = 0 then ((pTx k (n + 1) (pLn K V n i).2.1).1, (pTx k (n + 1) (pLn K V n i).2.1).2.1, ((pLn K V n i).2.2.1, (pLn K V n i).2.2.2) :: (pTx k (n + 1) (pLn K V n i).2.1).2.2) else ((pLn K V n i).1, (pLn K V n i).2.1, [])
end LI
section LJ
variable {K : Nat → Nat} {V : Nat → Int32} {Pl : Nat → Nat} {N : Nat}
theorem cAt_ap : ∀ (ls : List xLine) (l : xLine) (i : Nat), i ≤ ls.length → cAt (ls ++ [l]) i = cAt ls i ∧ mAt (ls ++ [l]) i = mAt ls i
  | [], l, 0, _ => ⟨rfl, rfl⟩
  | [], l, i + 1, h => by simp at h
  | x :: xs, l, 0, _ => ⟨rfl, rfl⟩
  | x :: xs, l, i + 1, h => by
    have := cAt_ap xs l i (by simpa using h)
    show x.2.length + cAt (xs ++ [l]) i = x.2.length + cAt xs i ∧ x.2.length + 1 + mAt (xs ++ [l]) i = x.2.length + 1 + mAt xs i
    rw [this.1, this.2]
    exact ⟨rfl, rfl⟩
/-- the draft holds these lines -/
def dC (m : xMem) (ls : List xLine) : Prop := txC m.1 36 37 38 39 ls ∧ m.1 36 4 = Int32.ofNat (cAt ls ls.length)
/-- only the parser and the draft have changed -/
def lfr (m m' : xMem) : Prop := m'.2 = m.2 ∧ ∀ b j, ¬ (b = 31 ∧ (j = 2 ∨ j = 3)) → ¬ (b = 36 ∧ (j = 4 ∨ j = 5)) → ¬ (37 ≤ b ∧ b ≤ 39) → m'.1 b j = m.1 b j
theorem pfr.l {m m' : xMem} (h : pfr m m') : lfr m m' := ⟨h.1, fun b j w1 w2 w3 => h.2 b j w1 (by omega) (by omega)⟩
theorem lfr.trans {x y z : xMem} (f : lfr x y) (g : lfr y z) : lfr x z := ⟨g.1.trans f.1, fun b j w1 w2 w3 => (g.2 b j w1 w2 w3).trans (f.2 b j w1 w2 w3)⟩
theorem lfr.refl (m : xMem) : lfr m m := ⟨rfl, fun _ _ _ _ _ => rfl⟩
theorem c_line (hK : ∀ i, i ≤ N → (K i = 0 ↔ i = N)) (hV : ∀ i, 0 ≤ V i) {m : xMem} {i : Nat} {ls : List xLine} (h : pAt K V Pl N m i (cAt ls ls.length)) (D : dC m ls) (hn : ls.length ≤ 16) : ∃ m', F_X5_parseLine (Int32.ofNat ls.length) m = some (if (pLn K V ls.length i).1 = 0 then 1 else 0, m') ∧ lfr m m' ∧ ((pLn K V ls.length i).1 = 0 → i < (pLn K V ls.length i).2.1 ∧ (pLn K V ls.length i).2.2.1 ≤ 5 ∧ ls.length < 16 ∧ pAt K V Pl N m' (pLn K V ls.length i).2.1 (cAt (ls ++ [(pLn K V ls.length i).2.2]) (ls ++ [(pLn K V ls.length i).2.2]).length) ∧ dC m' (ls ++ [(pLn K V ls.length i).2.2])) ∧ ((pLn K V ls.length i).1 ≠ 0 → m'.1 31 3 = Int32.ofNat ((pLn K V ls.length i).1 + 16 * Pl (pLn K V ls.length i).2.1)) := by
  have hk := fun j (hj : j ≤ N) => (h.1.2.2 j hj).2.2.2.1
  have hi := h.2.2.1
  have hN := h.1.2.1
  have b0 : xbb 0 = true := by decide
  have d10 : ¬ ((1 : Int32) = 0) := by decide
  have bad : ∀ {m1 : xMem} {p s k : Nat}, lfr m m1 → pAt K V Pl N m1 p s → 1 ≤ k → pLn K V ls.length i = (k, p, 0, []) → (∃ m', (F_X5_refuse (Int32.ofNat k) m1).bind (fun q => if xbb q.1 = true then some (q.1, q.2) else none) = some (if (pLn K V ls.length i).1 = 0 then 1 else 0, m') ∧ lfr m m' ∧ ((pLn K V ls.length i).1 = 0 → i < (pLn K V ls.length i).2.1 ∧ (pLn K V ls.length i).2.2.1 ≤ 5 ∧ ls.length < 16 ∧ pAt K V Pl N m' (pLn K V ls.length i).2.1 (cAt (ls ++ [(pLn K V ls.length i).2.2]) (ls ++ [(pLn K V ls.length i).2.2]).length) ∧ dC m' (ls ++ [(pLn K V ls.length i).2.2])) ∧ ((pLn K V ls.length i).1 ≠ 0 → m'.1 31 3 = Int32.ofNat ((pLn K V ls.length i).1 + 16 * Pl (pLn K V ls.length i).2.1))) := by
    intro m1 p s k f hp hk1 e
    rw [e]
    have hk0 : k ≠ 0 := by omega
    refine ⟨(xst m1.1 31 3 (Int32.ofNat (k + 16 * Pl p)), m1.2), ?_, f.trans ⟨rfl, fun b j w1 w2 w3 => xst_n (by omega)⟩, fun u => absurd u hk0, fun _ => ?_⟩
    · rw [c_refuse hp, Option.bind_some]
      dsimp only
      rw [if_pos b0, if_neg hk0]
    · show xst m1.1 31 3 (Int32.ofNat (k + 16 * Pl p)) 31 3 = _
      exact xst_s
  sorry
end LJ
