/-! the parser, on the tokens' codes -/
/-- fault, place, code -/
abbrev xPR := Nat × Nat × List xTok
def pJn (k : Nat) : Nat := if k = 43 then 2 else if k = 45 then 2 else if k = 60 then 1 else if k = 61 then 1 else if k = 203 then 0 else 9
def pOp (k : Nat) : Nat := if k = 43 then 0 else if k = 45 then 1 else if k = 60 then 2 else if k = 61 then 3 else 4
def pTk (K : Nat → Nat) (V : Nat → Int32) (i : Nat) : xTok := if K i = 2 then .inl (.inl (V i)) else .inl (.inr (K i - 204))
section PR
variable (K : Nat → Nat) (V : Nat → Int32)
def pP (E : Nat → Nat → xPR) (d i : Nat) : xPR :=
  if K i = 40 ∨ K i = 2 ∨ (204 ≤ K i ∧ K i ≤ 209) then
    (if 5 ≤ d then (5, i, [])
    else if K i = 40 then
      (if (E (d + 1) (i + 1)).1 = 0 then (if K (E (d + 1) (i + 1)).2.1 = 41 then (0, (E (d + 1) (i + 1)).2.1 + 1, (E (d + 1) (i + 1)).2.2) else (1, (E (d + 1) (i + 1)).2.1, [])) else E (d + 1) (i + 1))
    else (0, i + 1, [pTk K V i]))
  else (1, i, [])
def pL (Q : Nat → xPR) (b : Nat) : Nat → Nat → xPR
  | 0, i => (0, i, [])
  | n + 1, i => if pJn (K i) = b then (if (Q (i + 1)).1 = 0 then ((pL Q b n (Q (i + 1)).2.1).1, (pL Q b n (Q (i + 1)).2.1).2.1, (Q (i + 1)).2.2 ++ .inr (pOp (K i)) :: (pL Q b n (Q (i + 1)).2.1).2.2) else Q (i + 1)) else (0, i, [])
def pQ (Q : Nat → xPR) (b n i : Nat) : xPR := if (Q i).1 = 0 then ((pL K Q b n (Q i).2.1).1, (pL K Q b n (Q i).2.1).2.1, (Q i).2.2 ++ (pL K Q b n (Q i).2.1).2.2) else Q i
/-- by what joins: 0 and, 1 a comparison, 2 a sum, else a part -/
def pB (E : Nat → Nat → xPR) (d b : Nat) : Nat → xPR :=
  if b = 0 then pQ K (pQ K (pQ K (pP K V E d) 2 600) 1 1) 0 600 else if b = 1 then pQ K (pQ K (pP K V E d) 2 600) 1 1 else if b = 2 then pQ K (pP K V E d) 2 600 else pP K V E d
def pE : Nat → Nat → Nat → xPR
  | 0 => fun _ i => (5, i, [])
  | f + 1 => fun d i => pB K V (pE f) d 0 i
end PR
section PG
variable {K : Nat → Nat} {V : Nat → Int32} {N : Nat}
/-- a good result: on from i, not past the end, not more cells than tokens -/
def prG (N i : Nat) (r : xPR) : Prop := r.2.1 ≤ N ∧ (r.1 = 0 → i < r.2.1 ∧ r.2.2.length + i ≤ r.2.1 ∧ ∀ t ∈ r.2.2, tkG t)
theorem pP_g (hK : ∀ i, i ≤ N → (K i = 0 ↔ i = N)) (hV : ∀ i, 0 ≤ V i) {E : Nat → Nat → xPR} (hE : ∀ d i, i ≤ N → prG N i (E d i)) (d i : Nat) (hi : i ≤ N) : prG N i (pP K V E d i) := by
  unfold pP
  split
  · rename_i w
    have hiN : i < N := by
      rcases Nat.lt_or_ge i N with u | u
      · exact u
      · have : K i = 0 := (hK i hi).mpr (by omega)
        omega
    split
    · exact ⟨hi, fun h => by cases h⟩
    · split
      · have hE' := hE (d + 1) (i + 1) (by omega)
        split
        · rename_i g
          obtain ⟨e1, e2, e3⟩ := hE'.2 g
          split
          · rename_i g2
            have : (E (d + 1) (i + 1)).2.1 < N := by
              rcases Nat.lt_or_ge (E (d + 1) (i + 1)).2.1 N with u | u
              · exact u
              · have : K (E (d + 1) (i + 1)).2.1 = 0 := (hK _ hE'.1).mpr (by have := hE'.1; omega)
                omega
            exact ⟨by show _ + 1 ≤ N; omega, fun _ => ⟨by show i < (E (d + 1) (i + 1)).2.1 + 1; omega, by show (E (d + 1) (i + 1)).2.2.length + i ≤ (E (d + 1) (i + 1)).2.1 + 1; omega, e3⟩⟩
          · exact ⟨hE'.1, fun h => by cases h⟩
        · rename_i g
          exact ⟨hE'.1, fun h => absurd h g⟩
      · rename_i g
        refine ⟨by show i + 1 ≤ N; omega, fun _ => ⟨by show i < i + 1; omega, by show 1 + i ≤ i + 1; omega, fun t ht => ?_⟩⟩
        have ht' : t = pTk K V i := by simpa using ht
        rw [ht']
        unfold pTk
        split
        · exact hV i
        · show K i - 204 < 6
          omega
  · exact ⟨hi, fun h => by cases h⟩
theorem pL_g (hK : ∀ i, i ≤ N → (K i = 0 ↔ i = N)) {Q : Nat → xPR} (hQ : ∀ i, i ≤ N → prG N i (Q i)) {b : Nat} (hb : b ≤ 2) : ∀ n i, i ≤ N → (pL K Q b n i).2.1 ≤ N ∧ ((pL K Q b n i).1 = 0 → i ≤ (pL K Q b n i).2.1 ∧ (pL K Q b n i).2.2.length + i ≤ (pL K Q b n i).2.1 ∧ ∀ t ∈ (pL K Q b n i).2.2, tkG t)
  | 0, i, hi => ⟨hi, fun _ => ⟨Nat.le_refl _, by show 0 + i ≤ i; omega, fun t ht => by cases ht⟩⟩
  | n + 1, i, hi => by
    unfold pL
    split
    · rename_i w
      have hiN : i < N := by
        rcases Nat.lt_or_ge i N with u | u
        · exact u
        · have : K i = 0 := (hK i hi).mpr (by omega)
          rw [this] at w
          have : pJn 0 = 9 := rfl
          omega
      have h1 := hQ (i + 1) (by omega)
      split
      · rename_i g
        obtain ⟨e1, e2, e3⟩ := h1.2 g
        have h2 := pL_g hK hQ hb n (Q (i + 1)).2.1 h1.1
        refine ⟨h2.1, fun h => ?_⟩
        obtain ⟨f1, f2, f3⟩ := h2.2 h
        refine ⟨by show i ≤ (pL K Q b n (Q (i + 1)).2.1).2.1; omega, ?_, fun t ht => ?_⟩
        · show ((Q (i + 1)).2.2 ++ .inr (pOp (K i)) :: (pL K Q b n (Q (i + 1)).2.1).2.2).length + i ≤ (pL K Q b n (Q (i + 1)).2.1).2.1
          rw [List.length_append, List.length_cons]
          omega
        · rcases List.mem_append.mp ht with u | u
          · exact e3 t u
          · rcases List.mem_cons.mp u with u | u
            · rw [u]
              show pOp (K i) < 5
              unfold pOp
              repeat' split
              all_goals omega
            · exact f3 t u
      · rename_i g
        exact ⟨h1.1, fun h => absurd h g⟩
    · exact ⟨hi, fun _ => ⟨Nat.le_refl _, by show 0 + i ≤ i; omega, fun t ht => by cases ht⟩⟩
theorem pQ_g (hK : ∀ i, i ≤ N → (K i = 0 ↔ i = N)) {Q : Nat → xPR} (hQ : ∀ i, i ≤ N → prG N i (Q i)) {b : Nat} (hb : b ≤ 2) (n i : Nat) (hi : i ≤ N) : prG N i (pQ K Q b n i) := by
  unfold pQ
  have h1 := hQ i hi
  split
  · rename_i g
    obtain ⟨e1, e2, e3⟩ := h1.2 g
    have h2 := pL_g hK hQ hb n (Q i).2.1 h1.1
    refine ⟨h2.1, fun h => ?_⟩
    obtain ⟨f1, f2, f3⟩ := h2.2 h
    refine ⟨by show i < (pL K Q b n (Q i).2.1).2.1; omega, ?_, fun t ht => ?_⟩
    · show ((Q i).2.2 ++ (pL K Q b n (Q i).2.1).2.2).length + i ≤ (pL K Q b n (Q i).2.1).2.1
      rw [List.length_append]
      omega
    · rcases List.mem_append.mp ht with u | u
      · exact e3 t u
      · exact f3 t u
  · rename_i g
    exact ⟨h1.1, fun h => absurd h g⟩
theorem pB_g (hK : ∀ i, i ≤ N → (K i = 0 ↔ i = N)) (hV : ∀ i, 0 ≤ V i) {E : Nat → Nat → xPR} (hE : ∀ d i, i ≤ N → prG N i (E d i)) (d b i : Nat) (hi : i ≤ N) : prG N i (pB K V E d b i) := by
  have h3 := fun i hi => pP_g hK hV hE d i hi
  have h2 := fun i hi => pQ_g hK h3 (b := 2) (by decide) 600 i hi
  have h1 := fun i hi => pQ_g hK h2 (b := 1) (by decide) 1 i hi
  have h0 := fun i hi => pQ_g hK h1 (b := 0) (by decide) 600 i hi
  unfold pB
  split
  · exact h0 i hi
  · split
    · exact h1 i hi
    · split
      · exact h2 i hi
      · exact h3 i hi
theorem pE_g (hK : ∀ i, i ≤ N → (K i = 0 ↔ i = N)) (hV : ∀ i, 0 ≤ V i) : ∀ f d i, i ≤ N → prG N i (pE K V f d i)
  | 0, d, i, hi => ⟨hi, fun h => by cases h⟩
  | f + 1, d, i, hi => pB_g hK hV (fun d i hi => pE_g hK hV f d i hi) d 0 i hi
end PG
