section PK
variable {K : Nat → Nat} {V : Nat → Int32} {Pl : Nat → Nat} {N : Nat}
/-- the class's tokens -/
def TKs (K : Nat → Nat) (V : Nat → Int32) (Pl : Nat → Nat) (N : Nat) (I : xI) : Prop := I 32 3 = Int32.ofNat (N + 1) ∧ N ≤ 600 ∧ ∀ i, i ≤ N → I 33 i = Int32.ofNat (K i) ∧ I 34 i = Int32.ofNat (Pl i) ∧ I 35 i = V i ∧ K i ≤ 209 ∧ Pl i ≤ 600
/-- only the parser's place, its fault and the draft's code have changed -/
def pfr (m m' : xMem) : Prop := m'.2 = m.2 ∧ ∀ b j, ¬ (b = 31 ∧ (j = 2 ∨ j = 3)) → ¬ (b = 36 ∧ j = 4) → b ≠ 37 → m'.1 b j = m.1 b j
theorem pfr.refl (m : xMem) : pfr m m := ⟨rfl, fun _ _ _ _ _ => rfl⟩
theorem pfr.trans {a b c : xMem} (h : pfr a b) (g : pfr b c) : pfr a c := ⟨g.1.trans h.1, fun x j w1 w2 w3 => (g.2 x j w1 w2 w3).trans (h.2 x j w1 w2 w3)⟩
theorem TKs.mv {m m' : xMem} (h : pfr m m') (T : TKs K V Pl N m.1) : TKs K V Pl N m'.1 := by
  obtain ⟨t1, t2, t3⟩ := T
  refine ⟨(h.2 32 3 (by decide) (by decide) (by decide)).trans t1, t2, fun i hi => ?_⟩
  rw [h.2 33 i (by omega) (by omega) (by decide), h.2 34 i (by omega) (by omega) (by decide), h.2 35 i (by omega) (by omega) (by decide)]
  exact t3 i hi
/-- at token i, s cells written -/
def pAt (K : Nat → Nat) (V : Nat → Int32) (Pl : Nat → Nat) (N : Nat) (m : xMem) (i s : Nat) : Prop := TKs K V Pl N m.1 ∧ m.1 31 2 = Int32.ofNat i ∧ i ≤ N ∧ m.1 36 4 = Int32.ofNat s ∧ s ≤ i
/-- what has come of it -/
def cR (K : Nat → Nat) (V : Nat → Int32) (Pl : Nat → Nat) (N : Nat) (m m' : xMem) (s : Nat) (r : xPR) : Prop := pfr m m' ∧ (r.1 = 0 → pAt K V Pl N m' r.2.1 (s + r.2.2.length) ∧ (∀ j, j < s → m'.1 37 j = m.1 37 j) ∧ ∀ j t, r.2.2[j]? = some t → m'.1 37 (s + j) = tkC t) ∧ (r.1 ≠ 0 → m'.1 31 3 = Int32.ofNat (r.1 + 16 * Pl r.2.1))
def cSim (K : Nat → Nat) (V : Nat → Int32) (Pl : Nat → Nat) (N : Nat) (G : xMem → Option (Int32 × xMem)) (P : Nat → xPR) : Prop := ∀ m i s, pAt K V Pl N m i s → ∃ m', G m = some (if (P i).1 = 0 then 1 else 0, m') ∧ cR K V Pl N m m' s (P i)
theorem c_token {m : xMem} {i s : Nat} (h : pAt K V Pl N m i s) : F_X5_token m = some (Int32.ofNat (K i), m) := by
  obtain ⟨⟨t1, t2, t3⟩, h2, h3, -, -⟩ := h
  have t1' : m.1 ag_parser_tokens fTokens_size = Int32.ofNat (N + 1) := t1
  have h2' : m.1 ag_parser fParser_at = Int32.ofNat i := h2
  have q : ¬ Int32.ofNat (N + 1) ≤ Int32.ofNat i := fun w => by have := (o_le (by omega) (by omega)).mp w; omega
  have i1 : xin (Int32.ofNat i) 601 = true := o_in (by omega) (by omega)
  have n1 : (Int32.ofNat i).toNatClampNeg = i := o_nat (by omega)
  have t3' : m.1 ag_parser_tokens_what i = Int32.ofNat (K i) := (t3 i h3).1
  unfold F_X5_token
  rw [t1', h2', if_neg q, if_pos i1, n1, t3']
theorem c_refuse {m : xMem} {i s k : Nat} (h : pAt K V Pl N m i s) : F_X5_refuse (Int32.ofNat k) m = some (0, (xst m.1 31 3 (Int32.ofNat (k + 16 * Pl i)), m.2)) := by
  obtain ⟨⟨t1, t2, t3⟩, h2, h3, -, -⟩ := h
  have t1' : m.1 ag_parser_tokens fTokens_size = Int32.ofNat (N + 1) := t1
  have h2' : m.1 ag_parser fParser_at = Int32.ofNat i := h2
  have q : ¬ Int32.ofNat (N + 1) ≤ Int32.ofNat i := fun w => by have := (o_le (by omega) (by omega)).mp w; omega
  have i1 : xin (Int32.ofNat i) 601 = true := o_in (by omega) (by omega)
  have n1 : (Int32.ofNat i).toNatClampNeg = i := o_nat (by omega)
  have t3' : m.1 ag_parser_tokens_where i = Int32.ofNat (Pl i) := (t3 i h3).2.1
  unfold F_X5_refuse
  rw [t1', h2', if_neg q, if_pos i1, n1, t3']
  unfold J_X5_refuse_30
  rw [o_16, o_add]
theorem cR_bad {m : xMem} {s k p : Nat} (hk : k ≠ 0) : cR K V Pl N m (xst m.1 31 3 (Int32.ofNat (k + 16 * Pl p)), m.2) s (k, p, []) := by
  refine ⟨⟨rfl, fun b j w1 w2 w3 => xst_n (by omega)⟩, fun h => absurd h hk, fun _ => ?_⟩
  show xst m.1 31 3 _ 31 3 = _
  exact xst_s
/-- one token on -/
theorem pAt.nx {m : xMem} {i s : Nat} (h : pAt K V Pl N m i s) (hi : i < N) : pAt K V Pl N (xst m.1 31 2 (Int32.ofNat (i + 1)), m.2) (i + 1) s ∧ pfr m (xst m.1 31 2 (Int32.ofNat (i + 1)), m.2) := by
  have f : pfr m (xst m.1 31 2 (Int32.ofNat (i + 1)), m.2) := ⟨rfl, fun b j w1 w2 w3 => xst_n (by omega)⟩
  obtain ⟨t, h2, h3, h4, h5⟩ := h
  refine ⟨⟨t.mv f, ?_, by omega, ?_, by omega⟩, f⟩
  · show xst m.1 31 2 _ 31 2 = _
    exact xst_s
  · show xst m.1 31 2 (Int32.ofNat (i + 1)) 36 4 = _
    rw [xst_n (by omega)]
    exact h4
/-- a cell written -/
theorem c_put {m : xMem} {i s : Nat} (v : Int32) (h : pAt K V Pl N m i s) (hs : s < i ∨ s < 600) (h600 : s < 600) : ∃ m', F_X6_add v m = some (0, m') ∧ pfr m m' ∧ m'.1 31 2 = m.1 31 2 ∧ m'.1 36 4 = Int32.ofNat (s + 1) ∧ (∀ j, j ≠ s → m'.1 37 j = m.1 37 j) ∧ m'.1 37 s = v := by
  obtain ⟨t, h2, h3, h4, h5⟩ := h
  have h4' : m.1 ag_parser_draft fScript_size = Int32.ofNat s := h4
  have q : ¬ 600 ≤ Int32.ofNat s := fun w => by have := (o_le (a := 600) (by omega) (by omega)).mp w; omega
  have i1 : xin (Int32.ofNat s) 600 = true := o_in (by omega) (by omega)
  have n1 : (Int32.ofNat s).toNatClampNeg = s := o_nat (by omega)
  refine ⟨(xst (xst m.1 37 s v) 36 4 (Int32.ofNat (s + 1)), m.2), ?_, ⟨rfl, fun b j w1 w2 w3 => ?_⟩, ?_, ?_, fun j hj => ?_, ?_⟩
  · simp (decide := true) only [Option.bind_some, ↓reduceIte, xst_f, xst_k, xst_s, ne_eq, not_false_eq_true, not_true_eq_false, and_self, and_true, true_and, and_false, false_and, or_true, true_or, or_false, false_or, F_X6_add, h4', q, i1, n1, o_succ]
  · exact (xst_n (by omega)).trans (xst_n (by omega))
  · show xst (xst m.1 37 s v) 36 4 (Int32.ofNat (s + 1)) 31 2 = _
    rw [xst_n (by omega), xst_n (by omega)]
  · show xst (xst m.1 37 s v) 36 4 _ 36 4 = _
    exact xst_s
  · show xst (xst m.1 37 s v) 36 4 (Int32.ofNat (s + 1)) 37 j = _
    rw [xst_n (by omega), xst_n (by omega)]
  · show xst (xst m.1 37 s v) 36 4 (Int32.ofNat (s + 1)) 37 s = _
    rw [xst_n (by omega)]
    exact xst_s
theorem c_pass {m : xMem} {i s c : Nat} (hc : c ≤ 300) (hc0 : c ≠ 0) (hK : ∀ i, i ≤ N → (K i = 0 ↔ i = N)) (h : pAt K V Pl N m i s) : ∃ m', F_X5_pass (Int32.ofNat c) m = some (if K i = c then 1 else 0, m') ∧ pfr m m' ∧ (K i = c → pAt K V Pl N m' (i + 1) s ∧ ∀ j, m'.1 37 j = m.1 37 j) ∧ (K i ≠ c → m'.1 31 3 = Int32.ofNat (1 + 16 * Pl i)) := by
  have hk := (h.1.2.2 i h.2.2.1).2.2.2.1
  have eq : (Int32.ofNat (K i) = Int32.ofNat c) ↔ K i = c := o_eq (by omega) (by omega)
  have b0 : xbb 0 = true := by decide
  unfold F_X5_pass
  rw [c_token h, Option.bind_some]
  dsimp only
  by_cases w : K i = c
  · have hi : i < N := by
      rcases Nat.lt_or_ge i N with u | u
      · exact u
      · have := (hK i h.2.2.1).mpr (by have := h.2.2.1; omega)
        omega
    obtain ⟨n1, n2⟩ := h.nx hi
    refine ⟨_, ?_, n2, fun _ => ⟨n1, fun j => ?_⟩, fun u => absurd w u⟩
    · have h2' : m.1 ag_parser fParser_at = Int32.ofNat i := h.2.1
      rw [if_pos (eq.mpr w), if_pos w, h2', o_succ]
    · show xst m.1 31 2 (Int32.ofNat (i + 1)) 37 j = _
      exact xst_n (by omega)
  · refine ⟨(xst m.1 31 3 (Int32.ofNat (1 + 16 * Pl i)), m.2), ?_, ⟨rfl, fun b j w1 w2 w3 => ?_⟩, fun u => absurd u w, fun _ => ?_⟩
    · rw [if_neg (fun u => w (eq.mp u)), if_neg w, show (1 : Int32) = Int32.ofNat 1 from rfl, c_refuse h, Option.bind_some]
      dsimp only
      rw [if_pos b0]
    · exact xst_n (by omega)
    · show xst m.1 31 3 _ 31 3 = _
      exact xst_s
theorem jn_c : ∀ k : Fin 210, ∀ b : Fin 3, (∀ m : xMem, F_X5_joins (Int32.ofNat k.1) m = some (if pJn k.1 = 9 then -1 else Int32.ofNat (pJn k.1), m)) := by
  intro k b m
  have e : ∀ c : Nat, c < 300 → ((Int32.ofNat k.1 = Int32.ofNat c) ↔ k.1 = c) := fun c hc => o_eq (by omega) (by omega)
  have e43 := e 43 (by omega)
  have e45 := e 45 (by omega)
  have e60 := e 60 (by omega)
  have e61 := e 61 (by omega)
  have e203 := e 203 (by omega)
  unfold F_X5_joins pJn
  rw [show (43 : Int32) = Int32.ofNat 43 from rfl, show (45 : Int32) = Int32.ofNat 45 from rfl, show (60 : Int32) = Int32.ofNat 60 from rfl, show (61 : Int32) = Int32.ofNat 61 from rfl, show (203 : Int32) = Int32.ofNat 203 from rfl]
  by_cases w1 : k.1 = 43
  · rw [if_pos (e43.mpr w1), if_pos w1]; rfl
  · rw [if_neg (fun u => w1 (e43.mp u)), if_neg w1]
    by_cases w2 : k.1 = 45
    · rw [if_pos (e45.mpr w2), if_pos w2]; rfl
    · rw [if_neg (fun u => w2 (e45.mp u)), if_neg w2]
      by_cases w3 : k.1 = 60
      · rw [if_pos (e60.mpr w3), if_pos w3]; rfl
      · rw [if_neg (fun u => w3 (e60.mp u)), if_neg w3]
        by_cases w4 : k.1 = 61
        · rw [if_pos (e61.mpr w4), if_pos w4]; rfl
        · rw [if_neg (fun u => w4 (e61.mp u)), if_neg w4]
          by_cases w5 : k.1 = 203
          · rw [if_pos (e203.mpr w5), if_pos w5]; rfl
          · rw [if_neg (fun u => w5 (e203.mp u)), if_neg w5]; rfl
theorem pJn_9 (k : Nat) : pJn k = 9 ∨ pJn k ≤ 2 := by
  unfold pJn
  repeat' split
  all_goals omega
theorem op_tk : ∀ k : Fin 210, pJn k.1 ≤ 2 → -(Int32.ofNat k.1) = tkC (.inr (pOp k.1)) := by decide +kernel
theorem nm_tk : ∀ k : Fin 210, 204 ≤ k.1 → -(Int32.ofNat k.1) = tkC (.inl (.inr (k.1 - 204))) := by decide +kernel
/-- one after another -/
theorem cR.seq {m m1 m2 : xMem} {s : Nat} {r r2 : xPR} (h1 : cR K V Pl N m m1 s r) (h0 : r.1 = 0) (h2 : cR K V Pl N m1 m2 (s + r.2.2.length) r2) : cR K V Pl N m m2 s (r2.1, r2.2.1, r.2.2 ++ r2.2.2) := by
  obtain ⟨f1, g1, -⟩ := h1
  obtain ⟨f2, g2, b2⟩ := h2
  obtain ⟨p1, c1, d1⟩ := g1 h0
  refine ⟨f1.trans f2, fun h => ?_, fun h => b2 h⟩
  obtain ⟨p2, c2, d2⟩ := g2 h
  refine ⟨?_, fun j hj => (c2 j (by omega)).trans (c1 j hj), fun j t ht => ?_⟩
  · show pAt K V Pl N m2 r2.2.1 (s + (r.2.2 ++ r2.2.2).length)
    rw [List.length_append, ← Nat.add_assoc]
    exact p2
  · have ht' : (r.2.2 ++ r2.2.2)[j]? = some t := ht
    by_cases w : j < r.2.2.length
    · rw [List.getElem?_append_left w] at ht'
      rw [c2 (s + j) (by omega)]
      exact d1 j t ht'
    · rw [List.getElem?_append_right (by omega)] at ht'
      have := d2 (j - r.2.2.length) t ht'
      rw [show s + r.2.2.length + (j - r.2.2.length) = s + j by omega] at this
      exact this
end PK
