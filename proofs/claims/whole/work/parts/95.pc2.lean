section PQ
variable {K : Nat → Nat} {V : Nat → Int32} {Pl : Nat → Nat} {N : Nat}
theorem at_lt (hK : ∀ i, i ≤ N → (K i = 0 ↔ i = N)) {i : Nat} (hi : i ≤ N) (h : K i ≠ 0) : i < N := by
  rcases Nat.lt_or_ge i N with u | u
  · exact u
  · exact absurd ((hK i hi).mpr (by omega)) h
/-- one cell, one token on -/
theorem c_one {m : xMem} {i s : Nat} (h : pAt K V Pl N m i s) (hi : i < N) {v : Int32} {t : xTok} (hv : v = tkC t) : ∃ m', F_X6_add v m = some (0, m') ∧ cR K V Pl N m (xst m'.1 31 2 (Int32.ofNat (i + 1)), m'.2) s (0, i + 1, [t]) ∧ m'.1 31 2 = Int32.ofNat i := by
  have hN := h.1.2.1
  obtain ⟨m', r1, r2, r3, r4, r5, r6⟩ := c_put (K := K) (V := V) (Pl := Pl) (N := N) v h (Or.inr (by have := h.2.2.2.2; omega)) (by have := h.2.2.2.2; omega)
  have f2 : pfr m' (xst m'.1 31 2 (Int32.ofNat (i + 1)), m'.2) := ⟨rfl, fun b j w1 w2 w3 => xst_n (by omega)⟩
  refine ⟨m', r1, ⟨r2.trans f2, fun _ => ⟨⟨(h.1.mv r2).mv f2, ?_, by show i + 1 ≤ N; omega, ?_, ?_⟩, fun j hj => ?_, fun j t' ht => ?_⟩, fun w => absurd rfl w⟩, r3.trans h.2.1⟩
  · show xst m'.1 31 2 (Int32.ofNat (i + 1)) 31 2 = _
    exact xst_s
  · show xst m'.1 31 2 (Int32.ofNat (i + 1)) 36 4 = _
    rw [xst_n (by omega)]
    exact r4
  · show s + 1 ≤ i + 1
    have := h.2.2.2.2
    omega
  · show xst m'.1 31 2 (Int32.ofNat (i + 1)) 37 j = _
    rw [xst_n (by omega)]
    exact r5 j (by omega)
  · have : j = 0 ∧ t' = t := by
      cases j with
      | zero => exact ⟨rfl, by simpa using ht.symm⟩
      | succ j => simp at ht
    show xst m'.1 31 2 (Int32.ofNat (i + 1)) 37 (s + j) = _
    rw [xst_n (by omega), this.1, this.2, ← hv]
    exact r6
theorem s_part (hK : ∀ i, i ≤ N → (K i = 0 ↔ i = N)) {rj : Int32 → Int32 → xMem → Option (Int32 × xMem)} {E : Nat → Nat → xPR} {d : Nat} (hd : d ≤ 5) (hE : d < 5 → cSim K V Pl N (rj 0 (Int32.ofNat (d + 1))) (E (d + 1))) : cSim K V Pl N (F_X5_parsePart rj (Int32.ofNat d)) (pP K V E d) := by
  intro m i s h
  have hk := (h.1.2.2 i h.2.2.1).2.2.2.1
  have hN := h.1.2.1
  have h2' : m.1 ag_parser fParser_at = Int32.ofNat i := h.2.1
  have e40 : (Int32.ofNat (K i) = 40) ↔ K i = 40 := o_eq (b := 40) (by omega) (by omega)
  have e2 : (Int32.ofNat (K i) = 2) ↔ K i = 2 := o_eq (b := 2) (by omega) (by omega)
  have b0 : xbb 0 = true := by decide
  have d10 : ¬ ((1 : Int32) = 0) := by decide
  have hnm : F_X9_isName (Int32.ofNat (K i)) m = some (if 204 ≤ K i ∧ K i ≤ 209 then 1 else 0, m) := by
    have l1 : (Int32.ofNat (K i) < 204) ↔ K i < 204 := o_lt (b := 204) (by omega) (by omega)
    have l2 : (209 < Int32.ofNat (K i)) ↔ 209 < K i := o_lt (a := 209) (by omega) (by omega)
    unfold F_X9_isName
    by_cases w : K i < 204
    · rw [if_pos (l1.mpr w), if_neg (by omega)]
    · rw [if_neg (fun u => w (l1.mp u)), if_neg (fun u => by have := l2.mp u; omega), if_pos (by omega)]
  -- once a part has begun
  have j31 : (K i = 40 ∨ K i = 2 ∨ (204 ≤ K i ∧ K i ≤ 209)) → ∃ m', J_X5_parsePart_31 rj (Int32.ofNat d) (Int32.ofNat (K i)) (if 204 ≤ K i ∧ K i ≤ 209 then 1 else 0) m = some (if (pP K V E d i).1 = 0 then 1 else 0, m') ∧ cR K V Pl N m m' s (pP K V E d i) := by
    intro w
    have hi : i < N := at_lt hK h.2.2.1 (by omega)
    obtain ⟨nx1, nx2⟩ := h.nx hi
    have l5 : (Int32.ofNat d < 5) ↔ d < 5 := o_lt (b := 5) (by omega) (by omega)
    by_cases w5 : d < 5
    · by_cases w40 : K i = 40
      · obtain ⟨m1, g1, g2⟩ := hE w5 _ (i + 1) s nx1
        have eJ : J_X5_parsePart_31 rj (Int32.ofNat d) (Int32.ofNat (K i)) (if 204 ≤ K i ∧ K i ≤ 209 then 1 else 0) m = (if (if (E (d + 1) (i + 1)).1 = 0 then (1 : Int32) else 0) = 0 then some ((0 : Int32), m1) else (F_X5_pass (Int32.ofNat 41) m1).bind fun q_7 => if q_7.1 = 0 then some ((0 : Int32), q_7.2) else some ((1 : Int32), q_7.2)) := by
          unfold J_X5_parsePart_31
          rw [if_pos (l5.mpr w5), if_pos (e40.mpr w40), h2', o_succ, o_succ]
          show ((rj 0 (Int32.ofNat (d + 1)) (xst m.1 31 2 (Int32.ofNat (i + 1)), m.2)).bind _) = _
          rw [g1, Option.bind_some]
          rfl
        have eP : pP K V E d i = (if (E (d + 1) (i + 1)).1 = 0 then (if K (E (d + 1) (i + 1)).2.1 = 41 then (0, (E (d + 1) (i + 1)).2.1 + 1, (E (d + 1) (i + 1)).2.2) else (1, (E (d + 1) (i + 1)).2.1, [])) else E (d + 1) (i + 1)) := by
          unfold pP
          rw [if_pos w, if_neg (show ¬ 5 ≤ d by omega), if_pos w40]
        by_cases z : (E (d + 1) (i + 1)).1 = 0
        · obtain ⟨p1, c1, d1⟩ := g2.2.1 z
          obtain ⟨m2, k1, k2, k3, k4⟩ := c_pass (c := 41) (by omega) (by omega) hK p1
          rw [if_pos z, if_neg d10, k1, Option.bind_some] at eJ
          rw [if_pos z] at eP
          by_cases y : K (E (d + 1) (i + 1)).2.1 = 41
          · obtain ⟨q1, q2⟩ := k3 y
            rw [if_pos y] at eP
            rw [eJ, eP, if_pos y]
            refine ⟨m2, rfl, (nx2.trans g2.1).trans k2, fun _ => ⟨q1, fun j hj => ?_, fun j t ht => ?_⟩, fun u => absurd rfl u⟩
            · rw [q2, c1 j hj]
              show xst m.1 31 2 (Int32.ofNat (i + 1)) 37 j = _
              exact xst_n (by omega)
            · rw [q2]
              exact d1 j t ht
          · rw [if_neg y] at eP
            rw [eJ, eP, if_neg y]
            exact ⟨m2, rfl, (nx2.trans g2.1).trans k2, fun u => absurd (show (1 : Nat) = 0 from u) (by decide), fun _ => k4 y⟩
        · rw [if_neg z, if_pos rfl] at eJ
          rw [if_neg z] at eP
          rw [eJ, eP, if_neg z]
          exact ⟨m1, rfl, nx2.trans g2.1, fun u => absurd u z, g2.2.2⟩
      · have eP : pP K V E d i = (0, i + 1, [pTk K V i]) := by
          unfold pP
          rw [if_pos w, if_neg (show ¬ 5 ≤ d by omega), if_neg w40]
        by_cases wn : 204 ≤ K i ∧ K i ≤ 209
        · have ht : pTk K V i = .inl (.inr (K i - 204)) := by unfold pTk; rw [if_neg (by omega)]
          obtain ⟨m1, g1, g2, g3⟩ := c_one h hi (nm_tk ⟨K i, by omega⟩ wn.1)
          dsimp only at g1 g2
          have g3' : m1.1 ag_parser fParser_at = Int32.ofNat i := g3
          rw [eP, ht]
          refine ⟨_, ?_, g2⟩
          unfold J_X5_parsePart_31
          rw [if_pos (l5.mpr w5), if_neg (fun u => w40 (e40.mp u)), if_pos wn, if_neg d10, g1, Option.bind_some]
          dsimp only
          rw [g3', o_succ]
          rfl
        · have w2 : K i = 2 := by omega
          have i1 : xin (Int32.ofNat i) 601 = true := o_in (by omega) (by omega)
          have n1 : (Int32.ofNat i).toNatClampNeg = i := o_nat (by omega)
          have hv : m.1 ag_parser_tokens_value i = V i := (h.1.2.2 i h.2.2.1).2.2.1
          have ht : pTk K V i = .inl (.inl (V i)) := by unfold pTk; rw [if_pos w2]
          obtain ⟨m1, g1, g2, g3⟩ := c_one (v := V i) (t := .inl (.inl (V i))) h hi rfl
          have g3' : m1.1 ag_parser fParser_at = Int32.ofNat i := g3
          rw [eP, ht]
          refine ⟨_, ?_, g2⟩
          unfold J_X5_parsePart_31
          rw [if_pos (l5.mpr w5), if_neg (fun u => w40 (e40.mp u)), if_neg wn, if_pos rfl, h2', if_pos i1, n1, hv, g1, Option.bind_some]
          dsimp only
          rw [g3', o_succ]
          rfl
    · have eP : pP K V E d i = (5, i, []) := by
        unfold pP
        rw [if_pos w, if_pos (show 5 ≤ d by omega)]
      rw [eP]
      refine ⟨_, ?_, cR_bad (by omega)⟩
      unfold J_X5_parsePart_31
      rw [if_neg (fun u => w5 (l5.mp u)), show (5 : Int32) = Int32.ofNat 5 from rfl, c_refuse h, Option.bind_some]
      dsimp only
      rw [if_pos b0]
      rfl
  unfold F_X5_parsePart
  rw [c_token h, Option.bind_some]
  dsimp only
  rw [hnm, Option.bind_some]
  dsimp only
  by_cases w1 : K i = 40
  · rw [if_pos (e40.mpr w1)]
    exact j31 (Or.inl w1)
  · rw [if_neg (fun u => w1 (e40.mp u))]
    by_cases w2 : K i = 2
    · rw [if_pos (e2.mpr w2)]
      exact j31 (Or.inr (Or.inl w2))
    · rw [if_neg (fun u => w2 (e2.mp u))]
      by_cases w3 : 204 ≤ K i ∧ K i ≤ 209
      · have := j31 (Or.inr (Or.inr w3))
        rw [if_pos w3] at this ⊢
        rw [if_neg d10]
        exact this
      · rw [if_neg w3, if_pos rfl, show (1 : Int32) = Int32.ofNat 1 from rfl, c_refuse h, Option.bind_some]
        dsimp only
        rw [if_pos b0]
        have e : pP K V E d i = (1, i, []) := by
          unfold pP
          rw [if_neg (by omega)]
        rw [e, if_neg (show ¬ (1 : Nat) = 0 by omega)]
        exact ⟨_, rfl, cR_bad (by omega)⟩
theorem s_loop (hK : ∀ i, i ≤ N → (K i = 0 ↔ i = N)) {rj : Int32 → Int32 → xMem → Option (Int32 × xMem)} {Q : Nat → xPR} {b d : Nat} (hb : b ≤ 2) (hQ : cSim K V Pl N (rj (Int32.ofNat (b + 1)) (Int32.ofNat d)) Q) (hQg : ∀ i, i ≤ N → prG N i (Q i)) {most : Nat} (hm : most ≤ 600) : ∀ (k x fk : Nat) (m : xMem) (i s : Nat), x + k = most → k < fk → pAt K V Pl N m i s → ∃ m', L_X5_parseJoinedB_40 rj (Int32.ofNat b) (Int32.ofNat d) (Int32.ofNat most) fk (Int32.ofNat x) m = some (if (pL K Q b k i).1 = 0 then 1 else 0, m') ∧ cR K V Pl N m m' s (pL K Q b k i)
  | 0, x, fk + 1, m, i, s, hx, _, h => by
    have q : Int32.ofNat most ≤ Int32.ofNat x := (o_le (by omega) (by omega)).mpr (by omega)
    refine ⟨m, ?_, pfr.refl m, fun _ => ⟨h, fun _ _ => rfl, fun j t ht => by cases ht⟩, fun u => absurd rfl u⟩
    unfold L_X5_parseJoinedB_40
    rw [if_pos q]
    rfl
  | k + 1, x, fk + 1, m, i, s, hx, hf, h => by
    have q : ¬ Int32.ofNat most ≤ Int32.ofNat x := fun w => by have := (o_le (by omega) (by omega)).mp w; omega
    have hk := (h.1.2.2 i h.2.2.1).2.2.2.1
    have hN := h.1.2.1
    have h2' : m.1 ag_parser fParser_at = Int32.ofNat i := h.2.1
    have d10 : ¬ ((1 : Int32) = 0) := by decide
    have hj := jn_c ⟨K i, by omega⟩ ⟨0, by omega⟩ m
    dsimp only at hj
    have hjb : ((if pJn (K i) = 9 then (-1 : Int32) else Int32.ofNat (pJn (K i))) = Int32.ofNat b) ↔ pJn (K i) = b := by
      rcases pJn_9 (K i) with u | u
      · rw [if_pos u]
        constructor
        · intro z
          have := congrArg Int32.toInt z
          rw [o_toInt (by omega)] at this
          have e : (-1 : Int32).toInt = -1 := rfl
          omega
        · intro z; omega
      · rw [if_neg (by omega)]
        exact o_eq (by omega) (by omega)
    unfold L_X5_parseJoinedB_40 pL
    rw [if_neg q, c_token h, Option.bind_some]
    dsimp only
    rw [hj, Option.bind_some]
    dsimp only
    by_cases w : pJn (K i) = b
    · have hi : i < N := at_lt hK h.2.2.1 (fun u => by rw [u] at w; have : pJn 0 = 9 := rfl; omega)
      obtain ⟨nx1, nx2⟩ := h.nx hi
      obtain ⟨m1, g1, g2⟩ := hQ _ (i + 1) s nx1
      rw [if_pos (hjb.mpr w), if_pos w, c_token h, Option.bind_some]
      dsimp only
      rw [h2', o_succ, o_succ]
      show ∃ m', ((rj (Int32.ofNat (b + 1)) (Int32.ofNat d) (xst m.1 31 2 (Int32.ofNat (i + 1)), m.2)).bind _) = _ ∧ _
      rw [g1, Option.bind_some]
      dsimp only
      by_cases z : (Q (i + 1)).1 = 0
      · obtain ⟨p1, c1, d1⟩ := g2.2.1 z
        obtain ⟨e1, e2, e3⟩ := (hQg (i + 1) (by omega)).2 z
        rw [if_pos z, if_neg d10, if_pos z]
        have hlen : s + (Q (i + 1)).2.2.length < 600 := by have := p1.2.2.1; have := h.2.2.2.2; omega
        obtain ⟨m2, r1, r2, r3, r4, r5, r6⟩ := c_put (-(Int32.ofNat (K i))) p1 (Or.inr hlen) hlen
        have hop := op_tk ⟨K i, by omega⟩ (by show pJn (K i) ≤ 2; omega)
        dsimp only at hop
        have p2 : pAt K V Pl N m2 (Q (i + 1)).2.1 (s + (Q (i + 1)).2.2.length + 1) := ⟨p1.1.mv r2, r3.trans p1.2.1, p1.2.2.1, r4, by have := h.2.2.2.2; omega⟩
        rw [r1, Option.bind_some]
        dsimp only
        obtain ⟨m3, t1, t2⟩ := s_loop hK hb hQ hQg hm k (x + 1) fk m2 (Q (i + 1)).2.1 (s + (Q (i + 1)).2.2.length + 1) (by omega) (by omega) p2
        refine ⟨m3, ?_, ?_⟩
        · rw [o_succ, t1]
        · -- the code: the second, its sign, the rest
          have cA : cR K V Pl N m m2 s (0, (Q (i + 1)).2.1, (Q (i + 1)).2.2 ++ [(Sum.inr (pOp (K i)) : xTok)]) := by
            refine ⟨(nx2.trans g2.1).trans r2, fun _ => ⟨?_, fun j hj => ?_, fun j t ht => ?_⟩, fun u => absurd rfl u⟩
            · show pAt K V Pl N m2 (Q (i + 1)).2.1 (s + ((Q (i + 1)).2.2 ++ [(Sum.inr (pOp (K i)) : xTok)]).length)
              rw [List.length_append, List.length_singleton, ← Nat.add_assoc]
              exact p2
            · rw [r5 j (by omega), c1 j hj]
              show xst m.1 31 2 (Int32.ofNat (i + 1)) 37 j = _
              exact xst_n (by omega)
            · have ht' : ((Q (i + 1)).2.2 ++ [(Sum.inr (pOp (K i)) : xTok)])[j]? = some t := ht
              by_cases y : j < (Q (i + 1)).2.2.length
              · rw [List.getElem?_append_left y] at ht'
                rw [r5 (s + j) (by omega)]
                exact d1 j t ht'
              · rw [List.getElem?_append_right (by omega)] at ht'
                have y0 : j - (Q (i + 1)).2.2.length = 0 := by
                  rcases Nat.eq_zero_or_pos (j - (Q (i + 1)).2.2.length) with v | v
                  · exact v
                  · rw [List.getElem?_eq_none (by simp; omega)] at ht'; cases ht'
                rw [y0] at ht'
                have : t = .inr (pOp (K i)) := by simpa using ht'.symm
                rw [this, show s + j = s + (Q (i + 1)).2.2.length by omega, r6, hop]
          have cB := cA.seq rfl (by
            show cR K V Pl N m2 m3 (s + ((Q (i + 1)).2.2 ++ [(Sum.inr (pOp (K i)) : xTok)]).length) (pL K Q b k (Q (i + 1)).2.1)
            rw [List.length_append, List.length_singleton, ← Nat.add_assoc]
            exact t2)
          rw [show ((Q (i + 1)).2.2 ++ [(Sum.inr (pOp (K i)) : xTok)]) ++ (pL K Q b k (Q (i + 1)).2.1).2.2 = (Q (i + 1)).2.2 ++ (Sum.inr (pOp (K i)) : xTok) :: (pL K Q b k (Q (i + 1)).2.1).2.2 by rw [List.append_assoc]; rfl] at cB
          exact cB
      · rw [if_neg z, if_pos rfl, if_neg z, if_neg z]
        exact ⟨m1, rfl, nx2.trans g2.1, fun u => absurd u z, g2.2.2⟩
    · rw [if_neg (fun u => w (hjb.mp u)), if_neg w]
      exact ⟨m, rfl, pfr.refl m, fun _ => ⟨h, fun _ _ => rfl, fun j t ht => by cases ht⟩, fun u => absurd rfl u⟩
theorem s_B (hK : ∀ i, i ≤ N → (K i = 0 ↔ i = N)) {rj : Int32 → Int32 → xMem → Option (Int32 × xMem)} {Q : Nat → xPR} {b d : Nat} (hb : b ≤ 2) (hQ : cSim K V Pl N (rj (Int32.ofNat (b + 1)) (Int32.ofNat d)) Q) (hQg : ∀ i, i ≤ N → prG N i (Q i)) : cSim K V Pl N (F_X5_parseJoinedB rj (Int32.ofNat b) (Int32.ofNat d)) (pQ K Q b (if b = 1 then 1 else 600)) := by
  intro m i s h
  have d10 : ¬ ((1 : Int32) = 0) := by decide
  have q : Int32.ofNat b ≤ 2 := (o_le (b := 2) (by omega) (by omega)).mpr hb
  have e1 : (Int32.ofNat b = 1) ↔ b = 1 := o_eq (b := 1) (by omega) (by omega)
  obtain ⟨m1, g1, g2⟩ := hQ m i s h
  unfold F_X5_parseJoinedB pQ
  rw [if_pos q, o_succ, g1, Option.bind_some]
  dsimp only
  by_cases z : (Q i).1 = 0
  · obtain ⟨p1, c1, d1⟩ := g2.2.1 z
    rw [if_pos z, if_neg d10, if_pos z]
    have go : ∀ most, most ≤ 600 → ∃ m', L_X5_parseJoinedB_40 rj (Int32.ofNat b) (Int32.ofNat d) (Int32.ofNat most) xfuel 0 m1 = some (if (pL K Q b most (Q i).2.1).1 = 0 then 1 else 0, m') ∧ cR K V Pl N m m' s ((pL K Q b most (Q i).2.1).1, (pL K Q b most (Q i).2.1).2.1, (Q i).2.2 ++ (pL K Q b most (Q i).2.1).2.2) := by
      intro most hm
      obtain ⟨m2, t1, t2⟩ := s_loop hK hb hQ hQg hm most 0 xfuel m1 (Q i).2.1 (s + (Q i).2.2.length) (by omega) (by rw [xfuel_eq]; omega) p1
      exact ⟨m2, t1, g2.seq z t2⟩
    unfold J_X5_parseJoinedB_36
    by_cases w : b = 1
    · rw [if_pos (e1.mpr w), if_pos w]
      exact go 1 (by omega)
    · rw [if_neg (fun u => w (e1.mp u)), if_neg w]
      exact go 600 (by omega)
  · rw [if_neg z, if_pos rfl, if_neg z, if_neg z]
    exact ⟨m1, rfl, g2⟩
theorem s_P3 {rj : Int32 → Int32 → xMem → Option (Int32 × xMem)} {P : Nat → xPR} {d : Nat} (h : cSim K V Pl N (F_X5_parsePart rj (Int32.ofNat d)) P) : cSim K V Pl N (F_X5_parseJoinedB rj 3 (Int32.ofNat d)) P := by
  intro m i s hp
  obtain ⟨m', g1, g2⟩ := h m i s hp
  refine ⟨m', ?_, g2⟩
  unfold F_X5_parseJoinedB
  rw [if_neg (by decide), g1, Option.bind_some]
  dsimp only
  rw [if_pos]
  split <;> decide
theorem s_J (hK : ∀ i, i ≤ N → (K i = 0 ↔ i = N)) (hV : ∀ i, 0 ≤ V i) : ∀ (f d : Nat), d ≤ 5 → 6 ≤ d + f → cSim K V Pl N (F_X5_parseJoined (4 * f) 0 (Int32.ofNat d)) (pE K V f d)
  | 0, d, h1, h2 => by omega
  | f + 1, d, h1, h2 => by
    have ih : d < 5 → cSim K V Pl N (F_X5_parseJoined (4 * f) 0 (Int32.ofNat (d + 1))) (pE K V f (d + 1)) := fun w => s_J hK hV f (d + 1) (by omega) (by omega)
    have gE := fun d i (hi : i ≤ N) => pE_g (N := N) hK hV f d i hi
    have a3 : cSim K V Pl N (F_X5_parseJoined (4 * f + 1) (Int32.ofNat 3) (Int32.ofNat d)) (pP K V (pE K V f) d) := s_P3 (s_part hK h1 ih)
    have g3 := fun i (hi : i ≤ N) => pP_g hK hV gE d i hi
    have a2 : cSim K V Pl N (F_X5_parseJoined (4 * f + 2) (Int32.ofNat 2) (Int32.ofNat d)) _ := s_B hK (by omega) a3 g3
    have g2 := fun i (hi : i ≤ N) => pQ_g hK g3 (b := 2) (by decide) 600 i hi
    have a1 : cSim K V Pl N (F_X5_parseJoined (4 * f + 3) (Int32.ofNat 1) (Int32.ofNat d)) _ := s_B hK (by omega) a2 g2
    have g1 := fun i (hi : i ≤ N) => pQ_g hK g2 (b := 1) (by decide) 1 i hi
    have a0 : cSim K V Pl N (F_X5_parseJoined (4 * f + 4) (Int32.ofNat 0) (Int32.ofNat d)) _ := s_B hK (by omega) a1 g1
    exact a0
end PQ
