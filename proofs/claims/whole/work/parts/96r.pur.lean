section PU
theorem tkW_app : ∀ (a b : List xTok) (d e f : Nat), tkW a d e → tkW b e f → tkW (a ++ b) d f
  | [], b, d, e, f, h1, h2 => by
    have : d = e := h1
    rw [this]
    exact h2
  | .inl x :: a, b, d, e, f, h1, h2 => ⟨h1.1, tkW_app a b (d + 1) e f h1.2 h2⟩
  | .inr x :: a, b, d, e, f, h1, h2 => ⟨h1.1, tkW_app a b (d - 1) e f h1.2 h2⟩
section PV
variable {K : Nat → Nat} {V : Nat → Int32} {N : Nat}
/-- a result's code goes from y to y + 1, for y up to B -/
def pW (B : Nat) (r : xPR) : Prop := r.1 = 0 → ∀ y, y ≤ B → tkW r.2.2 y (y + 1)
theorem pP_w {E : Nat → Nat → xPR} (hE : ∀ d i, pW (3 * d) (E d i)) (d i : Nat) : pW (3 * d + 3) (pP K V E d i) := by
  unfold pP
  split
  · split
    · exact fun h => absurd (show (5 : Nat) = 0 from h) (by decide)
    · rename_i hd
      split
      · split
        · rename_i z
          split
          · exact fun _ y hy => hE (d + 1) (i + 1) z y (by omega)
          · exact fun h => absurd (show (1 : Nat) = 0 from h) (by decide)
        · exact fun h y hy => hE (d + 1) (i + 1) h y (by omega)
      · intro _ y hy
        show tkW [pTk K V i] y (y + 1)
        unfold pTk
        split
        · exact ⟨by omega, rfl⟩
        · exact ⟨by omega, rfl⟩
  · exact fun h => absurd (show (1 : Nat) = 0 from h) (by decide)
theorem pL_w {Q : Nat → xPR} {B : Nat} (hQ : ∀ i, pW B (Q i)) (b : Nat) : ∀ n i, (pL K Q b n i).1 = 0 → ∀ y, y + 1 ≤ B → tkW (pL K Q b n i).2.2 (y + 1) (y + 1)
  | 0, i => fun _ y _ => rfl
  | n + 1, i => by
    unfold pL
    split
    · split
      · rename_i z
        intro h y hy
        show tkW ((Q (i + 1)).2.2 ++ .inr (pOp (K i)) :: (pL K Q b n (Q (i + 1)).2.1).2.2) (y + 1) (y + 1)
        refine tkW_app _ _ _ (y + 2) _ (hQ (i + 1) z (y + 1) hy) ⟨by omega, ?_⟩
        exact pL_w hQ b n _ h y hy
      · rename_i z
        exact fun h => absurd h z
    · exact fun _ y _ => rfl
theorem pQ_w {Q : Nat → xPR} {B : Nat} (hQ : ∀ i, pW (B + 1) (Q i)) (b n i : Nat) : pW B (pQ K Q b n i) := by
  unfold pQ
  split
  · rename_i z
    intro h y hy
    exact tkW_app _ _ _ (y + 1) _ (hQ i z y (by omega)) (pL_w hQ b n _ h y (by omega))
  · rename_i z
    exact fun h => absurd h z
theorem pE_w : ∀ f d i, pW (3 * d) (pE K V f d i)
  | 0, d, i => fun h => absurd (show (5 : Nat) = 0 from h) (by decide)
  | f + 1, d, i => by
    show pW (3 * d) (pB K V (pE K V f) d 0 i)
    unfold pB
    rw [if_pos rfl]
    exact pQ_w (pQ_w (pQ_w (pP_w (pE_w f) d) 2 600) 1 1) 0 600 i
theorem pLn_w (hK : ∀ i, i ≤ N → (K i = 0 ↔ i = N)) (hV : ∀ i, 0 ≤ V i) (n i : Nat) (hi : i ≤ N) (h : (pLn K V n i).1 = 0) : (pLn K V n i).2.2.1 ≤ 5 ∧ tkW (pLn K V n i).2.2.2 0 1 ∧ ∀ t ∈ (pLn K V n i).2.2.2, tkG t := by
  revert h
  unfold pLn
  split
  · have h1 : i < N := at_lt hK hi (by omega)
    split
    · exact fun h => absurd (show (5 : Nat) = 0 from h) (by decide)
    · split
      · have h2 : i + 1 < N := at_lt hK h1 (by omega)
        split
        · rename_i w5
          split
          · have h3 : i + 2 < N := at_lt hK h2 (by omega)
            have g := (pE_g (N := N) hK hV 10 0 (i + 3) h3)
            split
            · rename_i z
              split
              · intro _
                obtain ⟨vs, hvs, hve⟩ := g_ixl (n := 5) ⟨hV (i + 1), w5⟩ (by decide)
                have nvs : (V (i + 1)).toNatClampNeg = vs := by rw [hve]; exact o_nat (by omega)
                refine ⟨by show (V (i + 1)).toNatClampNeg ≤ 5; omega, pE_w 10 0 (i + 3) z 0 (Nat.zero_le _), (g.2 z).2.2⟩
              · exact fun h => absurd (show (1 : Nat) = 0 from h) (by decide)
            · rename_i z
              exact fun h => absurd h z
          · exact fun h => absurd (show (1 : Nat) = 0 from h) (by decide)
        · exact fun h => absurd (show (4 : Nat) = 0 from h) (by decide)
      · exact fun h => absurd (show (1 : Nat) = 0 from h) (by decide)
  · exact fun h => absurd (show (1 : Nat) = 0 from h) (by decide)
theorem pTx_w (hK : ∀ i, i ≤ N → (K i = 0 ↔ i = N)) (hV : ∀ i, 0 ≤ V i) : ∀ (k n i : Nat), i ≤ N → (pTx K V k n i).1 = 0 → ∀ l ∈ (pTx K V k n i).2.2, l.1 ≤ 5 ∧ tkW l.2 0 1 ∧ ∀ t ∈ l.2, tkG t
  | 0, n, i, _ => fun _ l hl => by cases hl
  | k + 1, n, i, hi => by
    unfold pTx
    split
    · exact fun _ l hl => by cases hl
    · split
      · rename_i z
        intro h l hl
        rcases List.mem_cons.mp hl with u | u
        · rw [u]
          exact pLn_w hK hV n i hi z
        · exact pTx_w hK hV k (n + 1) _ (pLn_g hK hV n i hi) h l u
      · rename_i z
        exact fun h => absurd h z
end PV
section PX
variable {c : Nat → Nat} {tp : Nat}
theorem tokA_g {a : Nat} (ha : a < tp) : (tokA c tp a).1.1 ≤ tp ∧ (tokA c tp a).1.2.1 ≠ 0 ∧ (tokA c tp a).1.2.1 ≤ 209 ∧ 0 ≤ (tokA c tp a).1.2.2 := by
  unfold tokA
  split
  · refine ⟨by dsimp only; omega, ?_, ?_, Int32.le_refl 0⟩
    · show wcd _ ≠ 0
      rcases wcd_c (wl c (rend (isl c) (tp - a) a - a) a) with ⟨u, -⟩ | ⟨w, u1, u2, -⟩ <;> omega
    · show wcd _ ≤ 209
      rcases wcd_c (wl c (rend (isl c) (tp - a) a - a) a) with ⟨u, -⟩ | ⟨w, u1, u2, -⟩ <;> omega
  · split
    · split
      · rename_i w
        refine ⟨by dsimp only; omega, by show (2 : Nat) ≠ 0; decide, by show 2 ≤ 209; decide, ?_⟩
        show 0 ≤ Int32.ofNat (nmb c (rend (isd c) (tp - a) a - a) a 0)
        have hr := rend_le (p := isd c) (tp - a) a
        have := nmb_rg (c := c) (rend (isd c) (tp - a) a - a) a 0 (fun j h1 h2 => by
          have := rend_in (p := isd c) (tp - a) a j h1 (by omega)
          unfold isd at this
          have := of_decide_eq_true this
          omega)
        have h10 : 10 ^ (rend (isd c) (tp - a) a - a) ≤ 10 ^ 4 := Nat.pow_le_pow_right (by decide) w
        rw [o_zero, o_le (by omega) (by omega)]
        omega
      · exact ⟨by dsimp only; omega, by show (1 : Nat) ≠ 0; decide, by show 1 ≤ 209; decide, Int32.le_refl 0⟩
    · refine ⟨by dsimp only; omega, ?_, ?_, Int32.le_refl 0⟩
      · show (if c a = 40 ∨ c a = 41 ∨ c a = 43 ∨ c a = 45 ∨ c a = 59 ∨ c a = 60 ∨ c a = 61 then c a else 1) ≠ 0
        split <;> omega
      · show (if c a = 40 ∨ c a = 41 ∨ c a = 43 ∨ c a = 45 ∨ c a = 59 ∨ c a = 60 ∨ c a = 61 then c a else 1) ≤ 209
        split <;> omega
theorem tkl_g : ∀ (n a : Nat), ∀ t ∈ tkl c tp n a, t.1 ≤ tp ∧ t.2.1 ≠ 0 ∧ t.2.1 ≤ 209 ∧ 0 ≤ t.2.2
  | 0, a, t, h => by cases h
  | n + 1, a, t, h => by
    unfold tkl at h
    split at h
    · cases h
    · rename_i w
      split at h
      · exact tkl_g n _ t h
      · rcases List.mem_cons.mp h with u | u
        · rw [u]
          exact tokA_g (by omega)
        · exact tkl_g n _ t u
/-- the tokens as functions -/
theorem tk_fun (h6 : tp ≤ 600) : ∃ (K : Nat → Nat) (V : Nat → Int32) (Pl : Nat → Nat), (∀ i, i ≤ (tkl c tp tp 0).length → (K i = 0 ↔ i = (tkl c tp tp 0).length)) ∧ (∀ i, 0 ≤ V i) ∧ (∀ i, i ≤ (tkl c tp tp 0).length → K i ≤ 209) ∧ (∀ i, i ≤ (tkl c tp tp 0).length → Pl i ≤ 600) ∧ ∀ i, i ≤ (tkl c tp tp 0).length → (tkl c tp tp 0 ++ [(tp, 0, 0)])[i]? = some (Pl i, K i, V i) := by
  have G : ∀ i (t : xTk), (tkl c tp tp 0 ++ [(tp, 0, 0)])[i]? = some t → t.1 ≤ 600 ∧ t.2.1 ≤ 209 ∧ 0 ≤ t.2.2 ∧ (t.2.1 = 0 ↔ i = (tkl c tp tp 0).length) := by
    intro i t h
    rcases sn_g h with ⟨u1, u2⟩ | ⟨u1, u2⟩
    · have hm : t ∈ tkl c tp tp 0 := List.mem_of_getElem? u2
      obtain ⟨g1, g2, g3, g4⟩ := tkl_g tp 0 t hm
      exact ⟨by omega, g3, g4, ⟨fun q => absurd q g2, fun q => by omega⟩⟩
    · rw [u2]
      exact ⟨h6, by show 0 ≤ 209; decide, Int32.le_refl 0, ⟨fun _ => u1, fun _ => rfl⟩⟩
  have hs : ∀ i, i ≤ (tkl c tp tp 0).length → ∃ t, (tkl c tp tp 0 ++ [(tp, 0, 0)])[i]? = some t := by
    intro i hi
    exact ⟨_, List.getElem?_eq_getElem (by rw [List.length_append, List.length_singleton]; omega)⟩
  refine ⟨fun i => (((tkl c tp tp 0 ++ [(tp, 0, 0)])[i]?).getD (0, 0, 0)).2.1, fun i => (((tkl c tp tp 0 ++ [(tp, 0, 0)])[i]?).getD (0, 0, 0)).2.2, fun i => (((tkl c tp tp 0 ++ [(tp, 0, 0)])[i]?).getD (0, 0, 0)).1, fun i hi => ?_, fun i => ?_, fun i hi => ?_, fun i hi => ?_, fun i hi => ?_⟩
  · obtain ⟨t, ht⟩ := hs i hi
    have := (G i t ht).2.2.2
    dsimp only
    rw [ht]
    exact this
  · cases ht : (tkl c tp tp 0 ++ [(tp, 0, 0)])[i]? with
    | none => dsimp only; rw [ht]; exact Int32.le_refl 0
    | some t => dsimp only; rw [ht]; exact (G i t ht).2.2.1
  · obtain ⟨t, ht⟩ := hs i hi
    have := (G i t ht).2.1
    dsimp only
    rw [ht]
    exact this
  · obtain ⟨t, ht⟩ := hs i hi
    have := (G i t ht).1
    dsimp only
    rw [ht]
    exact this
  · obtain ⟨t, ht⟩ := hs i hi
    dsimp only
    rw [ht]
    rfl
end PX
end PU
