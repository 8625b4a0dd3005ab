section MW
variable {K : Nat → Nat} {V : Nat → Int32} {Pl : Nat → Nat} {N h : Nat}
theorem tkA_r (k : Nat) : tkA (.inr k) = 0 := rfl
theorem tkO_r : ∀ k : Fin 5, tkO (.inr k.1) ≠ 0 := by decide +kernel
theorem pOp_5 (k : Nat) : pOp k < 5 := by
  unfold pOp
  repeat' split
  all_goals omega
/-- going on joining, at X, over row w -/
theorem gl (hK : ∀ i, i ≤ N → (K i = 0 ↔ i = N)) (hK9 : ∀ i, i ≤ N → K i ≤ 209) {d b w e : Nat} (hb : b ≤ 2) (hw : 98 ≤ w ∧ w ≤ 100) (he : 1989 ≤ e) {X Y : (xMem → Option (Int32 × xMem)) → Nat → Nat → xMem → Option (Int32 × xMem)} {Q : Nat → xPR} (hQg : ∀ i, i ≤ N → prG N i (Q i)) {s0 g0 a0 : Int32} (hz : (if w = 98 then s0 = 0 else if w = 99 then g0 = 0 else a0 = 0)) {Wt : Int32 → Int32 → Int32 → Prop} (hWt : ∀ x, Wt (if w = 98 then x else s0) (if w = 99 then x else g0) (if w = 100 then x else a0))
    (jo : ∀ C fk fk2 m i c, mS K V Pl N h m i c d s0 g0 a0 → pJn (K i) = b → K i ≤ 209 → X C fk fk2 m = L_X10_line_185 C fk 1 (xst (xst m.1 w d (tkO (.inr (pOp (K i))))) 87 7 (Int32.ofNat (i + 1)), m.2))
    (sQ : mSim K V Pl N h d e Y Q Wt)
    (cl : ∀ C fk fk2 m i c x, e + d ≤ fk2 → x ≠ 0 → (∃ k, pJn k = b ∧ x = tkO (.inr (pOp k))) → mS K V Pl N h m i c d (if w = 98 then x else s0) (if w = 99 then x else g0) (if w = 100 then x else a0) → ∃ fk3, 1989 + d ≤ fk3 ∧ Y C fk fk2 m = X C fk fk3 (xst (xst (xst (xst m.1 96 (660 * h + c) x) 97 (660 * h + c) 0) 87 17 (Int32.ofNat (c + 1))) w d 0, m.2)) (C : xMem → Option (Int32 × xMem)) : ∀ n m i c fk fk2, mS K V Pl N h m i c d s0 g0 a0 → N < i + n → N + 2 ≤ fk + i → 1989 + d ≤ fk2 →
    ((pL K Q b n i).1 = 0 → ∃ fk' fk3 m', X C fk fk2 m = X C fk' fk3 m' ∧ fk + i ≤ fk' + (pL K Q b n i).2.1 ∧ 1989 + d ≤ fk3 ∧ mS K V Pl N h m' (pL K Q b n i).2.1 (c + (pL K Q b n i).2.2.length) d s0 g0 a0 ∧ mfr h d c m m' ∧ mCd h m' c (pL K Q b n i).2.2) ∧
    ((pL K Q b n i).1 ≠ 0 → ∃ m', X C fk fk2 m = C m' ∧ mFt m' (Int32.ofNat ((pL K Q b n i).1 + 16 * Pl (pL K Q b n i).2.1)) ∧ mfr h d c m m')
  | 0, m, i, c, fk, fk2, S, hn, hfk, hfk2 => by have := S.1.2.2.2; omega
  | n + 1, m, i, c, fk, fk2, S, hn, hfk, hfk2 => by
    have hi := S.1.2.2.2
    have hci := S.2.2.1
    unfold pL
    by_cases u : pJn (K i) = b
    · have hiN : i < N := at_lt hK hi (fun v => by rw [v] at u; have : pJn 0 = 9 := rfl; omega)
      rw [if_pos u]
      obtain ⟨x, hx⟩ : ∃ x, x = tkO (.inr (pOp (K i))) := ⟨_, rfl⟩
      have hx0 : x ≠ 0 := by rw [hx]; exact tkO_r ⟨pOp (K i), pOp_5 _⟩
      have j1 := jo C fk fk2 m i c S u (hK9 i hi)
      rw [← hx] at j1
      obtain ⟨S1, f1⟩ := m_jo S hiN hw x
      have r1 := sQ C _ fk (i + 1) c _ _ _ (hWt x) S1 (by omega)
      have gQ := hQg (i + 1) (by omega)
      by_cases z : (Q (i + 1)).1 = 0
      · rw [if_pos z]
        obtain ⟨fk1, fk3, m2, e1, e2, e3, S2, f2, cd2⟩ := r1.1 z
        obtain ⟨g1, g2, g3⟩ := gQ.2 z
        obtain ⟨fk4, e4, e5⟩ := cl C fk1 fk3 m2 _ _ x e3 hx0 ⟨K i, u, hx⟩ S2
        obtain ⟨S3, f3, cd3⟩ := m_wr S2 (by omega) hw x
        have hz3 : mS K V Pl N h (xst (xst (xst (xst m2.1 96 (660 * h + (c + (Q (i + 1)).2.2.length)) x) 97 (660 * h + (c + (Q (i + 1)).2.2.length)) 0) 87 17 (Int32.ofNat (c + (Q (i + 1)).2.2.length + 1))) w d 0, m2.2) (Q (i + 1)).2.1 (c + (Q (i + 1)).2.2.length + 1) d s0 g0 a0 := by
          have w3 : w = 98 ∨ w = 99 ∨ w = 100 := by omega
          rcases w3 with v | v | v
          · rw [if_pos v] at hz
            rw [if_pos v, if_neg (show ¬ w = 99 by omega), if_neg (show ¬ w = 100 by omega), if_neg (show ¬ w = 99 by omega), if_neg (show ¬ w = 100 by omega)] at S3
            rw [hz]
            exact S3
          · rw [if_neg (show ¬ w = 98 by omega), if_pos v] at hz
            rw [if_neg (show ¬ w = 98 by omega), if_pos v, if_neg (show ¬ w = 100 by omega), if_neg (show ¬ w = 98 by omega), if_neg (show ¬ w = 100 by omega)] at S3
            rw [hz]
            exact S3
          · rw [if_neg (show ¬ w = 98 by omega), if_neg (show ¬ w = 99 by omega)] at hz
            rw [if_neg (show ¬ w = 98 by omega), if_neg (show ¬ w = 99 by omega), if_pos v, if_neg (show ¬ w = 98 by omega), if_neg (show ¬ w = 99 by omega)] at S3
            rw [hz]
            exact S3
        have ih := gl hK hK9 hb hw he hQg hz hWt jo sQ cl C n _ (Q (i + 1)).2.1 (c + (Q (i + 1)).2.2.length + 1) fk1 fk4 hz3 (by omega) (by omega) e4
        have hch : X C fk fk2 m = X C fk1 fk4 (xst (xst (xst (xst m2.1 96 (660 * h + (c + (Q (i + 1)).2.2.length)) x) 97 (660 * h + (c + (Q (i + 1)).2.2.length)) 0) 87 17 (Int32.ofNat (c + (Q (i + 1)).2.2.length + 1))) w d 0, m2.2) := j1.trans (e1.trans e5)
        generalize hm3 : (xst (xst (xst (xst m2.1 96 (660 * h + (c + (Q (i + 1)).2.2.length)) x) 97 (660 * h + (c + (Q (i + 1)).2.2.length)) 0) 87 17 (Int32.ofNat (c + (Q (i + 1)).2.2.length + 1))) w d 0, m2.2) = m3 at *
        have f123 : mfr h d c m m3 := (f1.trans f2 (Nat.le_refl _) (Nat.le_refl _)).trans f3 (Nat.le_refl _) (by omega)
        refine ⟨fun v => ?_, fun v => ?_⟩
        · obtain ⟨fk5, fk6, m4, k1, k2, k3, S4, f4, cd4⟩ := ih.1 v
          refine ⟨fk5, fk6, m4, hch.trans k1, by show fk + i ≤ fk5 + (pL K Q b n (Q (i + 1)).2.1).2.1; omega, k3, ?_, f123.trans f4 (Nat.le_refl _) (by omega), ?_⟩
          · show mS K V Pl N h m4 (pL K Q b n (Q (i + 1)).2.1).2.1 (c + ((Q (i + 1)).2.2 ++ .inr (pOp (K i)) :: (pL K Q b n (Q (i + 1)).2.1).2.2).length) d s0 g0 a0
            rw [List.length_append, List.length_cons, show c + ((Q (i + 1)).2.2.length + ((pL K Q b n (Q (i + 1)).2.1).2.2.length + 1)) = c + (Q (i + 1)).2.2.length + 1 + (pL K Q b n (Q (i + 1)).2.1).2.2.length by omega]
            exact S4
          · show mCd h m4 c ((Q (i + 1)).2.2 ++ .inr (pOp (K i)) :: (pL K Q b n (Q (i + 1)).2.1).2.2)
            have cA := cd2.app f3 (cd3 (.inr (pOp (K i))) hx.symm rfl)
            have cB := cA.app (b := (pL K Q b n (Q (i + 1)).2.1).2.2) (m' := m4) (d := d) (by rw [List.length_append, List.length_singleton, ← Nat.add_assoc]; exact f4) (by rw [List.length_append, List.length_singleton, ← Nat.add_assoc]; exact cd4)
            rw [List.append_assoc] at cB
            exact cB
        · obtain ⟨m4, k1, k2, f4⟩ := ih.2 v
          exact ⟨m4, hch.trans k1, k2, f123.trans f4 (Nat.le_refl _) (by omega)⟩
      · rw [if_neg z]
        refine ⟨fun v => absurd v z, fun _ => ?_⟩
        obtain ⟨m2, e1, e2, f2⟩ := r1.2 z
        exact ⟨m2, j1.trans e1, e2, f1.trans f2 (Nat.le_refl _) (Nat.le_refl _)⟩
    · rw [if_neg u]
      exact ⟨fun _ => ⟨fk, fk2, m, rfl, Nat.le_refl _, hfk2, S, mfr.refl m, fun j t ht => by cases ht⟩, fun v => absurd rfl v⟩
end MW
