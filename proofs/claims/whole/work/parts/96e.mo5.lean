section MX
variable {K : Nat → Nat} {V : Nat → Int32} {Pl : Nat → Nat} {N h : Nat}
/-- a sum -/
theorem s_mS (hK : ∀ i, i ≤ N → (K i = 0 ↔ i = N)) (hK9 : ∀ i, i ≤ N → K i ≤ 209) {d : Nat} {P : Nat → xPR} (hPg : ∀ i, i ≤ N → prG N i (P i)) (sP : mSim K V Pl N h d 1990 BH P (fun _ _ _ => True)) : mSim K V Pl N h d 1989 B43 (pQ K P 2 600) (fun s _ _ => s = 0) := by
  intro C m fk i c sw gw aw hs S hfk
  subst hs
  have hi := S.1.2.2.2
  have hN := S.1.1.1
  have r := sP C m fk i c 0 gw aw trivial S hfk
  have g := hPg i hi
  unfold pQ
  by_cases z : (P i).1 = 0
  · rw [if_pos z]
    obtain ⟨fk1, fk2, m1, e1, e2, e3, S1, f1, cd1⟩ := r.1 z
    obtain ⟨g1, g2, g3⟩ := g.2 z
    obtain ⟨k2, rfl⟩ : ∃ k, fk2 = k + 1 := ⟨fk2 - 1, by omega⟩
    have e4 : L_X10_line_185 C fk 1 m = B43 C fk1 k2 m1 := e1.trans (bh_0 S1)
    have lp := gl (V := V) (Pl := Pl) (h := h) hK hK9 (d := d) (b := 2) (w := 98) (e := 1990) (by omega) (by omega) (by omega) (X := B43) (Y := BH) hPg (s0 := 0) (g0 := gw) (a0 := aw) (by rw [if_pos rfl]) (Wt := fun _ _ _ => True) (fun _ => trivial) (fun C fk fk2 m i c S h2 hk => b43_s S h2 hk) sP (fun C fk fk2 m i c x q1 q2 _ S => by
      rw [if_pos rfl, if_neg (by decide), if_neg (by decide)] at S
      obtain ⟨k, rfl⟩ : ∃ k, fk2 = k + 1 := ⟨fk2 - 1, by omega⟩
      exact ⟨k, by omega, bh_1 q2 S⟩) C 600 m1 (P i).2.1 (c + (P i).2.2.length) fk1 k2 S1 (by omega) (by omega) (by omega)
    refine ⟨fun v => ?_, fun v => ?_⟩
    · obtain ⟨fk5, fk6, m4, k1, k2, k3, S4, f4, cd4⟩ := lp.1 v
      refine ⟨fk5, fk6, m4, e4.trans k1, by show fk + i ≤ fk5 + (pL K P 2 600 (P i).2.1).2.1; omega, k3, ?_, f1.trans f4 (Nat.le_refl _) (by omega), cd1.app f4 cd4⟩
      show mS K V Pl N h m4 (pL K P 2 600 (P i).2.1).2.1 (c + ((P i).2.2 ++ (pL K P 2 600 (P i).2.1).2.2).length) d 0 gw aw
      rw [List.length_append, ← Nat.add_assoc]
      exact S4
    · obtain ⟨m4, k1, k2, f4⟩ := lp.2 v
      exact ⟨m4, e4.trans k1, k2, f1.trans f4 (Nat.le_refl _) (by omega)⟩
  · rw [if_neg z]
    exact ⟨fun v => absurd v z, fun v => r.2 v⟩
theorem pQ_end (hK : ∀ i, i ≤ N → (K i = 0 ↔ i = N)) (hN : N ≤ 600) {Q : Nat → xPR} (hQ : ∀ i, i ≤ N → prG N i (Q i)) {b : Nat} (hb : b ≤ 2) {i : Nat} (hi : i ≤ N) (h0 : (pQ K Q b 600 i).1 = 0) : pJn (K (pQ K Q b 600 i).2.1) ≠ b := by
  unfold pQ at h0 ⊢
  by_cases z : (Q i).1 = 0
  · rw [if_pos z] at h0 ⊢
    exact pL_end hK hQ hb 600 (Q i).2.1 (hQ i hi).1 (by have := ((hQ i hi).2 z).1; omega) h0
  · rw [if_neg z] at h0
    exact absurd h0 z
/-- a comparison -/
theorem s_mC (hK : ∀ i, i ≤ N → (K i = 0 ↔ i = N)) (hK9 : ∀ i, i ≤ N → K i ≤ 209) {d : Nat} {P : Nat → xPR} (hPg : ∀ i, i ≤ N → prG N i (P i)) (hPe : ∀ i, i ≤ N → (P i).1 = 0 → pJn (K (P i).2.1) ≠ 2) (sP : mSim K V Pl N h d 1989 B43 P (fun s _ _ => s = 0)) : mSim K V Pl N h d 1989 B189 (pQ K P 1 1) (fun s g _ => s = 0 ∧ g = 0) := by
  intro C m fk i c sw gw aw hs S hfk
  obtain ⟨rfl, rfl⟩ := hs
  have hi := S.1.2.2.2
  have hci := S.2.2.1
  have r := sP C m fk i c 0 0 aw rfl S hfk
  have g := hPg i hi
  unfold pQ
  by_cases z : (P i).1 = 0
  · rw [if_pos z]
    obtain ⟨fk1, fk2, m1, e1, e2, e3, S1, f1, cd1⟩ := r.1 z
    obtain ⟨g1, g2, g3⟩ := g.2 z
    have hj := g.1
    have n2 := hPe i hi z
    have epl : pL K P 1 1 (P i).2.1 = if pJn (K (P i).2.1) = 1 then (if (P ((P i).2.1 + 1)).1 = 0 then (0, (P ((P i).2.1 + 1)).2.1, (P ((P i).2.1 + 1)).2.2 ++ .inr (pOp (K (P i).2.1)) :: []) else P ((P i).2.1 + 1)) else (0, (P i).2.1, []) := rfl
    by_cases u : pJn (K (P i).2.1) = 1
    · rw [if_pos u] at epl
      have hjN : (P i).2.1 < N := at_lt hK hj (fun v => by rw [v] at u; have : pJn 0 = 9 := rfl; omega)
      obtain ⟨x, hx⟩ : ∃ x, x = tkO (.inr (pOp (K (P i).2.1))) := ⟨_, rfl⟩
      have hx0 : x ≠ 0 := by rw [hx]; exact tkO_r ⟨pOp (K (P i).2.1), pOp_5 _⟩
      have j1 := b43_c (C := C) (fk := fk1) (fk2 := fk2) S1 u (hK9 _ hj)
      rw [← hx] at j1
      obtain ⟨S2, f2⟩ := m_jo S1 hjN (w := 99) (by omega) x
      rw [if_neg (by decide), if_pos rfl, if_neg (by decide)] at S2
      have r2 := sP C _ fk1 ((P i).2.1 + 1) (c + (P i).2.2.length) 0 x aw rfl S2 (by omega)
      have g' := hPg ((P i).2.1 + 1) (by omega)
      generalize hR : P ((P i).2.1 + 1) = R at *
      rw [epl]
      by_cases y : R.1 = 0
      · rw [if_pos y]
        obtain ⟨fk3, fk4, m3, k1, k2, k3, S3, f3, cd3⟩ := r2.1 y
        obtain ⟨g4, g5, g6⟩ := g'.2 y
        have n2' : pJn (K R.2.1) ≠ 2 := by have := hPe ((P i).2.1 + 1) (by omega); rw [hR] at this; exact this y
        have k4 := b43_1 (C := C) (fk := fk3) (fk2 := fk4) hx0 S3 n2'
        obtain ⟨S4, f4, cd4⟩ := m_wr S3 (by omega) (w := 99) (by omega) x
        rw [if_neg (by decide), if_pos rfl, if_neg (by decide)] at S4
        have f1234 : mfr h d c m _ := ((f1.trans f2 (Nat.le_refl _) (by omega)).trans f3 (Nat.le_refl _) (by omega)).trans f4 (Nat.le_refl _) (by omega)
        refine ⟨fun _ => ⟨fk3, fk4, _, e1.trans (j1.trans (k1.trans k4)), by show fk + i ≤ fk3 + R.2.1; omega, k3, ?_, f1234, ?_⟩, fun v => absurd rfl v⟩
        · show mS K V Pl N h _ R.2.1 (c + ((P i).2.2 ++ (R.2.2 ++ [(Sum.inr (pOp (K (P i).2.1)) : xTok)])).length) d 0 0 aw
          rw [List.length_append, List.length_append, List.length_singleton, show c + ((P i).2.2.length + (R.2.2.length + 1)) = c + (P i).2.2.length + R.2.2.length + 1 by omega]
          exact S4
        · show mCd h _ c ((P i).2.2 ++ (R.2.2 ++ [(Sum.inr (pOp (K (P i).2.1)) : xTok)]))
          have cA := cd3.app f4 (cd4 (.inr (pOp (K (P i).2.1))) hx.symm rfl)
          exact cd1.app ((f2.trans f3 (Nat.le_refl _) (Nat.le_refl _)).trans f4 (Nat.le_refl _) (by omega)) cA
      · rw [if_neg y]
        refine ⟨fun v => absurd v y, fun _ => ?_⟩
        obtain ⟨m3, k1, k2, f3⟩ := r2.2 y
        exact ⟨m3, e1.trans (j1.trans k1), k2, (f1.trans f2 (Nat.le_refl _) (by omega)).trans f3 (Nat.le_refl _) (by omega)⟩
    · rw [if_neg u] at epl
      rw [epl, List.append_nil]
      exact ⟨fun _ => ⟨fk1, fk2, m1, e1.trans (b43_0 S1 n2 u), e2, e3, S1, f1, cd1⟩, fun v => absurd rfl v⟩
  · rw [if_neg z]
    exact ⟨fun v => absurd v z, fun v => r.2 v⟩
/-- an E -/
theorem s_mA (hK : ∀ i, i ≤ N → (K i = 0 ↔ i = N)) (hK9 : ∀ i, i ≤ N → K i ≤ 209) {d : Nat} {P : Nat → xPR} (hPg : ∀ i, i ≤ N → prG N i (P i)) (sP : mSim K V Pl N h d 1989 B189 P (fun s g _ => s = 0 ∧ g = 0)) : mSim K V Pl N h d 1989 B218 (pQ K P 0 600) (fun s g a => s = 0 ∧ g = 0 ∧ a = 0) := by
  intro C m fk i c sw gw aw hs S hfk
  obtain ⟨rfl, rfl, rfl⟩ := hs
  have hi := S.1.2.2.2
  have hN := S.1.1.1
  have r := sP C m fk i c 0 0 0 ⟨rfl, rfl⟩ S hfk
  have g := hPg i hi
  unfold pQ
  by_cases z : (P i).1 = 0
  · rw [if_pos z]
    obtain ⟨fk1, fk2, m1, e1, e2, e3, S1, f1, cd1⟩ := r.1 z
    obtain ⟨g1, g2, g3⟩ := g.2 z
    have e4 : L_X10_line_185 C fk 1 m = B218 C fk1 fk2 m1 := e1.trans (b189_0 S1)
    have lp := gl (V := V) (Pl := Pl) (h := h) hK hK9 (d := d) (b := 0) (w := 100) (e := 1989) (by omega) (by omega) (by omega) (X := B218) (Y := B189) hPg (s0 := 0) (g0 := 0) (a0 := 0) (by rw [if_neg (by decide), if_neg (by decide)]) (Wt := fun s g _ => s = 0 ∧ g = 0) (fun x => by rw [if_neg (by decide), if_neg (by decide)]; exact ⟨rfl, rfl⟩) (fun C fk fk2 m i c S h0 hk => by
      rw [jn_0.mp h0]
      exact b218_a S h0) sP (fun C fk fk2 m i c x q1 q2 q3 S => by
      rw [if_neg (by decide), if_neg (by decide), if_pos rfl] at S
      obtain ⟨k, k1, k2⟩ := q3
      have x7 : x = 7 := by rw [k2, jn_0.mp k1]; rfl
      refine ⟨fk2, q1, ?_⟩
      rw [x7]
      exact b189_1 q2 S) C 600 m1 (P i).2.1 (c + (P i).2.2.length) fk1 fk2 S1 (by omega) (by omega) e3
    refine ⟨fun v => ?_, fun v => ?_⟩
    · obtain ⟨fk5, fk6, m4, k1, k2, k3, S4, f4, cd4⟩ := lp.1 v
      refine ⟨fk5, fk6, m4, e4.trans k1, by show fk + i ≤ fk5 + (pL K P 0 600 (P i).2.1).2.1; omega, k3, ?_, f1.trans f4 (Nat.le_refl _) (by omega), cd1.app f4 cd4⟩
      show mS K V Pl N h m4 (pL K P 0 600 (P i).2.1).2.1 (c + ((P i).2.2 ++ (pL K P 0 600 (P i).2.1).2.2).length) d 0 0 0
      rw [List.length_append, ← Nat.add_assoc]
      exact S4
    · obtain ⟨m4, k1, k2, f4⟩ := lp.2 v
      exact ⟨m4, e4.trans k1, k2, f1.trans f4 (Nat.le_refl _) (by omega)⟩
  · rw [if_neg z]
    exact ⟨fun v => absurd v z, fun v => r.2 v⟩
theorem s_mE (hK : ∀ i, i ≤ N → (K i = 0 ↔ i = N)) (hK9 : ∀ i, i ≤ N → K i ≤ 209) (hV : ∀ i, 0 ≤ V i) (hN : N ≤ 600) : ∀ (f d : Nat), d ≤ 5 → 6 ≤ d + f → mSim K V Pl N h d 1989 B218 (pE K V f d) (fun s g a => s = 0 ∧ g = 0 ∧ a = 0) ∧ ∀ i, i ≤ N → (pE K V f d i).1 = 0 → K (pE K V f d i).2.1 ≠ 203
  | 0, d, h1, h2 => by omega
  | f + 1, d, h1, h2 => by
    have ih : d < 5 → _ := fun w => s_mE hK hK9 hV hN f (d + 1) (by omega) (by omega)
    have gE := fun d i (hi : i ≤ N) => pE_g (N := N) hK hV f d i hi
    have g3 := fun i (hi : i ≤ N) => pP_g hK hV gE d i hi
    have g2 := fun i (hi : i ≤ N) => pQ_g hK g3 (b := 2) (by decide) 600 i hi
    have g1 := fun i (hi : i ≤ N) => pQ_g hK g2 (b := 1) (by decide) 1 i hi
    have a3 : mSim K V Pl N h d 1990 BH (pP K V (pE K V f) d) (fun _ _ _ => True) := by
      by_cases w : d < 5
      · exact s_mP hK (fun i hi => gE (d + 1) i hi) (ih w).2 (fun _ => (ih w).1)
      · -- at depth 5 no part is entered
        intro C m fk i c sw gw aw _ S hfk
        have e : ∀ i, pP K V (pE K V f) d i = pP K V (fun _ i => (5, i, [])) d i := fun i => by
          unfold pP
          split
          · rw [if_pos (show 5 ≤ d by omega), if_pos (show 5 ≤ d by omega)]
          · rfl
        rw [e]
        exact s_mP (E := fun _ i => (5, i, [])) hK (fun i hi => ⟨hi, fun u => absurd (show (5 : Nat) = 0 from u) (by decide)⟩) (fun i hi u => absurd (show (5 : Nat) = 0 from u) (by decide)) (fun v => absurd v w) C m fk i c sw gw aw trivial S hfk
    have a2 := s_mS hK hK9 g3 a3
    have a1 := s_mC hK hK9 g2 (fun i hi h0 => pQ_end hK hN g3 (by decide) hi h0) a2
    have a0 := s_mA hK hK9 g1 a1
    exact ⟨a0, fun i hi h0 u => pQ_end hK hN g1 (b := 0) (by decide) hi h0 (jn_0.mpr u)⟩
end MX
