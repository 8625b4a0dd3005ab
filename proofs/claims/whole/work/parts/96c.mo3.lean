section MV
variable {K : Nat → Nat} {V : Nat → Int32} {Pl : Nat → Nat} {N h : Nat}
theorem pL_end (hK : ∀ i, i ≤ N → (K i = 0 ↔ i = N)) {Q : Nat → xPR} (hQ : ∀ i, i ≤ N → prG N i (Q i)) {b : Nat} (hb : b ≤ 2) : ∀ n i, i ≤ N → N < i + n → (pL K Q b n i).1 = 0 → pJn (K (pL K Q b n i).2.1) ≠ b
  | 0, i, hi, hn, _ => by omega
  | n + 1, i, hi, hn, h0 => by
    unfold pL at h0 ⊢
    by_cases w : pJn (K i) = b
    · have hiN : i < N := at_lt hK hi (fun u => by rw [u] at w; have : pJn 0 = 9 := rfl; omega)
      rw [if_pos w] at h0 ⊢
      by_cases z : (Q (i + 1)).1 = 0
      · rw [if_pos z] at h0 ⊢
        have g := hQ (i + 1) (by omega)
        exact pL_end hK hQ hb n (Q (i + 1)).2.1 g.1 (by have := (g.2 z).1; omega) h0
      · rw [if_neg z] at h0
        exact absurd h0 z
    · rw [if_neg w]
      exact w
/-- what is written as a sign waits -/
theorem op_o : ∀ k : Fin 210, pJn k.1 = 2 → tkO (.inr (pOp k.1)) = (if k.1 = 43 then 3 else 4) := by decide +kernel
theorem op_o1 : ∀ k : Fin 210, pJn k.1 = 1 → tkO (.inr (pOp k.1)) = (if k.1 = 60 then 5 else 6) := by decide +kernel
theorem jn_2 {k : Nat} : pJn k = 2 ↔ (k = 43 ∨ k = 45) := by
  constructor
  · intro w
    unfold pJn at w
    repeat' split at w
    all_goals omega
  · intro w
    rcases w with e | e <;> subst e <;> rfl
theorem jn_1 {k : Nat} : pJn k = 1 ↔ (k = 60 ∨ k = 61) := by
  constructor
  · intro w
    unfold pJn at w
    repeat' split at w
    all_goals omega
  · intro w
    rcases w with e | e <;> subst e <;> rfl
theorem jn_0 {k : Nat} : pJn k = 0 ↔ k = 203 := by
  constructor
  · intro w
    unfold pJn at w
    repeat' split at w
    all_goals omega
  · intro w
    subst w
    rfl
/-- the top of the loop, nothing of a sum waiting -/
theorem bh_0 {C : xMem → Option (Int32 × xMem)} {m : xMem} {i c d fk fk2 : Nat} {gw aw : Int32} (S : mS K V Pl N h m i c d 0 gw aw) : BH C fk (fk2 + 1) m = B43 C fk fk2 m := by
  obtain ⟨A, hc, hci, hd, hd5, hn, hh, q1, q2, q3⟩ := id S
  have hf' : m.1 am fGuideBookModel_fault = 0 := A.2.1
  have hd' : m.1 am fGuideBookModel_deep = Int32.ofNat d := hd
  have i1 : xin (Int32.ofNat d) 7 = true := o_in (by omega) (by omega)
  have n1 : (Int32.ofNat d).toNatClampNeg = d := o_nat (by omega)
  have q1' : m.1 am_sumWaits d = 0 := q1
  unfold BH B43
  rw [L_X10_goesOnBehind_0, hf', if_pos rfl, hd', if_pos i1, n1, if_pos q1']
/-- a sign that waits, written: the cell, and nothing waiting in row w at d -/
theorem m_wr {m : xMem} {i c d w : Nat} {sw gw aw : Int32} (S : mS K V Pl N h m i c d sw gw aw) (hci : c + 1 ≤ i + 16) (hw : 98 ≤ w ∧ w ≤ 100) (x : Int32) : mS K V Pl N h (xst (xst (xst (xst m.1 96 (660 * h + c) x) 97 (660 * h + c) 0) 87 17 (Int32.ofNat (c + 1))) w d 0, m.2) i (c + 1) d (if w = 98 then 0 else sw) (if w = 99 then 0 else gw) (if w = 100 then 0 else aw) ∧ mfr h d c m (xst (xst (xst (xst m.1 96 (660 * h + c) x) 97 (660 * h + c) 0) 87 17 (Int32.ofNat (c + 1))) w d 0, m.2) ∧ (∀ t, tkO t = x → tkA t = 0 → mCd h (xst (xst (xst (xst m.1 96 (660 * h + c) x) 97 (660 * h + c) 0) 87 17 (Int32.ofNat (c + 1))) w d 0, m.2) c [t]) := by
  obtain ⟨A, hc, -, hd, hd5, hn, hh, q1, q2, q3⟩ := id S
  have hN := A.1.1
  have hiN := A.2.2.2
  obtain ⟨I, hI⟩ : ∃ I : xI, I = xst (xst (xst (xst m.1 96 (660 * h + c) x) 97 (660 * h + c) 0) 87 17 (Int32.ofNat (c + 1))) w d 0 := ⟨_, rfl⟩
  rw [← hI]
  have F : ∀ b j, ¬ (b = 87 ∧ j = 17) → ¬ ((b = 96 ∨ b = 97) ∧ j = 660 * h + c) → ¬ (b = w ∧ j = d) → I b j = m.1 b j := fun b j w1 w2 w3 => by
    rw [hI, xst_n w3, xst_n (by omega), xst_n (by omega), xst_n (by omega)]
  have f : mfr h d c m (I, m.2) := ⟨rfl, fun b j w1 w2 w3 => F b j (by omega) (by omega) (by omega)⟩
  have Iw : I w d = 0 := by rw [hI]; exact xst_s
  refine ⟨⟨⟨A.1.mv f, (F 87 8 (by omega) (by omega) (by omega)).trans A.2.1, (F 87 7 (by omega) (by omega) (by omega)).trans A.2.2.1, A.2.2.2⟩, ?_, hci, (F 87 18 (by omega) (by omega) (by omega)).trans hd, hd5, (F 87 16 (by omega) (by omega) (by omega)).trans hn, hh, ?_, ?_, ?_⟩, f, fun t ht1 ht2 j t' ht => ?_⟩
  · show I 87 17 = _
    rw [hI, xst_n (by omega)]; exact xst_s
  · show I 98 d = _
    by_cases e : w = 98
    · rw [if_pos e, ← e, Iw]
    · rw [if_neg e, F 98 d (by omega) (by omega) (by omega)]; exact q1
  · show I 99 d = _
    by_cases e : w = 99
    · rw [if_pos e, ← e, Iw]
    · rw [if_neg e, F 99 d (by omega) (by omega) (by omega)]; exact q2
  · show I 100 d = _
    by_cases e : w = 100
    · rw [if_pos e, ← e, Iw]
    · rw [if_neg e, F 100 d (by omega) (by omega) (by omega)]; exact q3
  · have : j = 0 ∧ t' = t := by
      cases j with
      | zero => exact ⟨rfl, by simpa using ht.symm⟩
      | succ j => simp at ht
    rw [this.1, this.2, Nat.add_zero, ht1, ht2]
    constructor
    · show I 96 _ = _
      rw [hI, xst_n (by omega), xst_n (by omega), xst_n (by omega)]; exact xst_s
    · show I 97 _ = _
      rw [hI, xst_n (by omega), xst_n (by omega)]; exact xst_s
/-- a joining token passed: x waits in row w at d -/
theorem m_jo {m : xMem} {i c d w : Nat} {sw gw aw : Int32} (S : mS K V Pl N h m i c d sw gw aw) (hi : i < N) (hw : 98 ≤ w ∧ w ≤ 100) (x : Int32) : mS K V Pl N h (xst (xst m.1 w d x) 87 7 (Int32.ofNat (i + 1)), m.2) (i + 1) c d (if w = 98 then x else sw) (if w = 99 then x else gw) (if w = 100 then x else aw) ∧ mfr h d c m (xst (xst m.1 w d x) 87 7 (Int32.ofNat (i + 1)), m.2) := by
  obtain ⟨A, hc, hci, hd, hd5, hn, hh, q1, q2, q3⟩ := id S
  obtain ⟨I, hI⟩ : ∃ I : xI, I = xst (xst m.1 w d x) 87 7 (Int32.ofNat (i + 1)) := ⟨_, rfl⟩
  rw [← hI]
  have F : ∀ b j, ¬ (b = 87 ∧ j = 7) → ¬ (b = w ∧ j = d) → I b j = m.1 b j := fun b j w1 w2 => by
    rw [hI, xst_n w1, xst_n w2]
  have f : mfr h d c m (I, m.2) := ⟨rfl, fun b j w1 w2 w3 => F b j (by omega) (by omega)⟩
  have Iw : I w d = x := by rw [hI, xst_n (by omega)]; exact xst_s
  refine ⟨⟨⟨A.1.mv f, (F 87 8 (by omega) (by omega)).trans A.2.1, ?_, by omega⟩, (F 87 17 (by omega) (by omega)).trans hc, by omega, (F 87 18 (by omega) (by omega)).trans hd, hd5, (F 87 16 (by omega) (by omega)).trans hn, hh, ?_, ?_, ?_⟩, f⟩
  · show I 87 7 = _
    rw [hI]; exact xst_s
  · show I 98 d = _
    by_cases e : w = 98
    · rw [if_pos e, ← e, Iw]
    · rw [if_neg e, F 98 d (by omega) (by omega)]; exact q1
  · show I 99 d = _
    by_cases e : w = 99
    · rw [if_pos e, ← e, Iw]
    · rw [if_neg e, F 99 d (by omega) (by omega)]; exact q2
  · show I 100 d = _
    by_cases e : w = 100
    · rw [if_pos e, ← e, Iw]
    · rw [if_neg e, F 100 d (by omega) (by omega)]; exact q3
/-- the top of the loop, x of a sum waiting: it is written -/
theorem bh_1 {C : xMem → Option (Int32 × xMem)} {m : xMem} {i c d fk fk2 : Nat} {sw gw aw : Int32} (hs : sw ≠ 0) (S : mS K V Pl N h m i c d sw gw aw) : BH C fk (fk2 + 1) m = B43 C fk fk2 (xst (xst (xst (xst m.1 96 (660 * h + c) sw) 97 (660 * h + c) 0) 87 17 (Int32.ofNat (c + 1))) 98 d 0, m.2) := by
  obtain ⟨A, hc, hci, hd, hd5, hn, hh, q1, q2, q3⟩ := id S
  have hN := A.1.1
  have hi := A.2.2.2
  have hf' : m.1 am fGuideBookModel_fault = 0 := A.2.1
  have hd' : m.1 am fGuideBookModel_deep = Int32.ofNat d := hd
  have i1 : xin (Int32.ofNat d) 7 = true := o_in (by omega) (by omega)
  have n1 : (Int32.ofNat d).toNatClampNeg = d := o_nat (by omega)
  have q1' : m.1 am_sumWaits d = sw := q1
  have hd2 : (xst (xst (xst m.1 96 (660 * h + c) sw) 97 (660 * h + c) 0) 87 17 (Int32.ofNat (c + 1))) am fGuideBookModel_deep = Int32.ofNat d := ((xst_n (by decide)).trans ((xst_n (fun u => absurd u.1 (by decide))).trans (xst_n (fun u => absurd u.1 (by decide))))).trans hd
  unfold BH B43
  rw [L_X10_goesOnBehind_0, hf', if_pos rfl, hd', if_pos i1, n1, q1', if_neg hs, if_pos i1, m_emit hc (by omega) hn hh, Option.bind_some]
  simp only [hd2, i1, n1, ↓reduceIte]
/-- no sum goes on here; nothing of a comparison waits, and none begins -/
theorem b43_0 {C : xMem → Option (Int32 × xMem)} {m : xMem} {i c d fk fk2 : Nat} {sw aw : Int32} (S : mS K V Pl N h m i c d sw 0 aw) (h2 : pJn (K i) ≠ 2) (h1 : pJn (K i) ≠ 1) : B43 C fk fk2 m = B189 C fk fk2 m := by
  obtain ⟨A, hc, hci, hd, hd5, hn, hh, q1, q2, q3⟩ := id S
  have hd' : m.1 am fGuideBookModel_deep = Int32.ofNat d := hd
  have i1 : xin (Int32.ofNat d) 7 = true := o_in (by omega) (by omega)
  have n1 : (Int32.ofNat d).toNatClampNeg = d := o_nat (by omega)
  have q2' : m.1 am_signWaits d = 0 := q2
  rw [Ne, jn_2] at h2
  rw [Ne, jn_1] at h1
  unfold B43 B189 J_X10_goesOnBehind_43
  rw [show (43 : Int32) = Int32.ofNat 43 from rfl, m_isSign A (Or.inr (Or.inr (Or.inl rfl))), Option.bind_some]
  dsimp only
  rw [if_neg (show ¬ K i = 43 by omega), if_pos rfl, show (45 : Int32) = Int32.ofNat 45 from rfl, m_isSign A (Or.inr (Or.inr (Or.inr (Or.inl rfl)))), Option.bind_some]
  dsimp only
  rw [if_neg (show ¬ K i = 45 by omega), if_pos rfl, hd', if_pos i1, n1, if_pos q2', show (60 : Int32) = Int32.ofNat 60 from rfl, m_isSign A (Or.inr (Or.inr (Or.inr (Or.inr (Or.inr (Or.inl rfl)))))), Option.bind_some]
  dsimp only
  rw [if_neg (show ¬ K i = 60 by omega), if_pos rfl, show (61 : Int32) = Int32.ofNat 61 from rfl, m_isSign A (Or.inr (Or.inr (Or.inr (Or.inr (Or.inr (Or.inr rfl)))))), Option.bind_some]
  dsimp only
  rw [if_neg (show ¬ K i = 61 by omega), if_pos rfl]
/-- no sum goes on here; x of a comparison waits: it is written -/
theorem b43_1 {C : xMem → Option (Int32 × xMem)} {m : xMem} {i c d fk fk2 : Nat} {sw gw aw : Int32} (hg : gw ≠ 0) (S : mS K V Pl N h m i c d sw gw aw) (h2 : pJn (K i) ≠ 2) : B43 C fk fk2 m = B189 C fk fk2 (xst (xst (xst (xst m.1 96 (660 * h + c) gw) 97 (660 * h + c) 0) 87 17 (Int32.ofNat (c + 1))) 99 d 0, m.2) := by
  obtain ⟨A, hc, hci, hd, hd5, hn, hh, q1, q2, q3⟩ := id S
  have hN := A.1.1
  have hi := A.2.2.2
  have hd' : m.1 am fGuideBookModel_deep = Int32.ofNat d := hd
  have i1 : xin (Int32.ofNat d) 7 = true := o_in (by omega) (by omega)
  have n1 : (Int32.ofNat d).toNatClampNeg = d := o_nat (by omega)
  have q2' : m.1 am_signWaits d = gw := q2
  have hd2 : (xst (xst (xst m.1 96 (660 * h + c) gw) 97 (660 * h + c) 0) 87 17 (Int32.ofNat (c + 1))) am fGuideBookModel_deep = Int32.ofNat d := ((xst_n (by decide)).trans ((xst_n (fun u => absurd u.1 (by decide))).trans (xst_n (fun u => absurd u.1 (by decide))))).trans hd
  rw [Ne, jn_2] at h2
  unfold B43 B189 J_X10_goesOnBehind_43
  rw [show (43 : Int32) = Int32.ofNat 43 from rfl, m_isSign A (Or.inr (Or.inr (Or.inl rfl))), Option.bind_some]
  dsimp only
  rw [if_neg (show ¬ K i = 43 by omega), if_pos rfl, show (45 : Int32) = Int32.ofNat 45 from rfl, m_isSign A (Or.inr (Or.inr (Or.inr (Or.inl rfl)))), Option.bind_some]
  dsimp only
  rw [if_neg (show ¬ K i = 45 by omega), if_pos rfl, hd', if_pos i1, n1, q2', if_neg hg, if_pos i1, m_emit hc (by omega) hn hh, Option.bind_some]
  simp only [hd2, i1, n1, ↓reduceIte]
/-- a sum goes on -/
theorem b43_s {C : xMem → Option (Int32 × xMem)} {m : xMem} {i c d fk fk2 : Nat} {sw gw aw : Int32} (S : mS K V Pl N h m i c d sw gw aw) (h2 : pJn (K i) = 2) (hk : K i ≤ 209) : B43 C fk fk2 m = L_X10_line_185 C fk 1 (xst (xst m.1 98 d (tkO (.inr (pOp (K i))))) 87 7 (Int32.ofNat (i + 1)), m.2) := by
  obtain ⟨A, hc, hci, hd, hd5, hn, hh, q1, q2, q3⟩ := id S
  have hd' : m.1 am fGuideBookModel_deep = Int32.ofNat d := hd
  have ha' : ∀ x, xst m.1 am_sumWaits d x am fGuideBookModel_at = Int32.ofNat i := fun x => (xst_n (fun u => absurd u.1 (by decide))).trans A.2.2.1
  have i1 : xin (Int32.ofNat d) 7 = true := o_in (by omega) (by omega)
  have n1 : (Int32.ofNat d).toNatClampNeg = d := o_nat (by omega)
  have ho := op_o ⟨K i, by omega⟩ h2
  dsimp only at ho
  have gc : gc1 m = some (1, (xst (xst m.1 98 d (tkO (.inr (pOp (K i))))) 87 7 (Int32.ofNat (i + 1)), m.2)) := by
    unfold gc1
    rw [show (43 : Int32) = Int32.ofNat 43 from rfl, m_isSign A (Or.inr (Or.inr (Or.inl rfl))), Option.bind_some]
    dsimp only
    rw [ho]
    by_cases w : K i = 43
    · rw [if_pos w, if_neg (by decide), hd', if_pos i1, n1, ha', o_succ, if_pos w]
    · rw [if_neg w, if_pos rfl, hd', if_pos i1, n1, ha', o_succ, if_neg w]
  have e : J_X10_goesOnBehind_43 (fun m => L_X10_goesOnBehind_0 gc1 gc2 gc3 fk2 m) gc1 gc2 gc3 m = gc1 m := by
    unfold J_X10_goesOnBehind_43
    rw [show (43 : Int32) = Int32.ofNat 43 from rfl, m_isSign A (Or.inr (Or.inr (Or.inl rfl))), Option.bind_some]
    dsimp only
    by_cases w : K i = 43
    · rw [if_pos w, if_neg (by decide)]
    · rw [if_neg w, if_pos rfl, show (45 : Int32) = Int32.ofNat 45 from rfl, m_isSign A (Or.inr (Or.inr (Or.inr (Or.inl rfl)))), Option.bind_some]
      dsimp only
      rw [if_pos (show K i = 45 by have := jn_2.mp h2; omega), if_neg (by decide)]
  unfold B43
  rw [e, gc, Option.bind_some]
  exact if_neg (show ¬ (1 : Int32) = 0 by decide)
/-- a comparison begins -/
theorem b43_c {C : xMem → Option (Int32 × xMem)} {m : xMem} {i c d fk fk2 : Nat} {sw aw : Int32} (S : mS K V Pl N h m i c d sw 0 aw) (h1 : pJn (K i) = 1) (hk : K i ≤ 209) : B43 C fk fk2 m = L_X10_line_185 C fk 1 (xst (xst m.1 99 d (tkO (.inr (pOp (K i))))) 87 7 (Int32.ofNat (i + 1)), m.2) := by
  obtain ⟨A, hc, hci, hd, hd5, hn, hh, q1, q2, q3⟩ := id S
  have hd' : m.1 am fGuideBookModel_deep = Int32.ofNat d := hd
  have ha' : ∀ x, xst m.1 am_signWaits d x am fGuideBookModel_at = Int32.ofNat i := fun x => (xst_n (fun u => absurd u.1 (by decide))).trans A.2.2.1
  have i1 : xin (Int32.ofNat d) 7 = true := o_in (by omega) (by omega)
  have n1 : (Int32.ofNat d).toNatClampNeg = d := o_nat (by omega)
  have q2' : m.1 am_signWaits d = 0 := q2
  have hK1 := jn_1.mp h1
  have ho := op_o1 ⟨K i, by omega⟩ h1
  dsimp only at ho
  have gc : gc2 m = some (1, (xst (xst m.1 99 d (tkO (.inr (pOp (K i))))) 87 7 (Int32.ofNat (i + 1)), m.2)) := by
    unfold gc2
    rw [show (60 : Int32) = Int32.ofNat 60 from rfl, m_isSign A (Or.inr (Or.inr (Or.inr (Or.inr (Or.inr (Or.inl rfl)))))), Option.bind_some]
    dsimp only
    rw [ho]
    by_cases w : K i = 60
    · rw [if_pos w, if_neg (by decide), hd', if_pos i1, n1, ha', o_succ, if_pos w]
    · rw [if_neg w, if_pos rfl, hd', if_pos i1, n1, ha', o_succ, if_neg w]
  have e : J_X10_goesOnBehind_43 (fun m => L_X10_goesOnBehind_0 gc1 gc2 gc3 fk2 m) gc1 gc2 gc3 m = gc2 m := by
    unfold J_X10_goesOnBehind_43
    rw [show (43 : Int32) = Int32.ofNat 43 from rfl, m_isSign A (Or.inr (Or.inr (Or.inl rfl))), Option.bind_some]
    dsimp only
    rw [if_neg (show ¬ K i = 43 by omega), if_pos rfl, show (45 : Int32) = Int32.ofNat 45 from rfl, m_isSign A (Or.inr (Or.inr (Or.inr (Or.inl rfl)))), Option.bind_some]
    dsimp only
    rw [if_neg (show ¬ K i = 45 by omega), if_pos rfl, hd', if_pos i1, n1, if_pos q2', show (60 : Int32) = Int32.ofNat 60 from rfl, m_isSign A (Or.inr (Or.inr (Or.inr (Or.inr (Or.inr (Or.inl rfl)))))), Option.bind_some]
    dsimp only
    by_cases w : K i = 60
    · rw [if_pos w, if_neg (by decide)]
    · rw [if_neg w, if_pos rfl, show (61 : Int32) = Int32.ofNat 61 from rfl, m_isSign A (Or.inr (Or.inr (Or.inr (Or.inr (Or.inr (Or.inr rfl)))))), Option.bind_some]
      dsimp only
      rw [if_pos (show K i = 61 by omega), if_neg (by decide)]
  unfold B43
  rw [e, gc, Option.bind_some]
  exact if_neg (show ¬ (1 : Int32) = 0 by decide)
theorem b189_0 {C : xMem → Option (Int32 × xMem)} {m : xMem} {i c d fk fk2 : Nat} {sw gw : Int32} (S : mS K V Pl N h m i c d sw gw 0) : B189 C fk fk2 m = B218 C fk fk2 m := by
  obtain ⟨A, hc, hci, hd, hd5, hn, hh, q1, q2, q3⟩ := id S
  have hd' : m.1 am fGuideBookModel_deep = Int32.ofNat d := hd
  have i1 : xin (Int32.ofNat d) 7 = true := o_in (by omega) (by omega)
  have n1 : (Int32.ofNat d).toNatClampNeg = d := o_nat (by omega)
  have q3' : m.1 am_andWaits d = 0 := q3
  unfold B189 B218 J_X10_goesOnBehind_189
  rw [hd', if_pos i1, n1, if_pos q3']
theorem b189_1 {C : xMem → Option (Int32 × xMem)} {m : xMem} {i c d fk fk2 : Nat} {sw gw aw : Int32} (ha : aw ≠ 0) (S : mS K V Pl N h m i c d sw gw aw) : B189 C fk fk2 m = B218 C fk fk2 (xst (xst (xst (xst m.1 96 (660 * h + c) 7) 97 (660 * h + c) 0) 87 17 (Int32.ofNat (c + 1))) 100 d 0, m.2) := by
  obtain ⟨A, hc, hci, hd, hd5, hn, hh, q1, q2, q3⟩ := id S
  have hN := A.1.1
  have hi := A.2.2.2
  have hd' : m.1 am fGuideBookModel_deep = Int32.ofNat d := hd
  have i1 : xin (Int32.ofNat d) 7 = true := o_in (by omega) (by omega)
  have n1 : (Int32.ofNat d).toNatClampNeg = d := o_nat (by omega)
  have q3' : m.1 am_andWaits d = aw := q3
  have hd2 : (xst (xst (xst m.1 96 (660 * h + c) 7) 97 (660 * h + c) 0) 87 17 (Int32.ofNat (c + 1))) am fGuideBookModel_deep = Int32.ofNat d := ((xst_n (by decide)).trans ((xst_n (fun u => absurd u.1 (by decide))).trans (xst_n (fun u => absurd u.1 (by decide))))).trans hd
  unfold B189 B218 J_X10_goesOnBehind_189
  rw [hd', if_pos i1, n1, q3', if_neg ha, m_emit hc (by omega) hn hh, Option.bind_some]
  simp only [hd2, i1, n1, ↓reduceIte]
theorem b218_a {C : xMem → Option (Int32 × xMem)} {m : xMem} {i c d fk fk2 : Nat} {sw gw aw : Int32} (S : mS K V Pl N h m i c d sw gw aw) (h0 : pJn (K i) = 0) : B218 C fk fk2 m = L_X10_line_185 C fk 1 (xst (xst m.1 100 d 7) 87 7 (Int32.ofNat (i + 1)), m.2) := by
  obtain ⟨A, hc, hci, hd, hd5, hn, hh, q1, q2, q3⟩ := id S
  have hd' : m.1 am fGuideBookModel_deep = Int32.ofNat d := hd
  have ha' : ∀ x, xst m.1 am_andWaits d x am fGuideBookModel_at = Int32.ofNat i := fun x => (xst_n (fun u => absurd u.1 (by decide))).trans A.2.2.1
  have i1 : xin (Int32.ofNat d) 7 = true := o_in (by omega) (by omega)
  have n1 : (Int32.ofNat d).toNatClampNeg = d := o_nat (by omega)
  unfold B218 J_X10_goesOnBehind_218
  rw [show (2 : Int32) = Int32.ofNat 2 from rfl, m_isWord A (by omega), Option.bind_some]
  dsimp only
  rw [if_pos (show K i = 201 + 2 from jn_0.mp h0), if_neg (by decide)]
  unfold gc3
  rw [hd', if_pos i1, n1, ha', o_succ, Option.bind_some]
  exact if_neg (show ¬ (1 : Int32) = 0 by decide)
end MV
