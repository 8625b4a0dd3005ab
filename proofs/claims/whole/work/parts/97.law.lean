/-! the law's loop -/
/-- what holds before call t -/
def xInv (t : Nat) (m : xMem) : Prop := (∃ nf nw nl ne tp n, xRel t nf nw nl ne tp n m.1) ∧ xTxt m.1 ∧ m.2 92 = xm0.2 92
/-- text: answers alike, and all holds on -/
def xPairX (t : Nat) (m : xMem) : Prop := ∃ v m1 m2, F_X9_text m = some (v, m1) ∧ F_X10_text m1 = some (v, m2) ∧ xInv (t + 1) m2
theorem xPair.inv {f g : xMem → Option (Int32 × xMem)} {t : Nat} {m : xMem} (h : xPair f g t m) (I : xInv t m) : ∃ v m1 m2, f m = some (v, m1) ∧ g m1 = some (v, m2) ∧ xInv (t + 1) m2 := by
  obtain ⟨v, m1, m2, h1, h2, h3, h4⟩ := h
  exact ⟨v, m1, m2, h1, h2, h3, I.2.1.mv h4, h4.2.trans I.2.2⟩
theorem xPairT.inv {f g : xMem → Option (Int32 × xMem)} {t : Nat} {m : xMem} (h : xPairT f g t m) (I : xInv t m) : ∃ k v m1 m2, f m = some (k, m1) ∧ g m1 = some (v, m2) ∧ m2.1 am fGuideBookModel_thrown = k ∧ (k = 0 → m2.2 aout 0 = v.toInt64) ∧ xInv (t + 1) m2 := by
  obtain ⟨k, v, m1, m2, h1, h2, h5, h6, h3, h4⟩ := h
  exact ⟨k, v, m1, m2, h1, h2, h5, h6, h3, I.2.1.mv h4, h4.2.trans I.2.2⟩
section LW
theorem law_lp (PT : ∀ t m, t ≤ 600 → xInv t m → xPairX t m) {Ls : Nat} (hLs : Ls ≤ 3584) (xs : Nat → Int32) : ∀ (k t fk : Nat) (m : xMem), t + k = 520 → k < fk → xInv t m → ∃ m', L_L_law_23 Ls xs fk (Int32.ofNat (7 * t)) m = some (1, m')
  | 0, t, fk + 1, m, h, _, I => by
    have q : Int32.ofNat Ls - 7 < Int32.ofNat (7 * t) := by
      rw [Int32.lt_iff_toInt_lt, i_sub (by rw [o_toInt (by omega)]; have : (7 : Int32).toInt = 7 := rfl; omega) (by rw [o_toInt (by omega)]; have : (7 : Int32).toInt = 7 := rfl; omega), o_toInt (by omega), o_toInt (by omega)]
      have : (7 : Int32).toInt = 7 := rfl
      omega
    refine ⟨m, ?_⟩
    rw [L_L_law_23, if_pos q]
  | k + 1, t, fk + 1, m, h, hf, I => by
    have hrec := fun m I => law_lp PT hLs xs k (t + 1) fk m (by omega) (by omega) I
    have hnx : Int32.ofNat (7 * t) + 7 = Int32.ofNat (7 * (t + 1)) := o_add (a := 7 * t) (b := 7)
    rw [← hnx] at hrec
    by_cases q : Int32.ofNat Ls - 7 < Int32.ofNat (7 * t)
    · refine ⟨m, ?_⟩
      rw [L_L_law_23, if_pos q]
    · have hlt : 7 * t + 7 ≤ Ls := by
        rw [Int32.lt_iff_toInt_lt, i_sub (by rw [o_toInt (by omega)]; have : (7 : Int32).toInt = 7 := rfl; omega) (by rw [o_toInt (by omega)]; have : (7 : Int32).toInt = 7 := rfl; omega), o_toInt (by omega), o_toInt (by omega)] at q
        have : (7 : Int32).toInt = 7 := rfl
        omega
      have ht : t ≤ 600 := by omega
      obtain ⟨⟨nf, nw, nl, ne, tp, n, H⟩, T, W⟩ := id I
      have i0 : xin (Int32.ofNat (7 * t)) Ls = true := o_in (by omega) (by omega)
      have n0 : (Int32.ofNat (7 * t)).toNatClampNeg = 7 * t := o_nat (by omega)
      have e1 : Int32.ofNat (7 * t) + 1 = Int32.ofNat (7 * t + 1) := o_add (a := 7 * t) (b := 1)
      have i1 : xin (Int32.ofNat (7 * t + 1)) Ls = true := o_in (by omega) (by omega)
      have n1 : (Int32.ofNat (7 * t + 1)).toNatClampNeg = 7 * t + 1 := o_nat (by omega)
      have e2 : Int32.ofNat (7 * t) + 2 = Int32.ofNat (7 * t + 2) := o_add (a := 7 * t) (b := 2)
      have i2 : xin (Int32.ofNat (7 * t + 2)) Ls = true := o_in (by omega) (by omega)
      have n2 : (Int32.ofNat (7 * t + 2)).toNatClampNeg = 7 * t + 2 := o_nat (by omega)
      have e3 : Int32.ofNat (7 * t) + 3 = Int32.ofNat (7 * t + 3) := o_add (a := 7 * t) (b := 3)
      have i3 : xin (Int32.ofNat (7 * t + 3)) Ls = true := o_in (by omega) (by omega)
      have n3 : (Int32.ofNat (7 * t + 3)).toNatClampNeg = 7 * t + 3 := o_nat (by omega)
      have e4 : Int32.ofNat (7 * t) + 4 = Int32.ofNat (7 * t + 4) := o_add (a := 7 * t) (b := 4)
      have i4 : xin (Int32.ofNat (7 * t + 4)) Ls = true := o_in (by omega) (by omega)
      have n4 : (Int32.ofNat (7 * t + 4)).toNatClampNeg = 7 * t + 4 := o_nat (by omega)
      have e5 : Int32.ofNat (7 * t) + 5 = Int32.ofNat (7 * t + 5) := o_add (a := 7 * t) (b := 5)
      have i5 : xin (Int32.ofNat (7 * t + 5)) Ls = true := o_in (by omega) (by omega)
      have n5 : (Int32.ofNat (7 * t + 5)).toNatClampNeg = 7 * t + 5 := o_nat (by omega)
      have e6 : Int32.ofNat (7 * t) + 6 = Int32.ofNat (7 * t + 6) := o_add (a := 7 * t) (b := 6)
      have i6 : xin (Int32.ofNat (7 * t + 6)) Ls = true := o_in (by omega) (by omega)
      have n6 : (Int32.ofNat (7 * t + 6)).toNatClampNeg = 7 * t + 6 := o_nat (by omega)
      rw [L_L_law_23, if_neg q, if_pos i0, n0]
      rw [e1, e2, e3, e4, e5, e6, n1, n2, n3, n4, n5, n6]
      generalize hop : xs (7 * t) &&& (31 : Int32) = op
      clear hop q
      by_cases h0 : op = 0
      · rw [if_pos h0]
        obtain ⟨v, m1, m2, p1, p2, I2⟩ := (pr_years ht H (xs (7 * t + 1))).inv I
        obtain ⟨m', r⟩ := hrec m2 I2
        refine ⟨m', ?_⟩
        rw [if_pos i1, p1, Option.bind_some]
        dsimp only
        rw [if_pos i1, p2, Option.bind_some]
        dsimp only
        rw [if_pos rfl]
        exact r
      rw [if_neg h0]
      by_cases h1 : op = 1
      · rw [if_pos h1]
        obtain ⟨v, m1, m2, p1, p2, I2⟩ := (pr_fact ht H (xs (7 * t + 1)) (xs (7 * t + 2)) (xs (7 * t + 3))).inv I
        obtain ⟨m', r⟩ := hrec m2 I2
        refine ⟨m', ?_⟩
        rw [if_pos i1, if_pos i2, if_pos i3, p1, Option.bind_some]
        dsimp only
        rw [if_pos i1, if_pos i2, if_pos i3, p2, Option.bind_some]
        dsimp only
        rw [if_pos rfl]
        exact r
      rw [if_neg h1]
      by_cases h2 : op = 2
      · rw [if_pos h2]
        obtain ⟨v, m1, m2, p1, p2, I2⟩ := (pr_line ht H (xs (7 * t + 1)) (xs (7 * t + 2)) (xs (7 * t + 3))).inv I
        obtain ⟨m', r⟩ := hrec m2 I2
        refine ⟨m', ?_⟩
        rw [if_pos i1, if_pos i2, if_pos i3, p1, Option.bind_some]
        dsimp only
        rw [if_pos i1, if_pos i2, if_pos i3, p2, Option.bind_some]
        dsimp only
        rw [if_pos rfl]
        exact r
      rw [if_neg h2]
      by_cases h3 : op = 3
      · rw [if_pos h3]
        obtain ⟨v, m1, m2, p1, p2, I2⟩ := (pr_check ht H (xs (7 * t + 1)) (xs (7 * t + 2))).inv I
        obtain ⟨m', r⟩ := hrec m2 I2
        refine ⟨m', ?_⟩
        rw [if_pos i1, if_pos i2, p1, Option.bind_some]
        dsimp only
        rw [if_pos i1, if_pos i2, p2, Option.bind_some]
        dsimp only
        rw [if_pos rfl]
        exact r
      rw [if_neg h3]
      by_cases h4 : op = 4
      · rw [if_pos h4]
        obtain ⟨v, m1, m2, p1, p2, I2⟩ := (pr_rate ht H (xs (7 * t + 1))).inv I
        obtain ⟨m', r⟩ := hrec m2 I2
        refine ⟨m', ?_⟩
        rw [if_pos i1, p1, Option.bind_some]
        dsimp only
        rw [if_pos i1, p2, Option.bind_some]
        dsimp only
        rw [if_pos rfl]
        exact r
      rw [if_neg h4]
      by_cases h5 : op = 5
      · rw [if_pos h5]
        obtain ⟨v, m1, m2, p1, p2, I2⟩ := (pr_chance ht H (xs (7 * t + 1))).inv I
        obtain ⟨m', r⟩ := hrec m2 I2
        refine ⟨m', ?_⟩
        rw [if_pos i1, p1, Option.bind_some]
        dsimp only
        rw [if_pos i1, p2, Option.bind_some]
        dsimp only
        rw [if_pos rfl]
        exact r
      rw [if_neg h5]
      by_cases h6 : op = 6
      · rw [if_pos h6]
        obtain ⟨v, m1, m2, p1, p2, I2⟩ := (pr_takes ht H (xs (7 * t + 1)) (xs (7 * t + 2))).inv I
        obtain ⟨m', r⟩ := hrec m2 I2
        refine ⟨m', ?_⟩
        rw [if_pos i1, if_pos i2, p1, Option.bind_some]
        dsimp only
        rw [if_pos i1, if_pos i2, p2, Option.bind_some]
        dsimp only
        rw [if_pos rfl]
        exact r
      rw [if_neg h6]
      by_cases h7 : op = 7
      · rw [if_pos h7]
        obtain ⟨v, m1, m2, p1, p2, I2⟩ := (pr_plan ht H (xs (7 * t + 1)) (xs (7 * t + 2))).inv I
        obtain ⟨m', r⟩ := hrec m2 I2
        refine ⟨m', ?_⟩
        rw [if_pos i1, if_pos i2, p1, Option.bind_some]
        dsimp only
        rw [if_pos i1, if_pos i2, p2, Option.bind_some]
        dsimp only
        rw [if_pos rfl]
        exact r
      rw [if_neg h7]
      by_cases h8 : op = 8
      · rw [if_pos h8]
        obtain ⟨v, m1, m2, p1, p2, I2⟩ := (pr_letter ht H (xs (7 * t + 1)) (xs (7 * t + 2)) (xs (7 * t + 3))).inv I
        obtain ⟨m', r⟩ := hrec m2 I2
        refine ⟨m', ?_⟩
        rw [if_pos i1, if_pos i2, if_pos i3, p1, Option.bind_some]
        dsimp only
        rw [if_pos i1, if_pos i2, if_pos i3, p2, Option.bind_some]
        dsimp only
        rw [if_pos rfl]
        exact r
      rw [if_neg h8]
      by_cases h9 : op = 9
      · rw [if_pos h9]
        obtain ⟨v, m1, m2, p1, p2, I2⟩ := (pr_weight ht H (xs (7 * t + 1))).inv I
        obtain ⟨m', r⟩ := hrec m2 I2
        refine ⟨m', ?_⟩
        rw [if_pos i1, p1, Option.bind_some]
        dsimp only
        rw [if_pos i1, p2, Option.bind_some]
        dsimp only
        rw [if_pos rfl]
        exact r
      rw [if_neg h9]
      by_cases h10 : op = 10
      · rw [if_pos h10]
        obtain ⟨v, m1, m2, p1, p2, I2⟩ := (pr_believed ht H (xs (7 * t + 1))).inv I
        obtain ⟨m', r⟩ := hrec m2 I2
        refine ⟨m', ?_⟩
        rw [if_pos i1, p1, Option.bind_some]
        dsimp only
        rw [if_pos i1, p2, Option.bind_some]
        dsimp only
        rw [if_pos rfl]
        exact r
      rw [if_neg h10]
      by_cases h11 : op = 11
      · rw [if_pos h11]
        obtain ⟨v, m1, m2, p1, p2, I2⟩ := (pr_quarrel ht H (xs (7 * t + 1))).inv I
        obtain ⟨m', r⟩ := hrec m2 I2
        refine ⟨m', ?_⟩
        rw [if_pos i1, p1, Option.bind_some]
        dsimp only
        rw [if_pos i1, p2, Option.bind_some]
        dsimp only
        rw [if_pos rfl]
        exact r
      rw [if_neg h11]
      by_cases h12 : op = 12
      · rw [if_pos h12]
        obtain ⟨v, m1, m2, p1, p2, I2⟩ := (pr_proof ht H (xs (7 * t + 1))).inv I
        obtain ⟨m', r⟩ := hrec m2 I2
        refine ⟨m', ?_⟩
        rw [if_pos i1, p1, Option.bind_some]
        dsimp only
        rw [if_pos i1, p2, Option.bind_some]
        dsimp only
        rw [if_pos rfl]
        exact r
      rw [if_neg h12]
      by_cases h13 : op = 13
      · rw [if_pos h13]
        obtain ⟨v, m1, m2, p1, p2, I2⟩ := (pr_mark ht H (xs (7 * t + 1)) (xs (7 * t + 2)) (xs (7 * t + 3))).inv I
        obtain ⟨m', r⟩ := hrec m2 I2
        refine ⟨m', ?_⟩
        rw [if_pos i1, if_pos i2, if_pos i3, p1, Option.bind_some]
        dsimp only
        rw [if_pos i1, if_pos i2, if_pos i3, p2, Option.bind_some]
        dsimp only
        rw [if_pos rfl]
        exact r
      rw [if_neg h13]
      by_cases h14 : op = 14
      · rw [if_pos h14]
        obtain ⟨kk, v, m1, m2, p1, p2, p3, p4, I2⟩ := (pr_shift ht H (xs (7 * t + 1))).inv I
        obtain ⟨m', r⟩ := hrec m2 I2
        refine ⟨m', ?_⟩
        rw [if_pos i1, p1, Option.bind_some]
        dsimp only
        rw [if_pos i1, p2, Option.bind_some]
        dsimp only
        unfold F_X10_thrown
        rw [Option.bind_some]
        dsimp only
        rw [if_pos p3]
        by_cases k0 : kk = 0
        · have p5 : lg_cmp (m2.2 aout (0 : Int32).toNatClampNeg) v.toInt64 = 0 := (lg_cmp_eq _ _).mpr (p4 k0)
          rw [if_pos k0, if_pos (show xin (0 : Int32) 1 = true from rfl), if_pos p5]
          exact r
        · rw [if_neg k0]
          exact r
      rw [if_neg h14]
      by_cases h15 : op = 15
      · rw [if_pos h15, if_pos i1, if_pos i2]
        by_cases b0 : xs (7 * t + 2) = 0
        · obtain ⟨v, m1, m2, p1, p2, I2⟩ := (pr_paid ht H (xs (7 * t + 1)) 0).inv I
          obtain ⟨m', r⟩ := hrec m2 I2
          refine ⟨m', ?_⟩
          rw [if_pos b0, p1, Option.bind_some]
          dsimp only
          rw [if_pos i1, if_pos i2, if_pos b0, p2, Option.bind_some]
          dsimp only
          rw [if_pos rfl]
          exact r
        · obtain ⟨v, m1, m2, p1, p2, I2⟩ := (pr_paid ht H (xs (7 * t + 1)) 1).inv I
          obtain ⟨m', r⟩ := hrec m2 I2
          refine ⟨m', ?_⟩
          rw [if_neg b0, p1, Option.bind_some]
          dsimp only
          rw [if_pos i1, if_pos i2, if_neg b0, p2, Option.bind_some]
          dsimp only
          rw [if_pos rfl]
          exact r
      rw [if_neg h15]
      by_cases h16 : op = 16
      · rw [if_pos h16]
        obtain ⟨v, m1, m2, p1, p2, I2⟩ := (pr_feed ht H (((xs (7 * t + 1)).toInt64 <<< ((32 : Int32).toInt64 &&& 63)) ||| ((xs (7 * t + 2)).toInt64 &&& (4294967295 : Int64))) (((xs (7 * t + 3)).toInt64 <<< ((32 : Int32).toInt64 &&& 63)) ||| ((xs (7 * t + 4)).toInt64 &&& (4294967295 : Int64))) (((xs (7 * t + 5)).toInt64 <<< ((32 : Int32).toInt64 &&& 63)) ||| ((xs (7 * t + 6)).toInt64 &&& (4294967295 : Int64)))).inv I
        obtain ⟨m', r⟩ := hrec m2 I2
        refine ⟨m', ?_⟩
        rw [if_pos i1, if_pos i2, if_pos i3, if_pos i4, if_pos i5, if_pos i6, p1, Option.bind_some]
        dsimp only
        rw [if_pos i1, if_pos i2, if_pos i3, if_pos i4, if_pos i5, if_pos i6, p2, Option.bind_some]
        dsimp only
        rw [if_pos rfl]
        exact r
      rw [if_neg h16]
      by_cases h17 : op = 17
      · rw [if_pos h17]
        obtain ⟨v, m1, m2, p1, p2, I2⟩ := PT t m ht I
        obtain ⟨m', r⟩ := hrec m2 I2
        refine ⟨m', ?_⟩
        rw [p1, Option.bind_some]
        dsimp only
        rw [p2, Option.bind_some]
        dsimp only
        rw [if_pos rfl]
        exact r
      rw [if_neg h17]
      by_cases h18 : op = 18
      · rw [if_pos h18]
        obtain ⟨v, m1, m2, p1, p2, I2⟩ := (pr_stars ht H T (xs (7 * t + 1))).inv I
        obtain ⟨m', r⟩ := hrec m2 I2
        refine ⟨m', ?_⟩
        rw [if_pos i1, p1, Option.bind_some]
        dsimp only
        rw [if_pos i1, p2, Option.bind_some]
        dsimp only
        rw [if_pos rfl]
        exact r
      rw [if_neg h18]
      by_cases h19 : op = 19
      · rw [if_pos h19]
        obtain ⟨v, m1, m2, p1, p2, I2⟩ := (pr_number ht H (xs (7 * t + 1)) (xs (7 * t + 2))).inv I
        obtain ⟨m', r⟩ := hrec m2 I2
        refine ⟨m', ?_⟩
        rw [if_pos i1, if_pos i2, p1, Option.bind_some]
        dsimp only
        rw [if_pos i1, if_pos i2, p2, Option.bind_some]
        dsimp only
        rw [if_pos rfl]
        exact r
      rw [if_neg h19]
      by_cases h20 : op = 20
      · rw [if_pos h20]
        obtain ⟨v, m1, m2, p1, p2, I2⟩ := (pr_edition ht H T ).inv I
        obtain ⟨m', r⟩ := hrec m2 I2
        refine ⟨m', ?_⟩
        rw [p1, Option.bind_some]
        dsimp only
        rw [p2, Option.bind_some]
        dsimp only
        rw [if_pos rfl]
        exact r
      rw [if_neg h20]
      by_cases h21 : op = 21
      · rw [if_pos h21]
        obtain ⟨v, m1, m2, p1, p2, I2⟩ := (pr_printed ht H (xs (7 * t + 1)) (xs (7 * t + 2)) (xs (7 * t + 3))).inv I
        obtain ⟨m', r⟩ := hrec m2 I2
        refine ⟨m', ?_⟩
        rw [if_pos i1, if_pos i2, if_pos i3, p1, Option.bind_some]
        dsimp only
        rw [if_pos i1, if_pos i2, if_pos i3, p2, Option.bind_some]
        dsimp only
        rw [if_pos rfl]
        exact r
      rw [if_neg h21]
      by_cases h22 : op = 22
      · rw [if_pos h22]
        obtain ⟨v, m1, m2, p1, p2, I2⟩ := (pr_errors ht H (xs (7 * t + 1)) (xs (7 * t + 2))).inv I
        obtain ⟨m', r⟩ := hrec m2 I2
        refine ⟨m', ?_⟩
        rw [if_pos i1, if_pos i2, p1, Option.bind_some]
        dsimp only
        rw [if_pos i1, if_pos i2, p2, Option.bind_some]
        dsimp only
        rw [if_pos rfl]
        exact r
      rw [if_neg h22]
      by_cases h23 : op = 23
      · rw [if_pos h23]
        obtain ⟨v, m1, m2, p1, p2, I2⟩ := (pr_count ht H T (xs (7 * t + 1))).inv I
        obtain ⟨m', r⟩ := hrec m2 I2
        refine ⟨m', ?_⟩
        rw [if_pos i1, p1, Option.bind_some]
        dsimp only
        rw [if_pos i1, p2, Option.bind_some]
        dsimp only
        rw [if_pos rfl]
        exact r
      rw [if_neg h23]
      by_cases h24 : op = 24
      · rw [if_pos h24]
        obtain ⟨kk, v, m1, m2, p1, p2, p3, p4, I2⟩ := (pr_look ht H (xs (7 * t + 1)) (xs (7 * t + 2))).inv I
        obtain ⟨m', r⟩ := hrec m2 I2
        refine ⟨m', ?_⟩
        rw [if_pos i1, if_pos i2, p1, Option.bind_some]
        dsimp only
        rw [if_pos i1, if_pos i2, p2, Option.bind_some]
        dsimp only
        unfold F_X10_thrown
        rw [Option.bind_some]
        dsimp only
        rw [if_pos p3]
        by_cases k0 : kk = 0
        · have p5 : lg_cmp (m2.2 aout (0 : Int32).toNatClampNeg) v.toInt64 = 0 := (lg_cmp_eq _ _).mpr (p4 k0)
          rw [if_pos k0, if_pos (show xin (0 : Int32) 1 = true from rfl), if_pos p5]
          exact r
        · rw [if_neg k0]
          exact r
      rw [if_neg h24]
      exact hrec m ⟨⟨nf, nw, nl, ne, tp, n, H.up ht⟩, T, W⟩
end LW
