theorem o_sub {a b : Nat} (h : b ≤ a) : Int32.ofNat a - Int32.ofNat b = Int32.ofNat (a - b) := by
  have : Int32.ofNat a = Int32.ofNat (a - b) + Int32.ofNat b := by rw [o_add]; congr 1; omega
  rw [this]; grind
theorem o_m1 {a : Nat} : Int32.ofNat (a + 1) + -1 = Int32.ofNat a := by rw [← o_succ]; grind
theorem ifl {p q : Prop} [Decidable p] [Decidable q] {a b : Int64} (h : p ↔ q) : (if p then a else b) = if q then a else b := by
  by_cases w : p
  · rw [if_pos w, if_pos (h.mp w)]
  · rw [if_neg w, if_neg (fun w' => w (h.mpr w'))]
theorem xsl_n {I : xL} {a k b j : Nat} {v : Int64} (h : ¬ (b = a ∧ j = k)) : xsl I a k v b j = I b j := by unfold xsl; rw [if_neg h]
section BG
/-- does the thing join -/
def btr (x : Int32) (w b : Int64) : Bool := if x = 0 then decide (b < w) else decide (b ≤ w)
theorem c_off {th d : Nat} {x : Int32} {sc : Int64} (hd : 1 ≤ d) (hd' : d ≤ 99) : ∀ (a fk : Nat) (m : xMem), a ≤ 99 → a < fk →
    ∃ m', L_X0_offer_17 (Int32.ofNat th) (Int32.ofNat d) x sc fk (Int32.ofNat a) m = some (0, m') ∧ m'.1 = m.1 ∧ (∀ b, b ≠ 82 → b ≠ 83 → m'.2 b = m.2 b) ∧
      (∀ l, m'.2 82 l = if l ≤ a ∧ d ≤ l ∧ btr x (m.2 82 (l - d) + sc) (m.2 82 l) = true then m.2 82 (l - d) + sc else m.2 82 l) ∧
      (∀ l, m'.2 83 l = if l ≤ a ∧ d ≤ l ∧ btr x (m.2 82 (l - d) + sc) (m.2 82 l) = true then m.2 83 (l - d) ||| ((1 : Int64) <<< ((Int32.ofNat th).toInt64 &&& 63)) else m.2 83 l)
  | a, fk + 1, m, h, hf => by
    by_cases hlt : a < d
    · have q : Int32.ofNat a < Int32.ofNat d := (o_lt (by omega) (by omega)).mpr hlt
      refine ⟨m, ?_, rfl, fun _ _ _ => rfl, fun l => ?_, fun l => ?_⟩
      · simp (decide := true) only [Option.bind_some, ↓reduceIte, xst_f, xst_k, xst_s, ne_eq, not_false_eq_true, not_true_eq_false, and_self, and_true, true_and, and_false, false_and, or_true, true_or, or_false, false_or, L_X0_offer_17, q]
      · rw [if_neg (by omega)]
      · rw [if_neg (by omega)]
    · obtain ⟨a', rfl⟩ : ∃ a', a = a' + 1 := ⟨a - 1, by omega⟩
      have q : ¬ Int32.ofNat (a' + 1) < Int32.ofNat d := fun w => hlt ((o_lt (by omega) (by omega)).mp w)
      have e : Int32.ofNat (a' + 1) - Int32.ofNat d = Int32.ofNat (a' + 1 - d) := o_sub (by omega)
      have i1 : xin (Int32.ofNat (a' + 1)) 100 = true := o_in (by omega) (by omega)
      have n1 : (Int32.ofNat (a' + 1)).toNatClampNeg = a' + 1 := o_nat (by omega)
      have i2 : xin (Int32.ofNat (a' + 1 - d)) 100 = true := o_in (by omega) (by omega)
      have n2 : (Int32.ofNat (a' + 1 - d)).toNatClampNeg = a' + 1 - d := o_nat (by omega)
      by_cases hj : btr x (m.2 82 (a' + 1 - d) + sc) (m.2 82 (a' + 1)) = true
      · obtain ⟨J1, hJ1⟩ : ∃ J1 : xL, J1 = xsl (xsl m.2 82 (a' + 1) (m.2 82 (a' + 1 - d) + sc)) 83 (a' + 1) (m.2 83 (a' + 1 - d) ||| ((1 : Int64) <<< ((Int32.ofNat th).toInt64 &&& 63))) := ⟨_, rfl⟩
        obtain ⟨m', r1, r2, r3, r4, r5⟩ := c_off (th := th) (x := x) (sc := sc) hd hd' a' fk (m.1, J1) (by omega) (by omega)
        have f82 : ∀ l, J1 82 l = if l = a' + 1 then m.2 82 (a' + 1 - d) + sc else m.2 82 l := by
          intro l
          rw [hJ1, xsl_f (b := 82) (by decide)]
          by_cases w : l = a' + 1
          · subst w; rw [if_pos rfl, xsl_s]
          · rw [if_neg w, xsl_n (fun w' => w w'.2)]
        have f83 : ∀ l, J1 83 l = if l = a' + 1 then m.2 83 (a' + 1 - d) ||| ((1 : Int64) <<< ((Int32.ofNat th).toInt64 &&& 63)) else m.2 83 l := by
          intro l
          rw [hJ1]
          by_cases w : l = a' + 1
          · subst w; rw [if_pos rfl, xsl_s]
          · rw [if_neg w, xsl_n (fun w' => w w'.2), xsl_f (b := 83) (by decide)]
        have e1 : L_X0_offer_17 (Int32.ofNat th) (Int32.ofNat d) x sc (fk + 1) (Int32.ofNat (a' + 1)) m = some (0, m') := by
          rw [← r1, hJ1]
          unfold btr at hj
          by_cases x0 : x = 0
          · rw [if_pos x0] at hj
            have hj' : 0 < lg_cmp (m.2 ag_bag_best (a' + 1 - d) + sc) (m.2 ag_bag_best (a' + 1)) := (lg_cmp_gt _ _).mpr (of_decide_eq_true hj)
            rw [L_X0_offer_17]
            simp (decide := true) only [Option.bind_some, ↓reduceIte, xst_f, xst_k, xst_s, ne_eq, not_false_eq_true, not_true_eq_false, and_self, and_true, true_and, and_false, false_and, or_true, true_or, or_false, false_or, q, e, i1, n1, i2, n2, hj', J_X0_offer_97, J_X0_offer_68, o_m1, xsl_f]
          · rw [if_neg x0] at hj
            have hle := of_decide_eq_true hj
            by_cases g : 0 < lg_cmp (m.2 ag_bag_best (a' + 1 - d) + sc) (m.2 ag_bag_best (a' + 1))
            · rw [L_X0_offer_17]
              simp (decide := true) only [Option.bind_some, ↓reduceIte, xst_f, xst_k, xst_s, ne_eq, not_false_eq_true, not_true_eq_false, and_self, and_true, true_and, and_false, false_and, or_true, true_or, or_false, false_or, q, e, i1, n1, i2, n2, g, J_X0_offer_97, J_X0_offer_68, o_m1, xsl_f]
            · have g' : lg_cmp (m.2 ag_bag_best (a' + 1 - d) + sc) (m.2 ag_bag_best (a' + 1)) = 0 := by
                rw [lg_cmp_gt] at g
                rw [lg_cmp_eq]
                exact Int64.le_antisymm (Int64.not_lt.mp g) hle
              rw [L_X0_offer_17]
              simp (decide := true) only [Option.bind_some, ↓reduceIte, xst_f, xst_k, xst_s, ne_eq, not_false_eq_true, not_true_eq_false, and_self, and_true, true_and, and_false, false_and, or_true, true_or, or_false, false_or, q, e, i1, n1, i2, n2, g, g', x0, J_X0_offer_97, J_X0_offer_68, o_m1, xsl_f]
        refine ⟨m', e1, r2, fun b w1 w2 => (r3 b w1 w2).trans ?_, fun l => ?_, fun l => ?_⟩
        · show J1 b = _
          rw [hJ1, xsl_f (fun w => w2 w.symm), xsl_f (fun w => w1 w.symm)]
        · rw [r4]
          show (if l ≤ a' ∧ d ≤ l ∧ btr x (J1 82 (l - d) + sc) (J1 82 l) = true then J1 82 (l - d) + sc else J1 82 l) = _
          rw [f82, f82]
          by_cases w : l = a' + 1
          · subst w
            rw [if_neg (by omega), if_pos rfl]
            exact (if_pos ⟨Nat.le_refl _, by omega, hj⟩).symm
          · rw [if_neg w]
            by_cases w2 : l ≤ a'
            · rw [if_neg (show ¬ l - d = a' + 1 by omega)]
              exact ifl ⟨fun u => ⟨by omega, u.2⟩, fun u => ⟨by omega, u.2⟩⟩
            · exact (if_neg (fun u => w2 u.1)).trans (if_neg (fun u => by omega)).symm
        · rw [r5]
          show (if l ≤ a' ∧ d ≤ l ∧ btr x (J1 82 (l - d) + sc) (J1 82 l) = true then J1 83 (l - d) ||| _ else J1 83 l) = _
          rw [f82, f82, f83, f83]
          by_cases w : l = a' + 1
          · subst w
            rw [if_neg (by omega), if_pos rfl]
            exact (if_pos ⟨Nat.le_refl _, by omega, hj⟩).symm
          · rw [if_neg w]
            by_cases w2 : l ≤ a'
            · rw [if_neg (show ¬ l - d = a' + 1 by omega), if_neg (show ¬ l - d = a' + 1 by omega), if_neg w]
              exact ifl ⟨fun u => ⟨by omega, u.2⟩, fun u => ⟨by omega, u.2⟩⟩
            · rw [if_neg w]
              exact (if_neg (fun u => w2 u.1)).trans (if_neg (fun u => by omega)).symm
      · obtain ⟨m', r1, r2, r3, r4, r5⟩ := c_off (th := th) (x := x) (sc := sc) hd hd' a' fk m (by omega) (by omega)
        have e1 : L_X0_offer_17 (Int32.ofNat th) (Int32.ofNat d) x sc (fk + 1) (Int32.ofNat (a' + 1)) m = some (0, m') := by
          rw [← r1]
          unfold btr at hj
          by_cases x0 : x = 0
          · rw [if_pos x0] at hj
            have hj' : ¬ 0 < lg_cmp (m.2 ag_bag_best (a' + 1 - d) + sc) (m.2 ag_bag_best (a' + 1)) := fun w => hj (decide_eq_true ((lg_cmp_gt _ _).mp w))
            rw [L_X0_offer_17]
            simp (decide := true) only [Option.bind_some, ↓reduceIte, xst_f, xst_k, xst_s, ne_eq, not_false_eq_true, not_true_eq_false, and_self, and_true, true_and, and_false, false_and, or_true, true_or, or_false, false_or, q, e, i1, n1, i2, n2, hj', x0, J_X0_offer_97, J_X0_offer_68, o_m1]
          · rw [if_neg x0] at hj
            have hle : ¬ m.2 82 (a' + 1) ≤ m.2 82 (a' + 1 - d) + sc := fun w => hj (decide_eq_true w)
            have g : ¬ 0 < lg_cmp (m.2 ag_bag_best (a' + 1 - d) + sc) (m.2 ag_bag_best (a' + 1)) := fun w => hle (Int64.le_of_lt ((lg_cmp_gt _ _).mp w))
            have g' : ¬ lg_cmp (m.2 ag_bag_best (a' + 1 - d) + sc) (m.2 ag_bag_best (a' + 1)) = 0 := fun w => hle (by rw [lg_cmp_eq] at w; rw [w]; exact Int64.le_refl _)
            rw [L_X0_offer_17]
            simp (decide := true) only [Option.bind_some, ↓reduceIte, xst_f, xst_k, xst_s, ne_eq, not_false_eq_true, not_true_eq_false, and_self, and_true, true_and, and_false, false_and, or_true, true_or, or_false, false_or, q, e, i1, n1, i2, n2, g, g', x0, J_X0_offer_97, J_X0_offer_68, o_m1]
        refine ⟨m', e1, r2, r3, fun l => ?_, fun l => ?_⟩
        · rw [r4]
          by_cases w : l = a' + 1
          · subst w
            exact (if_neg (by omega)).trans (if_neg (fun u => hj u.2.2)).symm
          · exact ifl ⟨fun u => ⟨by omega, u.2⟩, fun u => ⟨by omega, u.2⟩⟩
        · rw [r5]
          by_cases w : l = a' + 1
          · subst w
            exact (if_neg (by omega)).trans (if_neg (fun u => hj u.2.2)).symm
          · exact ifl ⟨fun u => ⟨by omega, u.2⟩, fun u => ⟨by omega, u.2⟩⟩
theorem c_fl1 : ∀ (k a fk : Nat) (m : xMem), a + k = 100 → k < fk → ∃ m', L_J7_fill_d0a16_6 0 100 fk (Int32.ofNat a) m = some (0, m') ∧ m'.1 = m.1 ∧ (∀ b, b ≠ 82 → m'.2 b = m.2 b) ∧ ∀ l, l < 100 → m'.2 82 l = if a ≤ l then 0 else m.2 82 l
  | 0, a, fk + 1, m, h, _ => by
    have q : 100 ≤ Int32.ofNat a := (o_le (a := 100) (by omega) (by omega)).mpr (by omega)
    refine ⟨m, ?_, rfl, fun _ _ => rfl, fun l hl => ?_⟩
    · simp (decide := true) only [Option.bind_some, ↓reduceIte, xst_f, xst_k, xst_s, ne_eq, not_false_eq_true, not_true_eq_false, and_self, and_true, true_and, and_false, false_and, or_true, true_or, or_false, false_or, L_J7_fill_d0a16_6, q]
    · rw [if_neg (by omega)]
  | k + 1, a, fk + 1, m, h, hf => by
    have q : ¬ 100 ≤ Int32.ofNat a := fun w => by have := (o_le (a := 100) (by omega) (by omega)).mp w; omega
    have i1 : xin (Int32.ofNat a) 100 = true := o_in (by omega) (by omega)
    have n1 : (Int32.ofNat a).toNatClampNeg = a := o_nat (by omega)
    obtain ⟨m', r1, r2, r3, r4⟩ := c_fl1 k (a + 1) fk (m.1, xsl m.2 82 a 0) (by omega) (by omega)
    refine ⟨m', ?_, r2, fun b w => (r3 b w).trans (xsl_f (fun u => w u.symm)), fun l hl => ?_⟩
    · rw [← r1, L_J7_fill_d0a16_6]
      simp (decide := true) only [Option.bind_some, ↓reduceIte, xst_f, xst_k, xst_s, ne_eq, not_false_eq_true, not_true_eq_false, and_self, and_true, true_and, and_false, false_and, or_true, true_or, or_false, false_or, q, i1, n1, o_succ]
    · rw [r4 l hl]
      show (if a + 1 ≤ l then 0 else xsl m.2 82 a 0 82 l) = _
      by_cases w : l = a
      · subst w
        rw [if_neg (by omega), if_pos (Nat.le_refl _), xsl_s]
      · rw [xsl_n (fun u => w u.2)]
        exact ifl ⟨fun u => by omega, fun u => by omega⟩
theorem c_fl2 : ∀ (k a fk : Nat) (m : xMem), a + k = 100 → k < fk → ∃ m', L_J7_fill_d0a16_i1_6 0 100 fk (Int32.ofNat a) m = some (0, m') ∧ m'.1 = m.1 ∧ (∀ b, b ≠ 83 → m'.2 b = m.2 b) ∧ ∀ l, l < 100 → m'.2 83 l = if a ≤ l then 0 else m.2 83 l
  | 0, a, fk + 1, m, h, _ => by
    have q : 100 ≤ Int32.ofNat a := (o_le (a := 100) (by omega) (by omega)).mpr (by omega)
    refine ⟨m, ?_, rfl, fun _ _ => rfl, fun l hl => ?_⟩
    · simp (decide := true) only [Option.bind_some, ↓reduceIte, xst_f, xst_k, xst_s, ne_eq, not_false_eq_true, not_true_eq_false, and_self, and_true, true_and, and_false, false_and, or_true, true_or, or_false, false_or, L_J7_fill_d0a16_i1_6, q]
    · rw [if_neg (by omega)]
  | k + 1, a, fk + 1, m, h, hf => by
    have q : ¬ 100 ≤ Int32.ofNat a := fun w => by have := (o_le (a := 100) (by omega) (by omega)).mp w; omega
    have i1 : xin (Int32.ofNat a) 100 = true := o_in (by omega) (by omega)
    have n1 : (Int32.ofNat a).toNatClampNeg = a := o_nat (by omega)
    obtain ⟨m', r1, r2, r3, r4⟩ := c_fl2 k (a + 1) fk (m.1, xsl m.2 83 a 0) (by omega) (by omega)
    refine ⟨m', ?_, r2, fun b w => (r3 b w).trans (xsl_f (fun u => w u.symm)), fun l hl => ?_⟩
    · rw [← r1, L_J7_fill_d0a16_i1_6]
      simp (decide := true) only [Option.bind_some, ↓reduceIte, xst_f, xst_k, xst_s, ne_eq, not_false_eq_true, not_true_eq_false, and_self, and_true, true_and, and_false, false_and, or_true, true_or, or_false, false_or, q, i1, n1, o_succ]
    · rw [r4 l hl]
      show (if a + 1 ≤ l then 0 else xsl m.2 83 a 0 83 l) = _
      by_cases w : l = a
      · subst w
        rw [if_neg (by omega), if_pos (Nat.le_refl _), xsl_s]
      · rw [xsl_n (fun u => w u.2)]
        exact ifl ⟨fun u => by omega, fun u => by omega⟩
theorem c_bopen (m : xMem) (x : Int32) : ∃ m', F_X0_open x m = some (0, m') ∧ m'.1 = xst m.1 ag_bag fBag_room x ∧ (∀ b, b ≠ 82 → b ≠ 83 → m'.2 b = m.2 b) ∧ ∀ l, l < 100 → m'.2 82 l = 0 ∧ m'.2 83 l = 0 := by
  obtain ⟨m1, r1, r2, r3, r4⟩ := c_fl1 100 0 xfuel (xst m.1 ag_bag fBag_room x, m.2) (by omega) (by decide)
  obtain ⟨m2, s1, s2, s3, s4⟩ := c_fl2 100 0 xfuel m1 (by omega) (by decide)
  rw [← o_zero] at r1 s1
  refine ⟨m2, ?_, by rw [s2, r2], fun b w1 w2 => by rw [s3 b w2, r3 b w1], fun l hl => ⟨?_, ?_⟩⟩
  · simp (decide := true) only [Option.bind_some, ↓reduceIte, xst_f, xst_k, xst_s, ne_eq, not_false_eq_true, not_true_eq_false, and_self, and_true, true_and, and_false, false_and, or_true, true_or, or_false, false_or, F_X0_open, F_J7_fill_d0a16, r1, F_J7_fill_d0a16_i1, s1]
  · rw [s3 82 (by decide), r4 l hl, if_pos (Nat.zero_le _)]
  · rw [s4 l hl, if_pos (Nat.zero_le _)]
end BG
