section NC
variable {t nf nw nl ne tp : Nat} {n : Nat → Nat}
/-- lengths and worths as they are -/
def LWok (I : xI) (nf : Nat) (L W : Nat → Nat) : Prop := ∀ f, f < nf → I 6 f = Int32.ofNat (L f) ∧ I 7 f = Int32.ofNat (W f) ∧ I 107 f = Int32.ofNat (L f) ∧ I 108 f = Int32.ofNat (W f) ∧ 1 ≤ L f ∧ L f ≤ 9 ∧ W f ≤ 999
theorem lw_ok {I : xI} (H : I_fact nf nw I) : LWok I nf (fun f => (I 6 f).toNatClampNeg) (fun f => (I 7 f).toNatClampNeg) := by
  intro f hf
  obtain ⟨-, -, -, -, ⟨l1, l2, l3⟩, w1, w2⟩ := H f hf
  obtain ⟨a, ha, ea⟩ := g_ixl (n := 9) (x := I 6 f) ⟨by have : I 6 f = I ag_facts_length f := rfl; grind, l3⟩ (by decide)
  obtain ⟨b, hb, eb⟩ := g_rx (n := 999) w2 (by decide)
  have eb' : I 7 f = Int32.ofNat b := eb
  have na : (I 6 f).toNatClampNeg = a := by rw [ea]; exact o_nat (by omega)
  have nb' : (I 7 f).toNatClampNeg = b := by rw [eb']; exact o_nat (by omega)
  have l2' : (1 : Int32) ≤ I 6 f := l2
  rw [ea] at l2'
  have l4 := (o_le (a := 1) (by omega) (by omega)).mp l2'
  dsimp only
  rw [na, nb']
  have l1' : I 6 f = I 107 f := l1
  have w1' : I 7 f = I 108 f := w1
  exact ⟨ea, eb', l1' ▸ ea, w1' ▸ eb', l4, ha, hb⟩
def bgN (L W : Nat → Nat) (R : Nat) (ps : List Nat) (m : xMem) : Prop := m.1 ag_bag fBag_room = Int32.ofNat R ∧ ∀ l, l ≤ R → (m.2 82 l).toInt = 1000 * ((nb L W ps l).1 : Int) - ((nb L W ps l).2.1 : Int) ∧ m.2 83 l = Int64.ofNat (msk (nb L W ps l).2.2)
theorem pg_s {P : Nat → Int32} {p : Int32} {k a : Nat} : pg P p (k + 1) a = if P a = p then a :: pg P p k (a + 1) else pg P p k (a + 1) := rfl
theorem c_lk {m : xMem} {L W : Nat → Nat} {P : Nat → Int32} (hnf : nf ≤ 60) (hP : P = m.1 ag_facts_place) (hLW : LWok m.1 nf L W) {p : Int32} {R : Nat} (hR : R ≤ 99) {c : xMem → Option (Int64 × xMem)} : ∀ (a fk : Nat) (m1 : xMem), a ≤ nf → a < fk → xKeep m m1 → bgN L W R (pg P p (nf - a) a) m1 → ∃ m2, L_X9_linesKept_18 p c fk (Int32.ofNat a + -1) m1 = c m2 ∧ xKeep m m2 ∧ bgN L W R (pg P p nf 0) m2
  | 0, fk + 1, m1, _, _, K, B => by
    have q : (Int32.ofNat 0 + -1 : Int32) < 0 := by decide
    refine ⟨m1, ?_, K, B⟩
    simp (decide := true) only [Option.bind_some, ↓reduceIte, xst_f, xst_k, xst_s, ne_eq, not_false_eq_true, not_true_eq_false, and_self, and_true, true_and, and_false, false_and, or_true, true_or, or_false, false_or, L_X9_linesKept_18, q]
  | a + 1, fk + 1, m1, ha, hf, K, B => by
    have q : ¬ Int32.ofNat a < 0 := fun w => by
      rw [Int32.lt_iff_toInt_lt, o_toInt (by omega)] at w
      have : (0 : Int32).toInt = 0 := rfl
      omega
    have hi : xin (Int32.ofNat a) 60 = true := o_in (by omega) (by omega)
    have hn : (Int32.ofNat a).toNatClampNeg = a := o_nat (by omega)
    have e0 : nf - a = (nf - (a + 1)) + 1 := by omega
    have hpl : m1.1 ag_facts_place a = P a := by rw [hP, kp_row K (show ag_facts_place < 31 by decide)]
    rw [o_m1]
    by_cases g : P a = p
    · obtain ⟨l1, l2, l3, l4, l5, l6, l7⟩ := hLW a (by omega)
      have e1 : m1.1 ag_facts_length a = Int32.ofNat (L a) := (congrFun (kp_row K (show ag_facts_length < 31 by decide)) a).trans l1
      have e2 : m1.1 ag_facts_worth a = Int32.ofNat (W a) := (congrFun (kp_row K (show ag_facts_worth < 31 by decide)) a).trans l2
      obtain ⟨m2, r1, r2, r3, r4, r5⟩ := c_off (th := a) (d := L a) (x := 1) (sc := (Int32.ofNat (W a)).toInt64 * 1000 - (Int32.ofNat (L a)).toInt64) l5 (by omega) R xfuel m1 hR (by rw [xfuel_eq]; omega)
      have ksc : ((Int32.ofNat (W a)).toInt64 * 1000 - (Int32.ofNat (L a)).toInt64).toInt = 1000 * (W a : Int) - L a := by
        have z : (1000 : Int64).toInt = 1000 := rfl
        have y1 : (Int32.ofNat (W a)).toInt64.toInt = W a := by rw [Int32.toInt_toInt64, o_toInt (by omega)]
        have y2 : (Int32.ofNat (L a)).toInt64.toInt = L a := by rw [Int32.toInt_toInt64, o_toInt (by omega)]
        have y3 : ((Int32.ofNat (W a)).toInt64 * 1000).toInt = 1000 * (W a : Int) := by rw [j_mul (by rw [y1, z]; omega) (by rw [y1, z]; omega), y1, z]; omega
        rw [j_sub (by rw [y2, y3]; omega) (by rw [y2, y3]; omega), y2, y3]
      have K2 : xKeep m m2 := K.trans ⟨fun b j _ => by rw [r2], r3 92 (by decide) (by decide)⟩
      have hw : ∀ x ∈ pg P p (nf - (a + 1)) (a + 1), W x ≤ 999 := fun x hx => (hLW x (by have := pg_mem _ _ _ hx; omega)).2.2.2.2.2.2
      have hlen := pg_len (P := P) (p := p) (nf - (a + 1)) (a + 1)
      have nrg := nb_rg (L := L) (W := W) _ hw
      have B2 : bgN L W R (pg P p (nf - a) a) m2 := by
        rw [e0, pg_s, if_pos g]
        generalize pg P p (nf - (a + 1)) (a + 1) = fs at *
        refine ⟨by rw [r2]; exact B.1, fun l hl => ?_⟩
        obtain ⟨b1, b2⟩ := B.2 l hl
        obtain ⟨b3, b4⟩ := B.2 (l - L a) (by omega)
        obtain ⟨k1, k2, -⟩ := nrg l
        obtain ⟨k3, k4, -⟩ := nrg (l - L a)
        have ad : (m1.2 82 (l - L a) + ((Int32.ofNat (W a)).toInt64 * 1000 - (Int32.ofNat (L a)).toInt64)).toInt = 1000 * ((nb L W fs (l - L a)).1 : Int) - ((nb L W fs (l - L a)).2.1 : Int) + (1000 * (W a : Int) - L a) := by
          rw [j_add (by rw [ksc, b3]; omega) (by rw [ksc, b3]; omega), ksc, b3]
        rw [r4, r5, nb_s]
        have hcond : (l ≤ R ∧ L a ≤ l ∧ btr 1 (m1.2 82 (l - L a) + ((Int32.ofNat (W a)).toInt64 * 1000 - (Int32.ofNat (L a)).toInt64)) (m1.2 82 l) = true) ↔ nbw L W a l (nb L W fs l) (nb L W fs (l - L a)) = true := by
          unfold btr nbw
          rw [if_neg (show ¬ (1 : Int32) = 0 by decide), decide_eq_true_iff, decide_eq_true_iff, Int64.le_iff_toInt_le, ad, b1]
          constructor
          · rintro ⟨-, w1, w2⟩
            exact ⟨w1, by omega⟩
          · rintro ⟨w1, w2⟩
            exact ⟨hl, w1, by omega⟩
        by_cases w : nbw L W a l (nb L W fs l) (nb L W fs (l - L a)) = true
        · rw [if_pos (hcond.mpr w), if_pos (hcond.mpr w), if_pos w, ad, b4, (bt64 ⟨a, by omega⟩).1, or64]
          refine ⟨?_, rfl⟩
          show _ = 1000 * ((W a + (nb L W fs (l - L a)).1 : Nat) : Int) - ((L a + (nb L W fs (l - L a)).2.1 : Nat) : Int)
          push_cast
          omega
        · rw [if_neg (fun u => w (hcond.mp u)), if_neg (fun u => w (hcond.mp u)), if_neg w]
          exact ⟨b1, b2⟩
      obtain ⟨m3, s1, s2, s3⟩ := c_lk hnf hP hLW hR (c := c) a fk m2 (by omega) (by omega) K2 B2
      refine ⟨m3, ?_, s2, s3⟩
      rw [← s1, L_X9_linesKept_18]
      simp (decide := true) only [Option.bind_some, ↓reduceIte, xst_f, xst_k, xst_s, ne_eq, not_false_eq_true, not_true_eq_false, and_self, and_true, true_and, and_false, false_and, or_true, true_or, or_false, false_or, q, hi, hn, hpl, g, e1, e2, F_X0_offer, B.1, r1, J_X9_linesKept_62]
    · have B2 : bgN L W R (pg P p (nf - a) a) m1 := by
        rw [e0, pg_s, if_neg g]
        exact B
      obtain ⟨m3, s1, s2, s3⟩ := c_lk hnf hP hLW hR (c := c) a fk m1 (by omega) (by omega) K B2
      refine ⟨m3, ?_, s2, s3⟩
      rw [← s1, L_X9_linesKept_18]
      simp (decide := true) only [Option.bind_some, ↓reduceIte, xst_f, xst_k, xst_s, ne_eq, not_false_eq_true, not_true_eq_false, and_self, and_true, true_and, and_false, false_and, or_true, true_or, or_false, false_or, q, hi, hn, hpl, g, J_X9_linesKept_62]
theorem c_linesKept {m : xMem} (H : xRel t nf nw nl ne tp n m.1) {L W : Nat → Nat} (hLW : LWok m.1 nf L W) {p : Int32} {R : Nat} (hR : R ≤ 99) : ∃ m2, F_X9_linesKept p (Int32.ofNat R) m = some (Int64.ofNat (msk (nb L W (pg (m.1 ag_facts_place) p nf 0) R).2.2), m2) ∧ xKeep m m2 := by
  have hb := H.1.1
  obtain ⟨m1, r1, r2, r3, r4⟩ := c_bopen m (Int32.ofNat R)
  have K : xKeep m m1 := by
    refine ⟨fun a k q => ?_, r3 92 (by decide) (by decide)⟩
    rw [r2, xst_n]
    rintro ⟨w1, w2⟩
    rw [w1] at q
    exact absurd q (by unfold xscr; simp)
  obtain ⟨P, hP⟩ : ∃ P, P = m.1 ag_facts_place := ⟨_, rfl⟩
  obtain ⟨m2, s1, s2, s3⟩ := c_lk (p := p) (nf := nf) hb.1 hP hLW hR (c := fun m_10 => (F_X0_picked m_10).bind fun q_11 => some (q_11.1, q_11.2)) nf xfuel m1 (Nat.le_refl _) (by rw [xfuel_eq]; omega) K (by
    rw [Nat.sub_self]
    refine ⟨by rw [r2]; exact xst_s, fun l hl => ?_⟩
    obtain ⟨y1, y2⟩ := r4 l (by omega)
    rw [y1, y2]
    exact ⟨rfl, rfl⟩)
  refine ⟨m2, ?_, s2⟩
  have hi : xin (Int32.ofNat R) 100 = true := o_in (by omega) (by omega)
  have hn : (Int32.ofNat R).toNatClampNeg = R := o_nat (by omega)
  have s4 : F_X0_picked m2 = some (Int64.ofNat (msk (nb L W (pg P p nf 0) R).2.2), m2) := by
    unfold F_X0_picked
    rw [s3.1, if_pos hi, hn, show ag_bag_things = 83 from rfl, (s3.2 R (Nat.le_refl _)).2]
  have hsz : m1.1 ag_facts fFacts_size = Int32.ofNat nf := (congrFun (kp_row K (show ag_facts < 31 by decide)) _).trans H.1.2.1.1
  unfold F_X9_linesKept
  rw [r1, Option.bind_some]
  dsimp only
  rw [hsz, show Int32.ofNat nf - 1 = Int32.ofNat nf + -1 by grind]
  refine s1.trans ?_
  show (F_X0_picked m2).bind _ = _
  rw [s4, Option.bind_some, hP]
theorem two60 : ∀ k : Fin 60, ((2 : Int64) <<< ((Int32.ofNat k.1).toInt64 &&& 63)) - (1 : Int64) = Int64.ofNat (2 ^ (k.1 + 1) - 1) := by decide +kernel
theorem and64n {a b : Nat} : Int64.ofNat a &&& Int64.ofNat b = Int64.ofNat (a &&& b) := by
  rw [← Int64.toBitVec_inj, Int64.toBitVec_and]
  show BitVec.ofNat 64 a &&& BitVec.ofNat 64 b = BitVec.ofNat 64 (a &&& b)
  rw [BitVec.ofNat_and]
/-- what the class answers for f -/
theorem c_number {m : xMem} (H : xRel t nf nw nl ne tp n m.1) {L W : Nat → Nat} (hLW : LWok m.1 nf L W) {f R : Nat} (hf : f < nf) (hR : R ≤ 99) : ∃ m2, F_X9_number (Int32.ofNat f) (Int32.ofNat R) m = some (Int32.ofNat (wk L W f (pg (m.1 ag_facts_place) (m.1 ag_facts_place f) nf 0) R 0), m2) ∧ xKeep m m2 := by
  obtain ⟨h1, h2, h3, h4, h5, h6, h7, h8, h9, h10⟩ := id H
  have hb := h1.1
  obtain ⟨-, ⟨a1, a2⟩, ⟨b1, b2⟩, ⟨c1, c2⟩, ⟨d1, d2⟩, e1, e2⟩ := id h1
  obtain ⟨m2, s1, K⟩ := c_linesKept H hLW (p := m.1 ag_facts_place f) hR
  refine ⟨m2, ?_, K⟩
  have q1 : 0 ≤ Int32.ofNat f ∧ Int32.ofNat f < Int32.ofNat nf := ⟨by rw [o_zero, o_le (by omega) (by omega)]; omega, (o_lt (by omega) (by omega)).mpr hf⟩
  have q2 : 0 ≤ Int32.ofNat R ∧ Int32.ofNat R ≤ 99 := ⟨by rw [o_zero, o_le (by omega) (by omega)]; omega, (o_le (b := 99) (by omega) (by omega)).mpr hR⟩
  have hi : xin (Int32.ofNat f) 60 = true := o_in (by omega) (by omega)
  have hn : (Int32.ofNat f).toNatClampNeg = f := o_nat (by omega)
  have d10 : ¬ ((1 : Int32) = 0) := by decide
  have hpw := pg_pw (P := m.1 ag_facts_place) (p := m.1 ag_facts_place f) nf 0
  have hmem := fun x => pg_mem (P := m.1 ag_facts_place) (p := m.1 ag_facts_place f) nf 0 x
  generalize pg (m.1 ag_facts_place) (m.1 ag_facts_place f) nf 0 = ps at *
  have hw : ∀ x ∈ ps, 0 ≤ x ∧ W x ≤ 999 := fun x hx => ⟨Nat.zero_le _, (hLW x (by have := hmem x hx; omega)).2.2.2.2.2.2⟩
  rw [wk_eq ps 0 R 0 hw hpw, Nat.zero_add]
  generalize (nb L W ps R).2.2 = ch at *
  unfold F_X9_number
  rw [g_has, Option.bind_some]
  dsimp only
  rw [a1, if_pos q1, if_neg d10, g_wi, Option.bind_some]
  dsimp only
  rw [if_pos q2, if_neg d10, if_pos hi, hn, s1, Option.bind_some]
  dsimp only
  by_cases g : f ∈ ch
  · have e : ¬ _ := fun w => by
      have := (and64 (S := msk ch) (show f < 60 by omega)).mp w
      rw [msk_b, decide_eq_true g] at this
      cases this
    rw [if_neg (fun w => e ((lg_cmp_eq _ _).mp w)), if_pos g, two60 ⟨f, by omega⟩, and64n, c_bitCount, Option.bind_some]
    · congr 3
      rw [show f + 1 = 0 + (f + 1) by omega, Nat.zero_add]
      have h64 : xct (msk ch &&& (2 ^ (f + 1) - 1)).testBit 64 = xct (msk ch &&& (2 ^ (f + 1) - 1)).testBit (f + 1) := by
        have := xct_ext (P := (msk ch &&& (2 ^ (f + 1) - 1)).testBit) (a := f + 1) (64 - (f + 1)) (fun j w1 _ => by
          rw [Nat.and_two_pow_sub_one_eq_mod, Nat.testBit_mod_two_pow, decide_eq_false (by omega), Bool.false_and])
        rw [← this]; congr 1; omega
      rw [h64]
      refine congrArg Int32.ofNat (xct_cg (f + 1) (fun k hk => ?_))
      rw [Nat.and_two_pow_sub_one_eq_mod, Nat.testBit_mod_two_pow, decide_eq_true hk, Bool.true_and, msk_b]
    · refine Nat.lt_of_le_of_lt Nat.and_le_right ?_
      show 2 ^ (f + 1) - 1 < 2 ^ 64
      have : 2 ^ (f + 1) ≤ 2 ^ 63 := Nat.pow_le_pow_right (by omega) (by omega)
      omega
  · have e := (and64 (S := msk ch) (show f < 60 by omega)).mpr (by rw [msk_b, decide_eq_false g])
    rw [if_pos ((lg_cmp_eq _ _).mpr e), if_neg g]
    rfl
end NC
