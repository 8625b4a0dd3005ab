section PN
variable {t nf nw nl ne tp : Nat} {n : Nat → Nat}
/-- the doubt of place p over the first k facts -/
def dbs (P C : Nat → Int32) (p : Nat) : Nat → Int
  | 0 => 0
  | k + 1 => dbs P C p k + (if P k = Int32.ofNat p then 1000000 - (C k).toInt else 0)
theorem dbs_rg {P C : Nat → Int32} {p : Nat} : ∀ k, (∀ i, i < k → 0 ≤ (C i).toInt ∧ (C i).toInt ≤ 1000000) → 0 ≤ dbs P C p k ∧ dbs P C p k ≤ 1000000 * k
  | 0, _ => by
    show (0 : Int) ≤ 0 ∧ (0 : Int) ≤ 1000000 * 0
    omega
  | k + 1, h => by
    have ih := dbs_rg (P := P) (C := C) (p := p) k (fun i hi => h i (by omega))
    have := h k (by omega)
    unfold dbs
    push_cast
    split <;> omega
theorem chf_cg {I J : xI} {nw : Nat} (h2 : J 2 = I 2) (h5 : J 5 = I 5) (h8 : J 8 = I 8) (h9 : J 9 = I 9) : chf J nw = chf I nw := by
  funext i
  unfold chf rtf
  rw [show ag_facts_kindYears = 8 from rfl, show ag_facts_kindChanges = 9 from rfl, show ag_facts_kind = 2 from rfl, show ag_facts_year = 5 from rfl, h2, h5, h8, h9]
theorem dstep {x C : Int32} {d : Int} {k : Nat} (hk : k < 60) (hx : x.toInt = d) (h0 : 0 ≤ d) (h1 : d ≤ 1000000 * k) (c0 : 0 ≤ C.toInt) (c1 : C.toInt ≤ 1000000) : (x + ((1000000 : Int32) - C)).toInt = d + (1000000 - C.toInt) := by
  have z : (1000000 : Int32).toInt = 1000000 := rfl
  have s1 : ((1000000 : Int32) - C).toInt = 1000000 - C.toInt := by rw [i_sub (by omega) (by omega), z]
  rw [i_add (by omega) (by omega), s1, hx]
theorem dbs_s {P C : Nat → Int32} {p k : Nat} : dbs P C p (k + 1) = dbs P C p k + (if P k = Int32.ofNat p then 1000000 - (C k).toInt else 0) := rfl
theorem c_dbl {m : xMem} (ht : t ≤ 600) (H : xRel t nf nw nl ne tp n m.1) (p : Nat) {P C : Nat → Int32} (hP : P = m.1 ag_facts_place) (hC : C = chf m.1 nw) : ∀ (k a fk : Nat) (x : Int32), a + k = nf → k < fk → x.toInt = dbs P C p a → ∃ v, L_X2_doubtOf_4 (Int32.ofNat p) fk x (Int32.ofNat a) m = some (v, m) ∧ v.toInt = dbs P C p nf
  | 0, a, fk + 1, x, h, _, hx => by
    obtain ⟨h1, h2, h3, h4, h5, h6, h7, h8, h9, h10⟩ := id H
    have hb := h1.1
    obtain ⟨-, ⟨a1, a2⟩, ⟨b1, b2⟩, ⟨c1, c2⟩, ⟨d1, d2⟩, e1, e2⟩ := id h1
    have q : Int32.ofNat nf ≤ Int32.ofNat a := (o_le (by omega) (by omega)).mpr (by omega)
    have ha : a = nf := by omega
    refine ⟨x, ?_, ha ▸ hx⟩
    simp (decide := true) only [Option.bind_some, ↓reduceIte, xst_f, xst_k, xst_s, ne_eq, not_false_eq_true, not_true_eq_false, and_self, and_true, true_and, and_false, false_and, or_true, true_or, or_false, false_or, L_X2_doubtOf_4, a1, q]
  | k + 1, a, fk + 1, x, h, hf, hx => by
    have hrec := fun x => c_dbl ht H p hP hC k (a + 1) fk x (by omega) (by omega)
    have crg : ∀ i, i < nf → 0 ≤ (C i).toInt ∧ (C i).toInt ≤ 1000000 := fun i hi => by rw [hC]; exact chf_rg ht H hi
    have hch : F_X2_chanceOf (Int32.ofNat a) m = some (C a, m) := by rw [hC]; exact c_chanceOf ht H (show a < nf by omega)
    have hpl : m.1 ag_facts_place a = P a := by rw [hP]
    clear hP hC
    obtain ⟨h1, h2, h3, h4, h5, h6, h7, h8, h9, h10⟩ := id H
    have hb := h1.1
    obtain ⟨-, ⟨a1, a2⟩, ⟨b1, b2⟩, ⟨c1, c2⟩, ⟨d1, d2⟩, e1, e2⟩ := id h1
    have q : ¬ Int32.ofNat nf ≤ Int32.ofNat a := fun q => by have := (o_le (by omega) (by omega)).mp q; omega
    have hi : xin (Int32.ofNat a) 60 = true := o_in (by omega) (by omega)
    have hn : (Int32.ofNat a).toNatClampNeg = a := o_nat (by omega)
    have r1 := dbs_rg (P := P) (C := C) (p := p) a (fun i hi => crg i (by omega))
    have r2 := crg a (by omega)
    by_cases g : P a = Int32.ofNat p
    · obtain ⟨v, w1, w2⟩ := hrec (x + ((1000000 : Int32) - C a)) (by
        rw [dstep (k := a) (by omega) hx r1.1 r1.2 r2.1 r2.2, dbs_s, if_pos g])
      refine ⟨v, ?_, w2⟩
      simp (decide := true) only [Option.bind_some, ↓reduceIte, xst_f, xst_k, xst_s, ne_eq, not_false_eq_true, not_true_eq_false, and_self, and_true, true_and, and_false, false_and, or_true, true_or, or_false, false_or, L_X2_doubtOf_4, a1, q, hi, hn, hpl, g, hch, J_X2_doubtOf_33, o_succ, w1]
    · obtain ⟨v, w1, w2⟩ := hrec x (by rw [hx, dbs_s, if_neg g, Int.add_zero])
      refine ⟨v, ?_, w2⟩
      simp (decide := true) only [Option.bind_some, ↓reduceIte, xst_f, xst_k, xst_s, ne_eq, not_false_eq_true, not_true_eq_false, and_self, and_true, true_and, and_false, false_and, or_true, true_or, or_false, false_or, L_X2_doubtOf_4, a1, q, hi, hn, hpl, g, J_X2_doubtOf_33, o_succ, w1]
theorem c_doubtOf {m : xMem} (ht : t ≤ 600) (H : xRel t nf nw nl ne tp n m.1) (p : Nat) : ∃ v, F_X2_doubtOf (Int32.ofNat p) m = some (v, m) ∧ v.toInt = dbs (m.1 ag_facts_place) (chf m.1 nw) p nf := by
  obtain ⟨v, w1, w2⟩ := c_dbl ht H p rfl rfl nf 0 xfuel 0 (by omega) (by have := H.1.1; rw [xfuel_eq]; omega) rfl
  exact ⟨v, w1, w2⟩
/-- the days that a place takes -/
def dnv (I : xI) (p : Nat) : Nat := (I ag_daysOf p).toNatClampNeg
theorem dn_e {I : xI} (h : I_days I) {p : Nat} (hp : p < 10) : I ag_daysOf p = Int32.ofNat (dnv I p) ∧ I am_takes p = Int32.ofNat (dnv I p) ∧ 1 ≤ dnv I p ∧ dnv I p ≤ 20 := by
  obtain ⟨h1, h2, h3⟩ := h p hp
  obtain ⟨d, hd, e⟩ := g_ixl (n := 20) (x := I ag_daysOf p) ⟨by grind, h3⟩ (by decide)
  have e2 : dnv I p = d := by unfold dnv; rw [e]; exact o_nat (by omega)
  rw [e2]
  refine ⟨e, h1 ▸ e, ?_, hd⟩
  rw [e] at h2
  exact (o_le (a := 1) (by omega) (by omega)).mp h2
/-- the bag after p places -/
def bgP (D : Nat → Nat) (G : Nat → Int) (R p : Nat) (m : xMem) : Prop := m.1 ag_bag fBag_room = Int32.ofNat R ∧ ∀ l, l ≤ R → (m.2 82 l).toInt = (kop D G p l).1 ∧ m.2 83 l = Int64.ofNat (kop D G p l).2
theorem kp_row {m m' : xMem} (h : xKeep m m') {a : Nat} (ha : a < 31) : m'.1 a = m.1 a := h.row (xsc_n (Or.inl ha))
theorem dsI_s {G : Nat → Int} {S k : Nat} : dsI G S (k + 1) = dsI G S k + (if S.testBit k then G k else 0) := rfl
theorem kop_s {D : Nat → Nat} {G : Nat → Int} {p l : Nat} : kop D G (p + 1) l = if D p ≤ l ∧ (kop D G p l).1 < (kop D G p (l - D p)).1 + (1000 * G p - D p) then ((kop D G p (l - D p)).1 + (1000 * G p - D p), 2 ^ p + (kop D G p (l - D p)).2) else kop D G p l := rfl
theorem c_pl {m : xMem} {D : Nat → Nat} {G : Nat → Int} (hD : ∀ p, p < 10 → m.1 ag_daysOf p = Int32.ofNat (D p) ∧ 1 ≤ D p ∧ D p ≤ 20) (hG : ∀ p, p < 10 → (∀ m1, xKeep m m1 → ∃ v, F_X2_doubtOf (Int32.ofNat p) m1 = some (v, m1) ∧ v.toInt = G p) ∧ 0 ≤ G p ∧ G p ≤ 60000000) {R : Nat} (hR : R ≤ 99) {c : xMem → Option (Int64 × xMem)} : ∀ (k a fk : Nat) (m1 : xMem), a + k = 10 → k < fk → xKeep m m1 → bgP D G R a m1 → ∃ m2, L_X9_placesFor_10 c fk (Int32.ofNat a) m1 = c m2 ∧ xKeep m m2 ∧ bgP D G R 10 m2
  | 0, a, fk + 1, m1, h, _, K, B => by
    have q : 10 ≤ Int32.ofNat a := (o_le (a := 10) (by omega) (by omega)).mpr (by omega)
    have ha : a = 10 := by omega
    refine ⟨m1, ?_, K, ha ▸ B⟩
    simp (decide := true) only [Option.bind_some, ↓reduceIte, xst_f, xst_k, xst_s, ne_eq, not_false_eq_true, not_true_eq_false, and_self, and_true, true_and, and_false, false_and, or_true, true_or, or_false, false_or, L_X9_placesFor_10, q]
  | k + 1, a, fk + 1, m1, h, hf, K, B => by
    have q : ¬ 10 ≤ Int32.ofNat a := fun q => by have := (o_le (a := 10) (by omega) (by omega)).mp q; omega
    have hi : xin (Int32.ofNat a) 10 = true := o_in (by omega) (by omega)
    have hn : (Int32.ofNat a).toNatClampNeg = a := o_nat (by omega)
    obtain ⟨hGa, G0a, G1a⟩ := hG a (by omega)
    obtain ⟨v, w1, w2⟩ := hGa m1 K
    obtain ⟨e1, e3, e4⟩ := hD a (by omega)
    have e1' : m1.1 ag_daysOf a = Int32.ofNat (D a) := (K.1 ag_daysOf a (xsc_n (by decide) a)).trans e1
    obtain ⟨m2, r1, r2, r3, r4, r5⟩ := c_off (th := a) (d := D a) (x := 0) (sc := v.toInt64 * 1000 - (Int32.ofNat (D a)).toInt64) e3 (by omega) R xfuel m1 hR (by rw [xfuel_eq]; omega)
    have ksc : (v.toInt64 * 1000 - (Int32.ofNat (D a)).toInt64).toInt = 1000 * G a - D a := by
      have z : (1000 : Int64).toInt = 1000 := rfl
      have y1 : v.toInt64.toInt = v.toInt := Int32.toInt_toInt64 _
      have y2 : (Int32.ofNat (D a)).toInt64.toInt = D a := by rw [Int32.toInt_toInt64, o_toInt (by omega)]
      have y3 : (v.toInt64 * 1000).toInt = 1000 * G a := by
        rw [j_mul (by rw [y1, z, w2]; omega) (by rw [y1, z, w2]; omega), y1, z, w2]; omega
      rw [j_sub (by rw [y2, y3]; omega) (by rw [y2, y3]; omega), y2, y3]
    have K2 : xKeep m m2 := K.trans ⟨fun b j _ => by rw [r2], r3 92 (by decide) (by decide)⟩
    have kr := fun l => kop_rg (D := D) (G := G) (N := 60000000) (fun p hp => (hG p hp).2) (by omega) a (by omega) l
    have B2 : bgP D G R (a + 1) m2 := by
      refine ⟨by rw [r2]; exact B.1, fun l hl => ?_⟩
      obtain ⟨b1, b2⟩ := B.2 l hl
      obtain ⟨b3, b4⟩ := B.2 (l - D a) (by omega)
      have k1 := kr l
      have k2 := kr (l - D a)
      have ad : (m1.2 82 (l - D a) + (v.toInt64 * 1000 - (Int32.ofNat (D a)).toInt64)).toInt = (kop D G a (l - D a)).1 + (1000 * G a - D a) := by
        rw [j_add (by rw [ksc, b3]; omega) (by rw [ksc, b3]; omega), ksc, b3]
      rw [r4, r5, kop_s]
      by_cases w : D a ≤ l ∧ (kop D G a l).1 < (kop D G a (l - D a)).1 + (1000 * G a - D a)
      · have wb : l ≤ R ∧ D a ≤ l ∧ btr 0 (m1.2 82 (l - D a) + (v.toInt64 * 1000 - (Int32.ofNat (D a)).toInt64)) (m1.2 82 l) = true := by
          refine ⟨hl, w.1, ?_⟩
          unfold btr
          rw [if_pos rfl]
          refine decide_eq_true ?_
          rw [Int64.lt_iff_toInt_lt, ad, b1]
          exact w.2
        rw [if_pos wb, if_pos wb, if_pos w]
        refine ⟨ad, ?_⟩
        rw [b4, (bt64 ⟨a, by omega⟩).1, or64, or_two (kop_lt a _ (by omega))]
      · have wb : ¬ (l ≤ R ∧ D a ≤ l ∧ btr 0 (m1.2 82 (l - D a) + (v.toInt64 * 1000 - (Int32.ofNat (D a)).toInt64)) (m1.2 82 l) = true) := by
          rintro ⟨-, y1, y2⟩
          unfold btr at y2
          rw [if_pos rfl] at y2
          have y3 := of_decide_eq_true y2
          rw [Int64.lt_iff_toInt_lt, ad, b1] at y3
          exact w ⟨y1, y3⟩
        rw [if_neg wb, if_neg wb, if_neg w]
        exact ⟨b1, b2⟩
    obtain ⟨m3, s1, s2, s3⟩ := c_pl hD hG hR (c := c) k (a + 1) fk m2 (by omega) (by omega) K2 B2
    refine ⟨m3, ?_, s2, s3⟩
    rw [← s1, L_X9_placesFor_10]
    simp (decide := true) only [Option.bind_some, ↓reduceIte, xst_f, xst_k, xst_s, ne_eq, not_false_eq_true, not_true_eq_false, and_self, and_true, true_and, and_false, false_and, or_true, true_or, or_false, false_or, q, hi, hn, w1, e1', F_X0_offer, B.1, r1, o_succ]
theorem c_placesFor {m : xMem} {D : Nat → Nat} {G : Nat → Int} (hD : ∀ p, p < 10 → m.1 ag_daysOf p = Int32.ofNat (D p) ∧ 1 ≤ D p ∧ D p ≤ 20) (hG : ∀ p, p < 10 → (∀ m1, xKeep m m1 → ∃ v, F_X2_doubtOf (Int32.ofNat p) m1 = some (v, m1) ∧ v.toInt = G p) ∧ 0 ≤ G p ∧ G p ≤ 60000000) {R : Nat} (hR : R ≤ 99) : ∃ m2, F_X9_placesFor (Int32.ofNat R) m = some (Int64.ofNat (kop D G 10 R).2, m2) ∧ xKeep m m2 := by
  obtain ⟨m1, r1, r2, r3, r4⟩ := c_bopen m (Int32.ofNat R)
  have K : xKeep m m1 := by
    refine ⟨fun a k q => ?_, r3 92 (by decide) (by decide)⟩
    rw [r2, xst_n]
    rintro ⟨w1, w2⟩
    rw [w1] at q
    exact absurd q (by unfold xscr; simp)
  obtain ⟨m2, s1, s2, s3⟩ := c_pl hD hG hR (c := fun m_5 => (F_X0_picked m_5).bind fun q_6 => some (q_6.1, q_6.2)) 10 0 xfuel m1 (by omega) (by decide) K ⟨by rw [r2]; exact xst_s, fun l hl => by
    obtain ⟨y1, y2⟩ := r4 l (by omega)
    rw [y1, y2]
    exact ⟨rfl, rfl⟩⟩
  refine ⟨m2, ?_, s2⟩
  have hi : xin (Int32.ofNat R) 100 = true := o_in (by omega) (by omega)
  have hn : (Int32.ofNat R).toNatClampNeg = R := o_nat (by omega)
  rw [← o_zero] at s1
  have s4 : F_X0_picked m2 = some (Int64.ofNat (kop D G 10 R).2, m2) := by
    unfold F_X0_picked
    rw [s3.1, if_pos hi, hn, show ag_bag_things = 83 from rfl, (s3.2 R (Nat.le_refl _)).2]
  unfold F_X9_placesFor
  rw [r1, Option.bind_some]
  refine s1.trans ?_
  show (F_X0_picked m2).bind _ = _
  rw [s4, Option.bind_some]
theorem c_dset {m : xMem} {D : Nat → Nat} {G : Nat → Int} (hD : ∀ p, p < 10 → m.1 ag_daysOf p = Int32.ofNat (D p) ∧ 1 ≤ D p ∧ D p ≤ 20) (hG : ∀ p, p < 10 → (∀ m1, xKeep m m1 → ∃ v, F_X2_doubtOf (Int32.ofNat p) m1 = some (v, m1) ∧ v.toInt = G p) ∧ 0 ≤ G p ∧ G p ≤ 60000000) (S : Nat) : ∀ (k a fk : Nat) (x : Int32), a + k = 10 → k < fk → x.toInt = dsI G S a → 0 ≤ x.toInt → x.toInt ≤ 60000000 * a → ∃ v, L_X9_doubtOfSet_5 (Int64.ofNat S) fk x (Int32.ofNat a) m = some (v, m) ∧ v.toInt = dsI G S 10 ∧ 0 ≤ v.toInt ∧ v.toInt ≤ 600000000
  | 0, a, fk + 1, x, h, _, hx, x0, x1 => by
    have q : 10 ≤ Int32.ofNat a := (o_le (a := 10) (by omega) (by omega)).mpr (by omega)
    have ha : a = 10 := by omega
    subst ha
    refine ⟨x, ?_, hx, x0, by omega⟩
    simp (decide := true) only [Option.bind_some, ↓reduceIte, xst_f, xst_k, xst_s, ne_eq, not_false_eq_true, not_true_eq_false, and_self, and_true, true_and, and_false, false_and, or_true, true_or, or_false, false_or, L_X9_doubtOfSet_5, q]
  | k + 1, a, fk + 1, x, h, hf, hx, x0, x1 => by
    have hrec := fun x => c_dset hD hG S k (a + 1) fk x (by omega) (by omega)
    have q : ¬ 10 ≤ Int32.ofNat a := fun q => by have := (o_le (a := 10) (by omega) (by omega)).mp q; omega
    obtain ⟨hGa, G0a, G1a⟩ := hG a (by omega)
    obtain ⟨v, w1, w2⟩ := hGa m (xKeep.refl m)
    by_cases tb : S.testBit a = false
    · have e := (and64 (S := S) (show a < 60 by omega)).mpr tb
      obtain ⟨v, u1, u2⟩ := hrec x (by rw [hx]; rw [dsI_s, tb]; simp) x0 (by push_cast; omega)
      refine ⟨v, ?_, u2⟩
      simp (decide := true) only [Option.bind_some, ↓reduceIte, xst_f, xst_k, xst_s, ne_eq, not_false_eq_true, not_true_eq_false, and_self, and_true, true_and, and_false, false_and, or_true, true_or, or_false, false_or, L_X9_doubtOfSet_5, q, lg_cmp_eq, e, J_X9_doubtOfSet_35, o_succ, u1]
    · have e : ¬ _ := fun w => tb ((and64 (S := S) (show a < 60 by omega)).mp w)
      have tb' : S.testBit a = true := by simpa using tb
      have ad : (x + v).toInt = x.toInt + v.toInt := i_add (by omega) (by omega)
      obtain ⟨v', u1, u2⟩ := hrec (x + v) (by rw [ad, hx, w2]; rw [dsI_s, tb']; simp) (by omega) (by push_cast; omega)
      refine ⟨v', ?_, u2⟩
      simp (decide := true) only [Option.bind_some, ↓reduceIte, xst_f, xst_k, xst_s, ne_eq, not_false_eq_true, not_true_eq_false, and_self, and_true, true_and, and_false, false_and, or_true, true_or, or_false, false_or, L_X9_doubtOfSet_5, q, lg_cmp_eq, e, w1, J_X9_doubtOfSet_35, o_succ, u1]
end PN
