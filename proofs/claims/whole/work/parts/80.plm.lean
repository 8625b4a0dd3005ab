section PM
variable {t nf nw nl ne tp : Nat} {n : Nat → Nat}
theorem m_in {x y : Int32} {c : xMem → Option (Int32 × xMem)} : ∀ (k a fk : Nat) (m : xMem), a + k = 10 → k < fk → ∃ m', L_X10_plan_28 x y c fk (Int32.ofNat a) m = c m' ∧ m'.1 = m.1 ∧ (∀ b, b ≠ 112 → m'.2 b = m.2 b) ∧ ∀ l, l < 10 → m'.2 112 l = if a ≤ l then 0 else m.2 112 l
  | 0, a, fk + 1, m, h, _ => by
    have q : 10 ≤ Int32.ofNat a := (o_le (a := 10) (by omega) (by omega)).mpr (by omega)
    refine ⟨m, ?_, rfl, fun _ _ => rfl, fun l hl => ?_⟩
    · simp (decide := true) only [Option.bind_some, ↓reduceIte, xst_f, xst_k, xst_s, ne_eq, not_false_eq_true, not_true_eq_false, and_self, and_true, true_and, and_false, false_and, or_true, true_or, or_false, false_or, L_X10_plan_28, q]
    · rw [if_neg (by omega)]
  | k + 1, a, fk + 1, m, h, hf => by
    have q : ¬ 10 ≤ Int32.ofNat a := fun w => by have := (o_le (a := 10) (by omega) (by omega)).mp w; omega
    have i1 : xin (Int32.ofNat a) 10 = true := o_in (by omega) (by omega)
    have n1 : (Int32.ofNat a).toNatClampNeg = a := o_nat (by omega)
    obtain ⟨m', r1, r2, r3, r4⟩ := m_in (x := x) (y := y) (c := c) k (a + 1) fk (m.1, xsl m.2 112 a 0) (by omega) (by omega)
    refine ⟨m', ?_, r2, fun b w => (r3 b w).trans (xsl_f (fun u => w u.symm)), fun l hl => ?_⟩
    · rw [← r1, L_X10_plan_28]
      simp (decide := true) only [Option.bind_some, ↓reduceIte, xst_f, xst_k, xst_s, ne_eq, not_false_eq_true, not_true_eq_false, and_self, and_true, true_and, and_false, false_and, or_true, true_or, or_false, false_or, q, i1, n1, o_succ]
    · rw [r4 l hl]
      show (if a + 1 ≤ l then 0 else xsl m.2 112 a 0 112 l) = _
      by_cases w : l = a
      · subst w
        rw [if_neg (by omega), if_pos (Nat.le_refl _), xsl_s]
      · rw [xsl_n (fun u => w u.2)]
        exact ifl ⟨fun u => by omega, fun u => by omega⟩
theorem dstep6 {x : Int64} {C : Int32} {d : Int} {k : Nat} (hk : k < 60) (hx : x.toInt = d) (h0 : 0 ≤ d) (h1 : d ≤ 1000000 * k) (c0 : 0 ≤ C.toInt) (c1 : C.toInt ≤ 1000000) : (x + ((1000000 : Int32) - C).toInt64).toInt = d + (1000000 - C.toInt) := by
  have z : (1000000 : Int32).toInt = 1000000 := rfl
  have s1 : ((1000000 : Int32) - C).toInt = 1000000 - C.toInt := by rw [i_sub (by omega) (by omega), z]
  have s2 : ((1000000 : Int32) - C).toInt64.toInt = 1000000 - C.toInt := by rw [Int32.toInt_toInt64, s1]
  rw [j_add (by omega) (by omega), s2, hx]
theorem m_ac {I : xI} (ht : t ≤ 600) (H : xRel t nf nw nl ne tp n I) {x y : Int32} {c : xMem → Option (Int32 × xMem)} {P C : Nat → Int32} (hP : P = I ag_facts_place) (hC : C = chf I nw) : ∀ (k a fk : Nat) (m : xMem), a + k = nf → k < fk → m.1 = I → (∀ p, p < 10 → (m.2 112 p).toInt = dbs P C p a) → ∃ m', L_X10_plan_49 x y c fk (Int32.ofNat a) m = c m' ∧ m'.1 = I ∧ (∀ b, b ≠ 112 → m'.2 b = m.2 b) ∧ ∀ p, p < 10 → (m'.2 112 p).toInt = dbs P C p nf
  | 0, a, fk + 1, m, h, _, hI, hd => by
    subst hI
    obtain ⟨h1, h2, h3, h4, h5, h6, h7, h8, h9, h10⟩ := id H
    have hb := h1.1
    obtain ⟨-, ⟨a1, a2⟩, ⟨b1, b2⟩, ⟨c1, c2⟩, ⟨d1, d2⟩, e1, e2⟩ := id h1
    have q : Int32.ofNat nf ≤ Int32.ofNat a := (o_le (by omega) (by omega)).mpr (by omega)
    have ha : a = nf := by omega
    refine ⟨m, ?_, rfl, fun _ _ => rfl, ha ▸ hd⟩
    simp (decide := true) only [Option.bind_some, ↓reduceIte, xst_f, xst_k, xst_s, ne_eq, not_false_eq_true, not_true_eq_false, and_self, and_true, true_and, and_false, false_and, or_true, true_or, or_false, false_or, L_X10_plan_49, a2, q]
  | k + 1, a, fk + 1, m, h, hf, hI, hd => by
    have hrec := fun m => m_ac ht H (x := x) (y := y) (c := c) hP hC k (a + 1) fk m (by omega) (by omega)
    have crg : ∀ i, i < nf → 0 ≤ (C i).toInt ∧ (C i).toInt ≤ 1000000 := fun i hi => by rw [hC]; exact chf_rg (m := (I, m.2)) ht H hi
    have hch : F_X10_chanceOf (Int32.ofNat a) m = some (C a, m) := by rw [hC, ← hI]; exact m_chanceOf ht (hI ▸ H) (show a < nf by omega)
    have hpl : m.1 am_placeOf a = P a ∧ xrg (P a) 0 9 := by
      obtain ⟨-, ⟨p1, p2⟩, -⟩ := H.2.1 a (by omega)
      rw [hI, hP]
      exact ⟨p1.symm, p2⟩
    clear hP hC
    subst hI
    obtain ⟨h1, h2, h3, h4, h5, h6, h7, h8, h9, h10⟩ := id H
    have hb := h1.1
    obtain ⟨-, ⟨a1, a2⟩, ⟨b1, b2⟩, ⟨c1, c2⟩, ⟨d1, d2⟩, e1, e2⟩ := id h1
    have q : ¬ Int32.ofNat nf ≤ Int32.ofNat a := fun q => by have := (o_le (by omega) (by omega)).mp q; omega
    have hi : xin (Int32.ofNat a) 60 = true := o_in (by omega) (by omega)
    have hn : (Int32.ofNat a).toNatClampNeg = a := o_nat (by omega)
    obtain ⟨p0, hp0, hpe⟩ := g_rx (n := 9) hpl.2 (by omega)
    have hi2 : xin (Int32.ofNat p0) 10 = true := o_in (by omega) (by omega)
    have hn2 : (Int32.ofNat p0).toNatClampNeg = p0 := o_nat (by omega)
    have r2 := crg a (by omega)
    obtain ⟨m', w1, w2, w3, w4⟩ := hrec (m.1, xsl m.2 112 p0 (m.2 112 p0 + ((1000000 : Int32) - C a).toInt64)) rfl (fun p hp => by
      have r1 := dbs_rg (P := P) (C := C) (p := p) a (fun i hi => crg i (by omega))
      show (xsl m.2 112 p0 _ 112 p).toInt = _
      by_cases e : p = p0
      · subst e
        rw [xsl_s, dstep6 (k := a) (by omega) (hd p hp) r1.1 r1.2 r2.1 r2.2, dbs_s, if_pos hpe]
      · rw [xsl_n (fun w => e w.2), hd p hp, dbs_s, if_neg, Int.add_zero]
        rw [hpe, o_eq (by omega) (by omega)]
        omega)
    refine ⟨m', ?_, w2, fun b w => (w3 b w).trans (xsl_f (fun u => w u.symm)), w4⟩
    rw [← w1, L_X10_plan_49]
    simp (decide := true) only [Option.bind_some, ↓reduceIte, xst_f, xst_k, xst_s, ne_eq, not_false_eq_true, not_true_eq_false, and_self, and_true, true_and, and_false, false_and, or_true, true_or, or_false, false_or, a2, q, hi, hn, hpl.1, hpe, hi2, hn2, hch, o_succ]
theorem dsm_s {D : Nat → Nat} {S k : Nat} : dsm D S (k + 1) = dsm D S k + (if S.testBit k then D k else 0) := rfl
theorem m_dy {m : xMem} {D : Nat → Nat} (hD : ∀ p, p < 10 → m.1 am_takes p = Int32.ofNat (D p) ∧ D p ≤ 20) {S : Nat} (hS : S < 1024) : ∀ (k a fk : Nat), a + k = 10 → k < fk → L_X10_daysOf_4 (Int32.ofNat S) fk (Int32.ofNat (dsm D S a)) (Int32.ofNat a) m = some (Int32.ofNat (dsm D S 10), m)
  | 0, a, fk + 1, h, _ => by
    have q : 10 ≤ Int32.ofNat a := (o_le (a := 10) (by omega) (by omega)).mpr (by omega)
    have ha : a = 10 := by omega
    unfold L_X10_daysOf_4
    rw [if_pos q, ha]
  | k + 1, a, fk + 1, h, hf => by
    have hrec := m_dy hD hS k (a + 1) fk (by omega) (by omega)
    have q : ¬ 10 ≤ Int32.ofNat a := fun w => by have := (o_le (a := 10) (by omega) (by omega)).mp w; omega
    have i1 : xin (Int32.ofNat a) 10 = true := o_in (by omega) (by omega)
    have n1 : (Int32.ofNat a).toNatClampNeg = a := o_nat (by omega)
    have hb := pbit ⟨S, hS⟩ ⟨a, by omega⟩
    dsimp only at hb
    rw [dsm_s, ← o_add] at hrec
    unfold L_X10_daysOf_4
    rw [if_neg q]
    cases tb : S.testBit a with
    | true =>
      rw [tb] at hb hrec
      have hb' := of_decide_eq_true hb
      rw [if_pos hb', if_pos i1, n1, (hD a (by omega)).1]
      unfold J_X10_daysOf_30
      rw [o_succ]
      exact hrec
    | false =>
      rw [tb] at hb hrec
      have hb' := of_decide_eq_false hb
      rw [if_neg hb']
      unfold J_X10_daysOf_30
      rw [o_succ]
      exact hrec
theorem m_daysOf {m : xMem} {D : Nat → Nat} (hD : ∀ p, p < 10 → m.1 am_takes p = Int32.ofNat (D p) ∧ D p ≤ 20) {S : Nat} (hS : S < 1024) : F_X10_daysOf (Int32.ofNat S) m = some (Int32.ofNat (dsm D S 10), m) := by
  unfold F_X10_daysOf
  exact m_dy hD hS 10 0 xfuel (by omega) (by decide)
theorem m_dbt {m : xMem} {G : Nat → Int} (hG : ∀ p, p < 10 → (m.2 112 p).toInt = G p ∧ 0 ≤ G p ∧ G p ≤ 60000000) {S : Nat} (hS : S < 1024) : ∀ (k a fk : Nat) (x : Int64), a + k = 10 → k < fk → x.toInt = dsI G S a → 0 ≤ dsI G S a → dsI G S a ≤ 60000000 * a → ∃ v, L_X10_doubtOf_5 (Int32.ofNat S) fk x (Int32.ofNat a) m = some (v, m) ∧ v.toInt = dsI G S 10 ∧ 0 ≤ dsI G S 10 ∧ dsI G S 10 ≤ 600000000
  | 0, a, fk + 1, x, h, _, hx, h0, h1 => by
    have q : 10 ≤ Int32.ofNat a := (o_le (a := 10) (by omega) (by omega)).mpr (by omega)
    have ha : a = 10 := by omega
    subst ha
    refine ⟨x, ?_, hx, h0, by omega⟩
    unfold L_X10_doubtOf_5
    rw [if_pos q]
  | k + 1, a, fk + 1, x, h, hf, hx, h0, h1 => by
    have hrec := fun x => m_dbt hG hS k (a + 1) fk x (by omega) (by omega)
    have q : ¬ 10 ≤ Int32.ofNat a := fun w => by have := (o_le (a := 10) (by omega) (by omega)).mp w; omega
    have i1 : xin (Int32.ofNat a) 10 = true := o_in (by omega) (by omega)
    have n1 : (Int32.ofNat a).toNatClampNeg = a := o_nat (by omega)
    have hb := pbit ⟨S, hS⟩ ⟨a, by omega⟩
    dsimp only at hb
    obtain ⟨g1, g2, g3⟩ := hG a (by omega)
    rw [dsI_s] at hrec
    unfold L_X10_doubtOf_5
    rw [if_neg q]
    cases tb : S.testBit a with
    | true =>
      rw [tb] at hb hrec
      have hb' := of_decide_eq_true hb
      have ad : (x + m.2 112 a).toInt = x.toInt + G a := by rw [j_add (by omega) (by omega), g1]
      obtain ⟨v, w1, w2⟩ := hrec (x + m.2 112 a) (by rw [ad, hx]; rfl) (by rw [if_pos rfl]; omega) (by rw [if_pos rfl]; push_cast; omega)
      refine ⟨v, ?_, w2⟩
      rw [if_pos hb', if_pos i1, n1]
      unfold J_X10_doubtOf_34
      rw [o_succ]
      exact w1
    | false =>
      rw [tb] at hb hrec
      have hb' := of_decide_eq_false hb
      obtain ⟨v, w1, w2⟩ := hrec (x + 0) (by rw [Int64.add_zero, hx]; simp) (by simp; omega) (by simp; omega)
      refine ⟨v, ?_, w2⟩
      rw [if_neg hb']
      unfold J_X10_doubtOf_34
      rw [o_succ]
      exact w1
theorem m_doubtOf {m : xMem} {G : Nat → Int} (hG : ∀ p, p < 10 → (m.2 112 p).toInt = G p ∧ 0 ≤ G p ∧ G p ≤ 60000000) {S : Nat} (hS : S < 1024) : ∃ v, F_X10_doubtOf (Int32.ofNat S) m = some (v, m) ∧ v.toInt = dsI G S 10 ∧ 0 ≤ dsI G S 10 ∧ dsI G S 10 ≤ 600000000 := by
  unfold F_X10_doubtOf
  exact m_dbt hG hS 10 0 xfuel 0 (by omega) (by decide) rfl (Int.le_refl _) (Int.le_refl _)
theorem dsm_le {D : Nat → Nat} (hD : ∀ p, p < 10 → D p ≤ 20) {S : Nat} : ∀ k, k ≤ 10 → dsm D S k ≤ 20 * k
  | 0, _ => Nat.le_refl _
  | k + 1, h => by
    have := dsm_le hD (S := S) k (by omega)
    have h2 := hD k (by omega)
    rw [dsm_s]
    split <;> omega
theorem m_bs {m : xMem} {D : Nat → Nat} {G : Nat → Int} (hD : ∀ p, p < 10 → m.1 am_takes p = Int32.ofNat (D p) ∧ D p ≤ 20) (hG : ∀ p, p < 10 → (m.2 112 p).toInt = G p ∧ 0 ≤ G p ∧ G p ≤ 60000000) {R : Nat} (hR : R ≤ 99) {y : Int32} {c : Int32 → xMem → Option (Int32 × xMem)} : ∀ (k s fk b : Nat), s + k = 1024 → k < fk → 1 ≤ s → kbest D G s R b → ∃ b', L_X10_plan_92 (Int32.ofNat R) y c fk (Int32.ofNat b) (Int32.ofNat s) m = c (Int32.ofNat b') m ∧ kbest D G 1024 R b'
  | 0, s, fk + 1, b, h, _, _, B => by
    have q : 1024 ≤ Int32.ofNat s := (o_le (a := 1024) (by omega) (by omega)).mpr (by omega)
    have hs : s = 1024 := by omega
    refine ⟨b, ?_, hs ▸ B⟩
    unfold L_X10_plan_92
    rw [if_pos q]
  | k + 1, s, fk + 1, b, h, hf, h1, B => by
    have hrec := fun b B => m_bs hD hG hR (y := y) (c := c) k (s + 1) fk b (by omega) (by omega) (by omega) B
    have q : ¬ 1024 ≤ Int32.ofNat s := fun w => by have := (o_le (a := 1024) (by omega) (by omega)).mp w; omega
    obtain ⟨B1, B2, B3⟩ := id B
    obtain ⟨vs, u1, u2, u3, u4⟩ := m_doubtOf hG (show s < 1024 by omega)
    obtain ⟨vb, v1, v2, v3, v4⟩ := m_doubtOf hG (show b < 1024 by omega)
    have ds := m_daysOf hD (show s < 1024 by omega)
    have db := m_daysOf hD (show b < 1024 by omega)
    have ls := dsm_le (fun p hp => (hD p hp).2) (S := s) 10 (by omega)
    have lb := dsm_le (fun p hp => (hD p hp).2) (S := b) 10 (by omega)
    have take : dsm D s 10 ≤ R → kvl D G b < kvl D G s → kbest D G (s + 1) R s := by
      intro w1 w2
      refine ⟨by omega, w1, fun S hS hf => ?_⟩
      by_cases e : S = s
      · subst e; exact ⟨Int.le_refl _, fun w => absurd w (Nat.lt_irrefl _)⟩
      · have := (B3 S (by omega) hf).1
        exact ⟨by omega, fun _ => by omega⟩
    have leave : ¬ (dsm D s 10 ≤ R ∧ kvl D G b < kvl D G s) → kbest D G (s + 1) R b := by
      intro w
      refine ⟨by omega, B2, fun S hS hf => ?_⟩
      by_cases e : S = s
      · subst e
        refine ⟨?_, fun w' => by omega⟩
        have : ¬ kvl D G b < kvl D G S := fun w' => w ⟨hf, w'⟩
        omega
      · exact B3 S (by omega) hf
    have kv : ∀ S, kvl D G S = 1000 * dsI G S 10 - dsm D S 10 := fun _ => rfl
    have hg : (0 < lg_cmp vs vb) ↔ dsI G b 10 < dsI G s 10 := by rw [lg_cmp_gt, Int64.lt_iff_toInt_lt, u2, v2]
    have he : (lg_cmp vs vb = 0) ↔ dsI G s 10 = dsI G b 10 := by rw [lg_cmp_eq, ← Int64.toInt_inj, u2, v2]
    -- the two ways on
    have j0 : kbest D G (s + 1) R b → ∃ b', J_X10_plan_148 (fun y_1 y_2 m_3 => L_X10_plan_92 (Int32.ofNat R) y c fk y_1 y_2 m_3) c (Int32.ofNat R) y (Int32.ofNat b) (Int32.ofNat s) m = c (Int32.ofNat b') m ∧ kbest D G 1024 R b' := by
      intro w
      obtain ⟨b', r1, r2⟩ := hrec b w
      refine ⟨b', ?_, r2⟩
      unfold J_X10_plan_148 J_X10_plan_149
      rw [ds, Option.bind_some]
      dsimp only
      rw [if_pos rfl]
      unfold J_X10_plan_171 J_X10_plan_172
      rw [o_succ, ite_self]
      exact r1
    have j1 : (dsm D s 10 ≤ R → kvl D G b < kvl D G s) → ∃ b', J_X10_plan_144 (fun y_1 y_2 m_3 => L_X10_plan_92 (Int32.ofNat R) y c fk y_1 y_2 m_3) c (Int32.ofNat R) y (Int32.ofNat b) (Int32.ofNat s) m = c (Int32.ofNat b') m ∧ kbest D G 1024 R b' := by
      intro hm
      by_cases g : dsm D s 10 ≤ R
      · obtain ⟨b', r1, r2⟩ := hrec s (take g (hm g))
        refine ⟨b', ?_, r2⟩
        unfold J_X10_plan_144 J_X10_plan_149
        rw [ds, Option.bind_some]
        dsimp only
        rw [if_neg (fun w' => by have := (o_lt (by omega) (by omega)).mp w'; omega), if_neg (by decide)]
        unfold J_X10_plan_172
        rw [o_succ]
        exact r1
      · obtain ⟨b', r1, r2⟩ := hrec b (leave (fun w => g w.1))
        refine ⟨b', ?_, r2⟩
        unfold J_X10_plan_144 J_X10_plan_149
        rw [ds, Option.bind_some]
        dsimp only
        rw [if_pos ((o_lt (by omega) (by omega)).mpr (by omega))]
        unfold J_X10_plan_171 J_X10_plan_172
        rw [o_succ]
        exact r1
    have kb := kv b
    have ks := kv s
    unfold L_X10_plan_92
    rw [if_neg q, u1, Option.bind_some]
    dsimp only
    rw [v1, Option.bind_some]
    dsimp only
    by_cases g1 : 0 < lg_cmp vs vb
    · rw [if_pos g1]
      exact j1 (fun w => by have := hg.mp g1; omega)
    · rw [if_neg g1, u1, Option.bind_some]
      dsimp only
      rw [v1, Option.bind_some]
      dsimp only
      have g1' : ¬ dsI G b 10 < dsI G s 10 := fun w => g1 (hg.mpr w)
      by_cases g2 : lg_cmp vs vb = 0
      · have g2' := he.mp g2
        rw [if_pos g2, ds, Option.bind_some]
        dsimp only
        rw [db, Option.bind_some]
        dsimp only
        by_cases g3 : Int32.ofNat (dsm D b 10) ≤ Int32.ofNat (dsm D s 10)
        · rw [if_pos g3]
          have := (o_le (by omega) (by omega)).mp g3
          exact j0 (leave (fun w => by omega))
        · rw [if_neg g3]
          have : ¬ dsm D b 10 ≤ dsm D s 10 := fun w => g3 ((o_le (by omega) (by omega)).mpr w)
          exact j1 (fun w => by omega)
      · have g2' : ¬ dsI G s 10 = dsI G b 10 := fun w => g2 (he.mpr w)
        rw [if_neg g2]
        exact j0 (leave (fun w => by omega))
theorem pr_plan {m : xMem} (ht : t ≤ 600) (H : xRel t nf nw nl ne tp n m.1) (x y : Int32) : xPair (F_X9_plan x y) (F_X10_plan x y) t m := by
  by_cases h : 0 ≤ x ∧ x ≤ 99
  · by_cases g : 0 ≤ y ∧ y ≤ 1
    · obtain ⟨R, hR, rfl⟩ := g_ixl (n := 99) h (by decide)
      obtain ⟨D, hDe⟩ : ∃ D, D = dnv m.1 := ⟨_, rfl⟩
      obtain ⟨P, hP⟩ : ∃ P, P = m.1 ag_facts_place := ⟨_, rfl⟩
      obtain ⟨C, hC⟩ : ∃ C, C = chf m.1 nw := ⟨_, rfl⟩
      obtain ⟨G, hGe⟩ : ∃ G : Nat → Int, G = fun p => dbs P C p nf := ⟨_, rfl⟩
      have hb := H.1.1
      have hD : ∀ p, p < 10 → m.1 ag_daysOf p = Int32.ofNat (D p) ∧ 1 ≤ D p ∧ D p ≤ 20 := fun p hp => by
        obtain ⟨e1, e2, e3, e4⟩ := dn_e H.2.2.2.1 hp
        rw [hDe]; exact ⟨e1, e3, e4⟩
      have hD' : ∀ p, p < 10 → m.1 am_takes p = Int32.ofNat (D p) ∧ D p ≤ 20 := fun p hp => by
        obtain ⟨e1, e2, e3, e4⟩ := dn_e H.2.2.2.1 hp
        rw [hDe]; exact ⟨e2, e4⟩
      have Grg : ∀ p, 0 ≤ G p ∧ G p ≤ 60000000 := fun p => by
        have := dbs_rg (P := P) (C := C) (p := p) nf (fun i hi => by rw [hC]; exact chf_rg ht H hi)
        rw [hGe]
        exact ⟨this.1, by dsimp only; omega⟩
      have hG : ∀ p, p < 10 → (∀ m1, xKeep m m1 → ∃ v, F_X2_doubtOf (Int32.ofNat p) m1 = some (v, m1) ∧ v.toInt = G p) ∧ 0 ≤ G p ∧ G p ≤ 60000000 := fun p hp => by
        refine ⟨fun m1 K => ?_, Grg p⟩
        obtain ⟨v, w1, w2⟩ := c_doubtOf ht (H.keep K) p
        rw [kp_row K (show ag_facts_place < 31 by decide), chf_cg (I := m.1) (kp_row K (by decide)) (kp_row K (by decide)) (kp_row K (by decide)) (kp_row K (by decide)), ← hP, ← hC] at w2
        refine ⟨v, w1, ?_⟩
        rw [w2, hGe]
      obtain ⟨m1, s1, K1⟩ := c_placesFor hD hG hR
      obtain ⟨-, kb⟩ := kop_best (D := D) (G := G) 10 (by omega) R
      generalize hr : (kop D G 10 R).2 = r at s1 kb
      have hr10 : r < 1024 := kb.1
      -- the reference
      obtain ⟨mt, hmt⟩ : ∃ mt : xMem, mt = (xst m1.1 am fGuideBookModel_thrown 0, m1.2) := ⟨_, rfl⟩
      have Kt : xKeep m mt := by rw [hmt]; exact K1.trans (k_th m1 0)
      have Ht := H.keep Kt
      obtain ⟨ma, ra1, ra2, ra3, ra4⟩ := m_in (x := Int32.ofNat R) (y := y) (c := fun m_2 => L_X10_plan_49 (Int32.ofNat R) y (fun m_7 => L_X10_plan_92 (Int32.ofNat R) y (fun x3_45 m_46 => if y = 0 then some (x3_45, m_46) else (F_X10_doubtOf x3_45 m_46).bind fun q_47 => some ((q_47.1 / (1000 : Int64)).toInt32, q_47.2)) xfuel 0 1 m_7) xfuel 0 m_2) 10 0 xfuel mt (by omega) (by decide)
      obtain ⟨mb, rb1, rb2, rb3, rb4⟩ := m_ac (I := mt.1) ht Ht (x := Int32.ofNat R) (y := y) (c := fun m_7 => L_X10_plan_92 (Int32.ofNat R) y (fun x3_45 m_46 => if y = 0 then some (x3_45, m_46) else (F_X10_doubtOf x3_45 m_46).bind fun q_47 => some ((q_47.1 / (1000 : Int64)).toInt32, q_47.2)) xfuel 0 1 m_7) (P := P) (C := C) (by rw [kp_row Kt (show ag_facts_place < 31 by decide), hP]) (by rw [chf_cg (I := m.1) (kp_row Kt (by decide)) (kp_row Kt (by decide)) (kp_row Kt (by decide)) (kp_row Kt (by decide)), hC]) nf 0 xfuel ma (by omega) (by rw [xfuel_eq]; omega) ra2 (fun p hp => by rw [ra4 p hp, if_pos (Nat.zero_le _)]; rfl)
      have hDt : ∀ p, p < 10 → mb.1 am_takes p = Int32.ofNat (D p) ∧ D p ≤ 20 := fun p hp => by
        rw [rb2, Kt.1 am_takes p (xsc_n (by decide) p)]
        exact hD' p hp
      have hGt : ∀ p, p < 10 → (mb.2 112 p).toInt = G p ∧ 0 ≤ G p ∧ G p ≤ 60000000 := fun p hp => ⟨by rw [rb4 p hp, hGe], Grg p⟩
      obtain ⟨b', rc1, rc2⟩ := m_bs hDt hGt hR (y := y) (c := fun x3_45 m_46 => if y = 0 then some (x3_45, m_46) else (F_X10_doubtOf x3_45 m_46).bind fun q_47 => some ((q_47.1 / (1000 : Int64)).toInt32, q_47.2)) 1023 1 xfuel 0 (by omega) (by decide) (by omega) (by
        refine ⟨by omega, by rw [dsm_0]; omega, fun S hS _ => ?_⟩
        have : S = 0 := by omega
        subst this
        exact ⟨Int.le_refl _, fun w => absurd w (Nat.lt_irrefl _)⟩)
      have hrb : r = b' := kbest_u kb rc2
      subst hrb
      have Kb : xKeep m1 mb := by
        refine ⟨fun a k q => ?_, ?_⟩
        · rw [rb2]
          have := (k_th m1 0).1 a k q
          rw [hmt]
          exact this
        · rw [rb3 92 (by decide), ra3 92 (by decide), hmt]
      rw [← o_zero] at ra1 rb1
      rw [show Int32.ofNat 1 = 1 from rfl, ← o_zero] at rc1
      have k1 : ¬ Int32.ofNat R < 0 := by grind
      have k2 : ¬ 99 < Int32.ofNat R := by grind
      have k3 : ¬ y < 0 := by grind
      have d10 : ¬ ((1 : Int32) = 0) := by decide
      have hq : (0 ≤ Int32.ofNat R ∧ Int32.ofNat R ≤ 99) = True := eq_true h
      have gq : (0 ≤ y ∧ y ≤ 1) = True := eq_true g
      have eM : F_X10_plan (Int32.ofNat R) y m1 = (if y = 0 then some (Int32.ofNat r, mb) else (F_X10_doubtOf (Int32.ofNat r) mb).bind fun q_47 => some ((q_47.1 / (1000 : Int64)).toInt32, q_47.2)) := by
        unfold F_X10_plan
        rw [if_neg k1, if_neg k2, if_neg k3, if_pos g.2, ← hmt]
        exact ra1.trans (rb1.trans rc1)
      have eC : F_X9_plan (Int32.ofNat R) y m = (if y = 0 then some ((Int64.ofNat r).toInt32, m1) else (F_X9_doubtOfSet (Int64.ofNat r) m1).bind fun q_4 => some (q_4.1 / (1000 : Int32), q_4.2)) := by
        unfold F_X9_plan
        rw [g_wi, Option.bind_some]
        dsimp only
        rw [if_pos h, if_neg d10, g_wi, Option.bind_some]
        dsimp only
        rw [if_pos g, if_neg d10, s1, Option.bind_some]
      by_cases y0 : y = 0
      · refine xPair.keep (v := Int32.ofNat r) (m1 := m1) (m2 := mb) ht H ?_ K1 ?_ Kb
        · rw [eC, if_pos y0]
          congr 2
          rw [← Int32.toInt_inj, o_toInt (by omega), j_i32, Int64.toInt_ofNat_of_lt (by omega)] <;> rw [Int64.toInt_ofNat_of_lt (by omega)] <;> omega
        · rw [eM, if_pos y0]
      · have hG1 : ∀ p, p < 10 → (∀ m2, xKeep m1 m2 → ∃ v, F_X2_doubtOf (Int32.ofNat p) m2 = some (v, m2) ∧ v.toInt = G p) ∧ 0 ≤ G p ∧ G p ≤ 60000000 := fun p hp => ⟨fun m2 K => (hG p hp).1 m2 (K1.trans K), (hG p hp).2⟩
        have hD1 : ∀ p, p < 10 → m1.1 ag_daysOf p = Int32.ofNat (D p) ∧ 1 ≤ D p ∧ D p ≤ 20 := fun p hp => by
          rw [K1.1 ag_daysOf p (xsc_n (by decide) p)]
          exact hD p hp
        obtain ⟨v, w1, w2, w3, w4⟩ := c_dset hD1 hG1 r 10 0 xfuel 0 (by omega) (by decide) rfl (by decide) (by decide)
        obtain ⟨v', w1', w2', w3', w4'⟩ := m_doubtOf hGt hr10
        rw [← o_zero] at w1
        refine xPair.keep (v := v / 1000) (m1 := m1) (m2 := mb) ht H ?_ K1 ?_ Kb
        · rw [eC, if_neg y0]
          unfold F_X9_doubtOfSet
          rw [w1, Option.bind_some]
        · rw [eM, if_neg y0, w1', Option.bind_some]
          congr 2
          show (v' / 1000).toInt32 = v / 1000
          have z : (1000 : Int64).toInt = 1000 := rfl
          have z' : (1000 : Int32).toInt = 1000 := rfl
          have e1 : (v' / 1000).toInt = v.toInt / 1000 := by
            rw [j_div (by omega), z, w2', ← w2, Int.tdiv_eq_ediv_of_nonneg (by omega)]
          have e2 : (v / 1000).toInt = v.toInt / 1000 := by
            rw [Int32.toInt_div_of_ne_right _ _ (by decide), z', Int.tdiv_eq_ediv_of_nonneg (by omega)]
          rw [← Int32.toInt_inj, e2, j_i32 (by omega) (by omega), e1]
    · have hq : (0 ≤ x ∧ x ≤ 99) = True := eq_true h
      have k1 : ¬ x < 0 := by grind
      have k2 : ¬ 99 < x := by grind
      refine xPair.keep (m1 := m) (m2 := (xst m.1 am fGuideBookModel_thrown 0, m.2)) (v := -1) ht H ?_ (xKeep.refl m) ?_ (k_th m 0)
      · simp (decide := true) only [Option.bind_some, ↓reduceIte, xst_f, xst_k, xst_s, ne_eq, not_false_eq_true, not_true_eq_false, and_self, and_true, true_and, and_false, false_and, or_true, true_or, or_false, false_or, F_X9_plan, g_wi, hq, g]
      · by_cases k3 : y < 0
        · simp (decide := true) only [Option.bind_some, ↓reduceIte, xst_f, xst_k, xst_s, ne_eq, not_false_eq_true, not_true_eq_false, and_self, and_true, true_and, and_false, false_and, or_true, true_or, or_false, false_or, F_X10_plan, k1, k2, k3]
        · have k4 : ¬ y ≤ 1 := by grind
          simp (decide := true) only [Option.bind_some, ↓reduceIte, xst_f, xst_k, xst_s, ne_eq, not_false_eq_true, not_true_eq_false, and_self, and_true, true_and, and_false, false_and, or_true, true_or, or_false, false_or, F_X10_plan, k1, k2, k3, k4]
  · refine xPair.keep (m1 := m) (m2 := (xst m.1 am fGuideBookModel_thrown 0, m.2)) (v := -1) ht H ?_ (xKeep.refl m) ?_ (k_th m 0)
    · simp (decide := true) only [Option.bind_some, ↓reduceIte, xst_f, xst_k, xst_s, ne_eq, not_false_eq_true, not_true_eq_false, and_self, and_true, true_and, and_false, false_and, or_true, true_or, or_false, false_or, F_X9_plan, g_wi, h]
    · by_cases k1 : x < 0
      · simp (decide := true) only [Option.bind_some, ↓reduceIte, xst_f, xst_k, xst_s, ne_eq, not_false_eq_true, not_true_eq_false, and_self, and_true, true_and, and_false, false_and, or_true, true_or, or_false, false_or, F_X10_plan, k1]
      · have k2 : 99 < x := by grind
        simp (decide := true) only [Option.bind_some, ↓reduceIte, xst_f, xst_k, xst_s, ne_eq, not_false_eq_true, not_true_eq_false, and_self, and_true, true_and, and_false, false_and, or_true, true_or, or_false, false_or, F_X10_plan, k1, k2]
end PM
