section NM
variable {t nf nw nl ne tp : Nat} {n : Nat → Nat}
theorem o_100 {a : Nat} : (100 : Int32) * Int32.ofNat a = Int32.ofNat (100 * a) := o_mul (a := 100)
theorem dr_c {ps : List Nat} {k f : Nat} (h : ps[k]? = some f) : ps.drop k = f :: ps.drop (k + 1) := by
  obtain ⟨h1, h2⟩ := List.getElem?_eq_some_iff.mp h
  rw [← h2]
  exact List.drop_eq_getElem_cons h1
/-- what stands for good while the page is laid out -/
def pgo (I : xI) (nf : Nat) (L W : Nat → Nat) (ps : List Nat) : Prop := I 87 43 = Int32.ofNat ps.length ∧ ps.length ≤ 60 ∧ (∀ k f, ps[k]? = some f → I 119 k = Int32.ofNat f ∧ f < nf) ∧ LWok I nf L W ∧ nf ≤ 60
/-- row k of the tables -/
def tbr (I : xI) (L W : Nat → Nat) (ps : List Nat) (k : Nat) : Prop := ∀ l, l < 100 → I 120 (100 * k + l) = Int32.ofNat (nb L W (ps.drop k) l).1 ∧ I 121 (100 * k + l) = Int32.ofNat (nb L W (ps.drop k) l).2.1
theorem nb_b {nf : Nat} {I : xI} {L W : Nat → Nat} {ps : List Nat} (h : pgo I nf L W ps) (k l : Nat) (hl : l < 100) : (nb L W (ps.drop k) l).1 ≤ 60000 ∧ (nb L W (ps.drop k) l).2.1 ≤ 99 := by
  obtain ⟨h1, h2, h3, h4, h5⟩ := h
  have := nb_rg (L := L) (W := W) (ps.drop k) (fun x hx => by
    obtain ⟨j, hj⟩ := List.mem_iff_getElem?.mp (List.mem_of_mem_drop hx)
    exact (h4 x (h3 j x hj).2).2.2.2.2.2.2) l
  have hl2 : (ps.drop k).length ≤ 60 := by rw [List.length_drop]; omega
  exact ⟨by omega, by omega⟩
theorem m_isWith {m : xMem} {L W : Nat → Nat} {ps : List Nat} (h : pgo m.1 nf L W ps) {k f l : Nat} (hk : ps[k]? = some f) (hl : l < 100) (hr : tbr m.1 L W ps (k + 1)) : F_X10_isWith (Int32.ofNat k) (Int32.ofNat l) m = some (if nbw L W f l (nb L W (ps.drop (k + 1)) l) (nb L W (ps.drop (k + 1)) (l - L f)) then 1 else 0, m) := by
  have hb0 := nb_b h (k + 1) l hl
  have hb1 := nb_b h (k + 1) (l - L f) (by omega)
  obtain ⟨h1, h2, h3, h4, h5⟩ := id h
  obtain ⟨p1, p2⟩ := h3 k f hk
  have hkl : k < ps.length := (List.getElem?_eq_some_iff.mp hk).1
  obtain ⟨-, -, l3, l4, l5, l6, l7⟩ := h4 f p2
  have i1 : xin (Int32.ofNat k) 60 = true := o_in (by omega) (by omega)
  have n1 : (Int32.ofNat k).toNatClampNeg = k := o_nat (by omega)
  have i2 : xin (Int32.ofNat f) 60 = true := o_in (by omega) (by omega)
  have n2 : (Int32.ofNat f).toNatClampNeg = f := o_nat (by omega)
  have i3 : xin (Int32.ofNat (100 * (k + 1) + l)) 6100 = true := o_in (by omega) (by omega)
  have n3 : (Int32.ofNat (100 * (k + 1) + l)).toNatClampNeg = 100 * (k + 1) + l := o_nat (by omega)
  have p1' : m.1 am_onPage k = Int32.ofNat f := p1
  have l3' : m.1 am_lengths f = Int32.ofNat (L f) := l3
  have l4' : m.1 am_worths f = Int32.ofNat (W f) := l4
  unfold nbw
  by_cases g : L f ≤ l
  · have g' : Int32.ofNat (L f) ≤ Int32.ofNat l := (o_le (by omega) (by omega)).mpr g
    have i4 : xin (Int32.ofNat (100 * (k + 1) + (l - L f))) 6100 = true := o_in (by omega) (by omega)
    have n4 : (Int32.ofNat (100 * (k + 1) + (l - L f))).toNatClampNeg = 100 * (k + 1) + (l - L f) := o_nat (by omega)
    have e4 : Int32.ofNat (100 * (k + 1) + l) - Int32.ofNat (L f) = Int32.ofNat (100 * (k + 1) + (l - L f)) := by rw [o_sub (by omega)]; congr 1; omega
    obtain ⟨t1, t2⟩ := hr l hl
    obtain ⟨t3, t4⟩ := hr (l - L f) (by omega)
    have t1' : m.1 am_most (100 * (k + 1) + l) = _ := t1
    have t2' : m.1 am_used (100 * (k + 1) + l) = _ := t2
    have t3' : m.1 am_most (100 * (k + 1) + (l - L f)) = _ := t3
    have t4' : m.1 am_used (100 * (k + 1) + (l - L f)) = _ := t4
    generalize nb L W (ps.drop (k + 1)) l = r0 at *
    generalize nb L W (ps.drop (k + 1)) (l - L f) = r1 at *
    have c1 : (Int32.ofNat r0.1 < Int32.ofNat (W f + r1.1)) ↔ r0.1 < W f + r1.1 := o_lt (by omega) (by omega)
    have c2 : (Int32.ofNat (W f + r1.1) = Int32.ofNat r0.1) ↔ W f + r1.1 = r0.1 := o_eq (by omega) (by omega)
    have c3 : (Int32.ofNat r0.2.1 < Int32.ofNat (L f + r1.2.1)) ↔ r0.2.1 < L f + r1.2.1 := o_lt (by omega) (by omega)
    unfold F_X10_isWith
    rw [n1, p1', n2, l3', l4', o_succ, o_100, o_add, e4, n3, n4, t1', t2', t3', t4', o_add, o_add]
    rw [if_pos i1, if_pos i2, if_pos g', if_pos i2, if_pos i2, if_pos i4, if_pos i2, if_pos i4, if_pos i3, if_pos i3, if_pos i3]
    unfold J_X10_isWith_114
    by_cases w1 : r0.1 < W f + r1.1
    · rw [if_pos (c1.mpr w1), decide_eq_true (show L f ≤ l ∧ (r0.1 < W f + r1.1 ∨ (r0.1 = W f + r1.1 ∧ L f + r1.2.1 ≤ r0.2.1)) from ⟨g, Or.inl w1⟩)]
      rfl
    · rw [if_neg (fun u => w1 (c1.mp u))]
      by_cases w2 : W f + r1.1 = r0.1
      · rw [if_pos (c2.mpr w2)]
        by_cases w3 : r0.2.1 < L f + r1.2.1
        · rw [if_pos (c3.mpr w3), decide_eq_false (by omega)]
          rfl
        · rw [if_neg (fun u => w3 (c3.mp u)), decide_eq_true (show L f ≤ l ∧ (r0.1 < W f + r1.1 ∨ (r0.1 = W f + r1.1 ∧ L f + r1.2.1 ≤ r0.2.1)) from ⟨g, Or.inr ⟨w2.symm, by omega⟩⟩)]
          rfl
      · rw [if_neg (fun u => w2 (c2.mp u)), decide_eq_false (by omega)]
        rfl
  · have g' : ¬ Int32.ofNat (L f) ≤ Int32.ofNat l := fun u => g ((o_le (by omega) (by omega)).mp u)
    unfold F_X10_isWith
    rw [n1, p1', n2, l3', if_pos i1, if_pos i2, if_neg g', decide_eq_false (fun u => g u.1)]
    rfl
/-- only tables have changed -/
def tbk (m m' : xMem) : Prop := m'.2 = m.2 ∧ ∀ b j, b ≠ 120 → b ≠ 121 → m'.1 b j = m.1 b j
theorem pgo.mv {m m' : xMem} {L W : Nat → Nat} {ps : List Nat} (k : tbk m m') (h : pgo m.1 nf L W ps) : pgo m'.1 nf L W ps := by
  obtain ⟨h1, h2, h3, h4, h5⟩ := h
  refine ⟨(k.2 87 43 (by decide) (by decide)).trans h1, h2, fun j f hj => ⟨(k.2 119 j (by decide) (by decide)).trans (h3 j f hj).1, (h3 j f hj).2⟩, fun f hf => ?_, h5⟩
  rw [k.2 6 f (by decide) (by decide), k.2 7 f (by decide) (by decide), k.2 107 f (by decide) (by decide), k.2 108 f (by decide) (by decide)]
  exact h4 f hf
theorem m_row {L W : Nat → Nat} {ps : List Nat} {k : Nat} (hk : k ≤ ps.length) {c : xMem → Option (Int32 × xMem)} : ∀ (j a fk : Nat) (m : xMem), a + j = 100 → j < fk → pgo m.1 nf L W ps → (k < ps.length → tbr m.1 L W ps (k + 1)) →
    ∃ m', L_X10_laysOut_62 (Int32.ofNat k) c fk (Int32.ofNat a) m = c m' ∧ tbk m m' ∧ (∀ b i, (i < 100 * k + a ∨ 100 * (k + 1) ≤ i) → m'.1 b i = m.1 b i) ∧ ∀ l, a ≤ l → l < 100 → m'.1 120 (100 * k + l) = Int32.ofNat (nb L W (ps.drop k) l).1 ∧ m'.1 121 (100 * k + l) = Int32.ofNat (nb L W (ps.drop k) l).2.1
  | 0, a, fk + 1, m, h, _, hp, ht => by
    have q : 100 ≤ Int32.ofNat a := (o_le (a := 100) (by omega) (by omega)).mpr (by omega)
    refine ⟨m, ?_, ⟨rfl, fun _ _ _ _ => rfl⟩, fun _ _ _ => rfl, fun l w1 w2 => by omega⟩
    simp (decide := true) only [Option.bind_some, ↓reduceIte, xst_f, xst_k, xst_s, ne_eq, not_false_eq_true, not_true_eq_false, and_self, and_true, true_and, and_false, false_and, or_true, true_or, or_false, false_or, L_X10_laysOut_62, q]
  | j + 1, a, fk + 1, m, h, hf, hp, ht => by
    have q : ¬ 100 ≤ Int32.ofNat a := fun w => by have := (o_le (a := 100) (by omega) (by omega)).mp w; omega
    have hps := hp.2.1
    have i1 : xin (Int32.ofNat (100 * k + a)) 6100 = true := o_in (by omega) (by omega)
    have n1 : (Int32.ofNat (100 * k + a)).toNatClampNeg = 100 * k + a := o_nat (by omega)
    -- one cell: then the rest
    have step : ∀ m1 : xMem, L_X10_laysOut_62 (Int32.ofNat k) c (fk + 1) (Int32.ofNat a) m = L_X10_laysOut_62 (Int32.ofNat k) c fk (Int32.ofNat (a + 1)) m1 → m1.2 = m.2 → (∀ b i, ¬ ((b = 120 ∨ b = 121) ∧ i = 100 * k + a) → m1.1 b i = m.1 b i) → m1.1 120 (100 * k + a) = Int32.ofNat (nb L W (ps.drop k) a).1 → m1.1 121 (100 * k + a) = Int32.ofNat (nb L W (ps.drop k) a).2.1 → ∃ m', L_X10_laysOut_62 (Int32.ofNat k) c (fk + 1) (Int32.ofNat a) m = c m' ∧ tbk m m' ∧ (∀ b i, (i < 100 * k + a ∨ 100 * (k + 1) ≤ i) → m'.1 b i = m.1 b i) ∧ ∀ l, a ≤ l → l < 100 → m'.1 120 (100 * k + l) = Int32.ofNat (nb L W (ps.drop k) l).1 ∧ m'.1 121 (100 * k + l) = Int32.ofNat (nb L W (ps.drop k) l).2.1 := by
      intro m1 e1 e2 e3 e4 e5
      have tk : tbk m m1 := ⟨e2, fun b i w1 w2 => e3 b i (by omega)⟩
      obtain ⟨m', r1, r2, r3, r4⟩ := m_row hk (c := c) j (a + 1) fk m1 (by omega) (by omega) (hp.mv tk) (fun w l hl => by
        rw [e3 120 _ (by omega), e3 121 _ (by omega)]
        exact ht w l hl)
      refine ⟨m', e1.trans r1, ⟨r2.1.trans e2, fun b i w1 w2 => (r2.2 b i w1 w2).trans (tk.2 b i w1 w2)⟩, fun b i w => (r3 b i (by omega)).trans (e3 b i (by omega)), fun l w1 w2 => ?_⟩
      by_cases e : l = a
      · subst e
        rw [r3 120 _ (by omega), r3 121 _ (by omega)]
        exact ⟨e4, e5⟩
      · exact r4 l (by omega) w2
    by_cases hkl : k < ps.length
    · obtain ⟨f, hfk⟩ : ∃ f, ps[k]? = some f := ⟨ps[k], List.getElem?_eq_getElem hkl⟩
      have tr := ht hkl
      obtain ⟨h1, h2, h3, h4, h5⟩ := id hp
      obtain ⟨p1, p2⟩ := h3 k f hfk
      obtain ⟨-, -, l3, l4, l5, l6, l7⟩ := h4 f p2
      have i2 : xin (Int32.ofNat (100 * (k + 1) + a)) 6100 = true := o_in (by omega) (by omega)
      have n2 : (Int32.ofNat (100 * (k + 1) + a)).toNatClampNeg = 100 * (k + 1) + a := o_nat (by omega)
      have i3 : xin (Int32.ofNat k) 60 = true := o_in (by omega) (by omega)
      have n3 : (Int32.ofNat k).toNatClampNeg = k := o_nat (by omega)
      have i4 : xin (Int32.ofNat f) 60 = true := o_in (by omega) (by omega)
      have n4 : (Int32.ofNat f).toNatClampNeg = f := o_nat (by omega)
      have qm : ¬ m.1 am fGuideBookModel_many ≤ Int32.ofNat k := fun u => by
        have h1' : m.1 am fGuideBookModel_many = Int32.ofNat ps.length := h1
        rw [h1', o_le (by omega) (by omega)] at u
        omega
      obtain ⟨t1, t2⟩ := tr a (by omega)
      have t1' : m.1 am_most (100 * (k + 1) + a) = _ := t1
      have t2' : m.1 am_used (100 * (k + 1) + a) = _ := t2
      have ne1 : 100 * k + a ≠ 100 * (k + 1) + a := by omega
      -- the memory that isWith sees
      obtain ⟨I4, hI4⟩ : ∃ I4 : xI, I4 = xst (xst (xst (xst m.1 am_most (100 * k + a) 0) am_used (100 * k + a) 0) am_most (100 * k + a) (Int32.ofNat (nb L W (ps.drop (k + 1)) a).1)) am_used (100 * k + a) (Int32.ofNat (nb L W (ps.drop (k + 1)) a).2.1) := ⟨_, rfl⟩
      have fr : ∀ b i, ¬ ((b = 120 ∨ b = 121) ∧ i = 100 * k + a) → I4 b i = m.1 b i := by
        intro b i w
        rw [hI4, xst_n (a := am_used) (fun u => w ⟨Or.inr u.1, u.2⟩), xst_n (a := am_most) (fun u => w ⟨Or.inl u.1, u.2⟩), xst_n (a := am_used) (fun u => w ⟨Or.inr u.1, u.2⟩), xst_n (a := am_most) (fun u => w ⟨Or.inl u.1, u.2⟩)]
      have c120 : I4 120 (100 * k + a) = Int32.ofNat (nb L W (ps.drop (k + 1)) a).1 := by
        rw [hI4]
        exact (congrFun (xst_f (by decide)) _).trans xst_s
      have c121 : I4 121 (100 * k + a) = Int32.ofNat (nb L W (ps.drop (k + 1)) a).2.1 := by
        rw [hI4]
        exact xst_s
      have hiw := m_isWith (m := (I4, m.2)) (pgo.mv (m := m) (m' := (I4, m.2)) ⟨rfl, fun b i w1 w2 => fr b i (by omega)⟩ hp) hfk (show a < 100 by omega) (fun l hl => by
        show I4 120 _ = _ ∧ I4 121 _ = _
        rw [fr 120 _ (by omega), fr 121 _ (by omega)]
        exact tr l hl)
      have hun : L_X10_laysOut_62 (Int32.ofNat k) c (fk + 1) (Int32.ofNat a) m = (F_X10_isWith (Int32.ofNat k) (Int32.ofNat a) (I4, m.2)).bind fun q_14 => (
        if q_14.1 = 0 then (
          L_X10_laysOut_62 (Int32.ofNat k) c fk (Int32.ofNat (a + 1)) q_14.2)
        else (
          if xin (q_14.2.1 am_onPage k) 60 = true then (
          if xin (Int32.ofNat (100 * (k + 1) + a) - (q_14.2.1 am_lengths (q_14.2.1 am_onPage k).toNatClampNeg)) 6100 = true then (
          L_X10_laysOut_62 (Int32.ofNat k) c fk (Int32.ofNat (a + 1)) (xst (xst q_14.2.1 am_most (100 * k + a) ((q_14.2.1 am_worths (q_14.2.1 am_onPage k).toNatClampNeg) + (q_14.2.1 am_most (Int32.ofNat (100 * (k + 1) + a) - (q_14.2.1 am_lengths (q_14.2.1 am_onPage k).toNatClampNeg)).toNatClampNeg))) am_used (100 * k + a) ((q_14.2.1 am_lengths (q_14.2.1 am_onPage k).toNatClampNeg) + (q_14.2.1 am_used (Int32.ofNat (100 * (k + 1) + a) - (q_14.2.1 am_lengths (q_14.2.1 am_onPage k).toNatClampNeg)).toNatClampNeg)), q_14.2.2))
          else none)
          else none)) := by
        rw [hI4, L_X10_laysOut_62]
        simp (decide := true) only [Option.bind_some, ↓reduceIte, xst_f, xst_k, xst_s, ne_eq, not_false_eq_true, not_true_eq_false, and_self, and_true, true_and, and_false, false_and, or_true, true_or, or_false, false_or, q, o_succ, o_100, o_add, i1, n1, qm, i2, n2, t1', t2', xst_k ne1, i3, n3, J_X10_laysOut_45, J_X10_laysOut_245]
        congr 1
        funext q_14
        by_cases z : q_14.1 = 0
        · rw [if_pos z, if_pos z]
        · rw [if_neg z, if_neg z]
          by_cases z1 : xin (q_14.2.1 am_onPage k) 60 = true
          · by_cases z2 : xin (Int32.ofNat (100 * (k + 1) + a) - (q_14.2.1 am_lengths (q_14.2.1 am_onPage k).toNatClampNeg)) 6100 = true
            · simp (decide := true) only [Option.bind_some, ↓reduceIte, xst_f, xst_k, xst_s, ne_eq, not_false_eq_true, not_true_eq_false, and_self, and_true, true_and, and_false, false_and, or_true, true_or, or_false, false_or, z1, z2]
            · simp (decide := true) only [Option.bind_some, ↓reduceIte, xst_f, xst_k, xst_s, ne_eq, not_false_eq_true, not_true_eq_false, and_self, and_true, true_and, and_false, false_and, or_true, true_or, or_false, false_or, z1, z2]
          · simp (decide := true) only [Option.bind_some, ↓reduceIte, xst_f, xst_k, xst_s, ne_eq, not_false_eq_true, not_true_eq_false, and_self, and_true, true_and, and_false, false_and, or_true, true_or, or_false, false_or, z1]
      rw [hiw, Option.bind_some] at hun
      dsimp only at hun
      by_cases w : nbw L W f a (nb L W (ps.drop (k + 1)) a) (nb L W (ps.drop (k + 1)) (a - L f)) = true
      · have wl := (of_decide_eq_true w).1
        obtain ⟨t3, t4⟩ := tr (a - L f) (by omega)
        have p1' : I4 am_onPage k = Int32.ofNat f := (fr 119 k (by omega)).trans p1
        have l3' : I4 am_lengths f = Int32.ofNat (L f) := (fr 107 f (by omega)).trans l3
        have l4' : I4 am_worths f = Int32.ofNat (W f) := (fr 108 f (by omega)).trans l4
        have e4 : Int32.ofNat (100 * (k + 1) + a) - Int32.ofNat (L f) = Int32.ofNat (100 * (k + 1) + (a - L f)) := by rw [o_sub (by omega)]; congr 1; omega
        have i5 : xin (Int32.ofNat (100 * (k + 1) + (a - L f))) 6100 = true := o_in (by omega) (by omega)
        have n5 : (Int32.ofNat (100 * (k + 1) + (a - L f))).toNatClampNeg = 100 * (k + 1) + (a - L f) := o_nat (by omega)
        have t3' : I4 am_most (100 * (k + 1) + (a - L f)) = _ := (fr 120 _ (by omega)).trans t3
        have t4' : I4 am_used (100 * (k + 1) + (a - L f)) = _ := (fr 121 _ (by omega)).trans t4
        have d10 : ¬ ((1 : Int32) = 0) := by decide
        simp (decide := true) only [Option.bind_some, ↓reduceIte, xst_f, xst_k, xst_s, ne_eq, not_false_eq_true, not_true_eq_false, and_self, and_true, true_and, and_false, false_and, or_true, true_or, or_false, false_or, w, d10, p1', n4, l3', l4', e4, n5, t3', t4', o_add, i4, i5] at hun
        have hnb : nb L W (ps.drop k) a = (W f + (nb L W (ps.drop (k + 1)) (a - L f)).1, L f + (nb L W (ps.drop (k + 1)) (a - L f)).2.1, f :: (nb L W (ps.drop (k + 1)) (a - L f)).2.2) := by rw [dr_c hfk, nb_s, if_pos w]
        refine step _ hun rfl (fun b i u => ?_) ?_ ?_
        · show xst (xst I4 am_most _ _) am_used _ _ b i = _
          rw [xst_n (a := am_used) (fun v => u ⟨Or.inr v.1, v.2⟩), xst_n (a := am_most) (fun v => u ⟨Or.inl v.1, v.2⟩)]
          exact fr b i u
        · rw [hnb]
          show xst (xst I4 am_most (100 * k + a) (Int32.ofNat (W f + (nb L W (ps.drop (k + 1)) (a - L f)).1))) am_used (100 * k + a) (Int32.ofNat (L f + (nb L W (ps.drop (k + 1)) (a - L f)).2.1)) 120 (100 * k + a) = _
          rw [xst_f (a := am_used) (b := 120) (by decide)]
          exact xst_s
        · rw [hnb]
          exact xst_s
      · rw [if_neg w, if_pos rfl] at hun
        have hnb : nb L W (ps.drop k) a = nb L W (ps.drop (k + 1)) a := by rw [dr_c hfk, nb_s, if_neg w]
        refine step _ hun rfl fr ?_ ?_
        · rw [hnb]; exact c120
        · rw [hnb]; exact c121
    · have hke : ps.drop k = [] := List.drop_eq_nil_of_le (by omega)
      have qm : m.1 am fGuideBookModel_many ≤ Int32.ofNat k := by
        have h1' : m.1 am fGuideBookModel_many = Int32.ofNat ps.length := hp.1
        rw [h1', o_le (by omega) (by omega)]
        omega
      refine step (xst (xst m.1 am_most (100 * k + a) 0) am_used (100 * k + a) 0, m.2) ?_ rfl (fun b i u => ?_) ?_ ?_
      · rw [L_X10_laysOut_62]
        simp (decide := true) only [Option.bind_some, ↓reduceIte, xst_f, xst_k, xst_s, ne_eq, not_false_eq_true, not_true_eq_false, and_self, and_true, true_and, and_false, false_and, or_true, true_or, or_false, false_or, q, o_100, o_add, i1, n1, qm, J_X10_laysOut_45, J_X10_laysOut_245, o_succ]
      · show xst (xst m.1 am_most _ _) am_used _ _ b i = _
        rw [xst_n (a := am_used) (fun v => u ⟨Or.inr v.1, v.2⟩), xst_n (a := am_most) (fun v => u ⟨Or.inl v.1, v.2⟩)]
      · rw [hke]
        show xst (xst m.1 am_most (100 * k + a) 0) am_used (100 * k + a) 0 120 (100 * k + a) = _
        rw [xst_f (a := am_used) (b := 120) (by decide)]
        exact xst_s
      · rw [hke]
        exact xst_s
/-- all rows -/
theorem m_rows {L W : Nat → Nat} {ps : List Nat} : ∀ (k fk : Nat) (m : xMem), k ≤ ps.length + 1 → k < fk → pgo m.1 nf L W ps → (∀ j, k ≤ j → j ≤ ps.length → tbr m.1 L W ps j) → ∃ m', L_X10_laysOut_56 fk (Int32.ofNat k + -1) m = some (0, m') ∧ tbk m m' ∧ ∀ j, j ≤ ps.length → tbr m'.1 L W ps j
  | 0, fk + 1, m, _, _, hp, ht => by
    have q : (Int32.ofNat 0 + -1 : Int32) < 0 := by decide
    refine ⟨m, ?_, ⟨rfl, fun _ _ _ _ => rfl⟩, fun j hj => ht j (Nat.zero_le _) hj⟩
    unfold L_X10_laysOut_56
    rw [if_pos q]
  | k + 1, fk + 1, m, hk, hf, hp, ht => by
    have q : ¬ Int32.ofNat k < 0 := fun w => by
      have := hp.2.1
      rw [Int32.lt_iff_toInt_lt, o_toInt (by omega)] at w
      have : (0 : Int32).toInt = 0 := rfl
      omega
    obtain ⟨m1, r1, r2, r3, r4⟩ := m_row (nf := nf) (show k ≤ ps.length by omega) (c := fun m_30 => L_X10_laysOut_56 fk (Int32.ofNat k + -1) m_30) 100 0 xfuel m (by omega) (by decide) hp (fun w => ht (k + 1) (Nat.le_refl _) (by omega))
    obtain ⟨m2, s1, s2, s3⟩ := m_rows k fk m1 (by omega) (by omega) (hp.mv r2) (fun j w1 w2 l hl => by
      by_cases e : j = k
      · subst e
        exact r4 l (Nat.zero_le _) hl
      · rw [r3 120 _ (by omega), r3 121 _ (by omega)]
        exact ht j (by omega) w2 l hl)
    refine ⟨m2, ?_, ⟨s2.1.trans r2.1, fun b i w1 w2 => (s2.2 b i w1 w2).trans (r2.2 b i w1 w2)⟩, s3⟩
    rw [o_m1]
    unfold L_X10_laysOut_56
    rw [if_neg q]
    rw [← o_zero] at r1
    exact r1.trans s1
theorem pg_sn {P : Nat → Int32} {p : Int32} : ∀ k a, pg P p (k + 1) a = pg P p k a ++ (if P (a + k) = p then [a + k] else [])
  | 0, a => by
    show (if P a = p then a :: [] else []) = [] ++ (if P a = p then [a] else [])
    by_cases g : P a = p
    · rw [if_pos g]; rfl
    · rw [if_neg g]; rfl
  | k + 1, a => by
    rw [pg_s, pg_sn k (a + 1), pg_s (k := k) (a := a), show a + 1 + k = a + (k + 1) by omega]
    split
    · rw [List.cons_append]
    · rfl
/-- the facts of the page, gathered -/
theorem m_gat {P : Nat → Int32} {p : Int32} (hnf : nf ≤ 60) {c : xMem → Option (Int32 × xMem)} : ∀ (k a fk : Nat) (m : xMem), a + k = nf → k < fk → m.1 am fGuideBookModel_facts = Int32.ofNat nf → (∀ i, i < nf → m.1 am_placeOf i = P i) → m.1 87 43 = Int32.ofNat (pg P p a 0).length → (∀ j f, (pg P p a 0)[j]? = some f → m.1 119 j = Int32.ofNat f) →
    ∃ m', L_X10_laysOut_7 p c fk (Int32.ofNat a) m = c m' ∧ m'.2 = m.2 ∧ (∀ b j, b ≠ 119 → ¬ (b = 87 ∧ j = 43) → m'.1 b j = m.1 b j) ∧ m'.1 87 43 = Int32.ofNat (pg P p nf 0).length ∧ ∀ j f, (pg P p nf 0)[j]? = some f → m'.1 119 j = Int32.ofNat f
  | 0, a, fk + 1, m, h, _, h1, h2, h3, h4 => by
    have q : Int32.ofNat nf ≤ Int32.ofNat a := (o_le (by omega) (by omega)).mpr (by omega)
    have ha : a = nf := by omega
    subst ha
    refine ⟨m, ?_, rfl, fun _ _ _ _ => rfl, h3, h4⟩
    unfold L_X10_laysOut_7
    rw [h1, if_pos q]
  | k + 1, a, fk + 1, m, h, hf, h1, h2, h3, h4 => by
    have q : ¬ Int32.ofNat nf ≤ Int32.ofNat a := fun w => by have := (o_le (by omega) (by omega)).mp w; omega
    have i1 : xin (Int32.ofNat a) 60 = true := o_in (by omega) (by omega)
    have n1 : (Int32.ofNat a).toNatClampNeg = a := o_nat (by omega)
    have hpl := h2 a (by omega)
    have hlen := pg_len (P := P) (p := p) a 0
    have hsn := pg_sn (P := P) (p := p) a 0
    rw [Nat.zero_add] at hsn
    by_cases g : P a = p
    · rw [if_pos g] at hsn
      have i2 : xin (Int32.ofNat (pg P p a 0).length) 60 = true := o_in (by omega) (by omega)
      have n2 : (Int32.ofNat (pg P p a 0).length).toNatClampNeg = (pg P p a 0).length := o_nat (by omega)
      have h3' : m.1 am fGuideBookModel_many = Int32.ofNat (pg P p a 0).length := h3
      obtain ⟨I1, hI1⟩ : ∃ I1 : xI, I1 = xst (xst m.1 am_onPage (pg P p a 0).length (Int32.ofNat a)) am fGuideBookModel_many (Int32.ofNat ((pg P p a 0).length + 1)) := ⟨_, rfl⟩
      have fr : ∀ b j, b ≠ 119 → ¬ (b = 87 ∧ j = 43) → I1 b j = m.1 b j := by
        intro b j w1 w2
        rw [hI1, xst_n (a := am) w2, xst_n (a := am_onPage) (fun u => w1 u.1)]
      have f119 : ∀ j, I1 119 j = if j = (pg P p a 0).length then Int32.ofNat a else m.1 119 j := by
        intro j
        rw [hI1, xst_f (a := am) (b := 119) (by decide)]
        by_cases e : j = (pg P p a 0).length
        · rw [if_pos e, e]; exact xst_s
        · rw [if_neg e, xst_n (a := am_onPage) (fun u => e u.2)]
      obtain ⟨m', r1, r2, r3, r4, r5⟩ := m_gat (P := P) (p := p) hnf (c := c) k (a + 1) fk (I1, m.2) (by omega) (by omega) ((fr 87 25 (by decide) (by decide)).trans h1) (fun i hi => (fr 104 i (by decide) (by omega)).trans (h2 i hi)) (by
        rw [hsn, List.length_append]
        show I1 87 43 = _
        rw [hI1]
        exact xst_s) (fun j f hj => by
        show I1 119 j = _
        rw [f119]
        rw [hsn] at hj
        by_cases e : j = (pg P p a 0).length
        · rw [if_pos e]
          subst e
          rw [List.getElem?_append_right (Nat.le_refl _), Nat.sub_self] at hj
          have : a = f := by simpa using hj
          rw [this]
        · rw [if_neg e]
          have hjl : j < (pg P p a 0 ++ [a]).length := (List.getElem?_eq_some_iff.mp hj).1
          rw [List.length_append, List.length_singleton] at hjl
          rw [List.getElem?_append_left (by omega)] at hj
          exact h4 j f hj)
      refine ⟨m', ?_, r2, fun b j w1 w2 => (r3 b j w1 w2).trans (fr b j w1 w2), r4, r5⟩
      rw [← r1, hI1, L_X10_laysOut_7]
      simp (decide := true) only [Option.bind_some, ↓reduceIte, xst_f, xst_k, xst_s, ne_eq, not_false_eq_true, not_true_eq_false, and_self, and_true, true_and, and_false, false_and, or_true, true_or, or_false, false_or, h1, q, i1, n1, hpl, g, h3', i2, n2, J_X10_laysOut_45, J_X10_laysOut_245, o_succ]
    · rw [if_neg g, List.append_nil] at hsn
      obtain ⟨m', r1, r2, r3, r4, r5⟩ := m_gat (P := P) (p := p) hnf (c := c) k (a + 1) fk m (by omega) (by omega) h1 h2 (by rw [hsn]; exact h3) (by rw [hsn]; exact h4)
      refine ⟨m', ?_, r2, r3, r4, r5⟩
      rw [← r1, L_X10_laysOut_7]
      simp (decide := true) only [Option.bind_some, ↓reduceIte, xst_f, xst_k, xst_s, ne_eq, not_false_eq_true, not_true_eq_false, and_self, and_true, true_and, and_false, false_and, or_true, true_or, or_false, false_or, h1, q, i1, n1, hpl, g, J_X10_laysOut_45, J_X10_laysOut_245, o_succ]
theorem m_wk {m : xMem} {L W : Nat → Nat} {ps : List Nat} {f : Nat} (hf60 : f < 60) (hp : pgo m.1 nf L W ps) (ht : ∀ j, j ≤ ps.length → tbr m.1 L W ps j) : ∀ (j k fk l c : Nat), k + j = ps.length → j < fk → l < 100 → c ≤ k → L_X10_number_43 (Int32.ofNat f) (fun x4_24 x6_25 m_26 => if x6_25 = 0 then some ((0 : Int32), m_26) else some (x4_24, m_26)) fk (Int32.ofNat l) (Int32.ofNat c) (Int32.ofNat k) m = some (Int32.ofNat (wk L W f (ps.drop k) l c), m)
  | 0, k, fk + 1, l, c, h, _, hl, hc => by
    have h1 : m.1 am fGuideBookModel_many = Int32.ofNat ps.length := hp.1
    have q : Int32.ofNat ps.length ≤ Int32.ofNat k := (o_le (by have := hp.2.1; omega) (by have := hp.2.1; omega)).mpr (by omega)
    have hke : ps.drop k = [] := List.drop_eq_nil_of_le (by omega)
    unfold L_X10_number_43
    rw [h1, if_pos q, hke]
    rfl
  | j + 1, k, fk + 1, l, c, h, hf, hl, hc => by
    have hrec := fun l c => m_wk hf60 hp ht j (k + 1) fk l c (by omega) (by omega)
    have h1 : m.1 am fGuideBookModel_many = Int32.ofNat ps.length := hp.1
    obtain ⟨-, h2, h3, h4, h5⟩ := id hp
    have q : ¬ Int32.ofNat ps.length ≤ Int32.ofNat k := fun w => by have := (o_le (by omega) (by omega)).mp w; omega
    obtain ⟨g, hgk⟩ : ∃ g, ps[k]? = some g := ⟨ps[k]'(by omega), List.getElem?_eq_getElem (by omega)⟩
    obtain ⟨p1, p2⟩ := h3 k g hgk
    obtain ⟨-, -, l3, l4, l5, l6, l7⟩ := h4 g p2
    have hiw := m_isWith hp hgk hl (ht (k + 1) (by omega))
    have i1 : xin (Int32.ofNat k) 60 = true := o_in (by omega) (by omega)
    have n1 : (Int32.ofNat k).toNatClampNeg = k := o_nat (by omega)
    have i2 : xin (Int32.ofNat g) 60 = true := o_in (by omega) (by omega)
    have n2 : (Int32.ofNat g).toNatClampNeg = g := o_nat (by omega)
    have p1' : m.1 am_onPage k = Int32.ofNat g := p1
    have l3' : m.1 am_lengths g = Int32.ofNat (L g) := l3
    have eg : (Int32.ofNat g = Int32.ofNat f) ↔ g = f := o_eq (by omega) (by omega)
    rw [dr_c hgk, wk_s]
    unfold L_X10_number_43
    rw [h1, if_neg q, hiw, Option.bind_some]
    dsimp only
    unfold J_X10_number_73 J_X10_number_98
    rw [n1, p1', n2, l3']
    by_cases w : nbw L W g l (nb L W (ps.drop (k + 1)) l) (nb L W (ps.drop (k + 1)) (l - L g)) = true
    · have wl := (of_decide_eq_true w).1
      rw [if_pos w, if_pos w, if_neg (by decide), if_neg (by decide), if_pos i1, if_pos i2, if_pos i1]
      by_cases e : g = f
      · rw [if_pos (eg.mpr e), if_pos e]
        dsimp only
        rw [if_neg (show ¬ (1 : Int32) = 0 by decide), o_succ]
      · rw [if_neg (fun u => e (eg.mp u)), if_neg e, o_succ, o_succ, o_sub wl]
        exact hrec (l - L g) (c + 1) (by omega) (by omega)
    · rw [if_neg w, if_neg w, if_pos rfl, if_pos rfl, if_pos i1]
      by_cases e : g = f
      · rw [if_pos (eg.mpr e), if_pos e]
        dsimp only
        rw [if_pos rfl]
        rfl
      · rw [if_neg (fun u => e (eg.mp u)), if_neg e, o_succ, show Int32.ofNat c + 0 = Int32.ofNat c from Int32.add_zero _, show Int32.ofNat l - 0 = Int32.ofNat l from Int32.sub_zero _]
        exact hrec l c hl (by omega)
theorem pr_number {m : xMem} (ht : t ≤ 600) (H : xRel t nf nw nl ne tp n m.1) (x y : Int32) : xPair (F_X9_number x y) (F_X10_number x y) t m := by
  obtain ⟨h1, h2, h3, h4, h5, h6, h7, h8, h9, h10⟩ := id H
  have hb := h1.1
  obtain ⟨-, ⟨a1, a2⟩, ⟨b1, b2⟩, ⟨c1, c2⟩, ⟨d1, d2⟩, e1, e2⟩ := id h1
  by_cases h : 0 ≤ x ∧ x < Int32.ofNat nf
  · by_cases g : 0 ≤ y ∧ y ≤ 99
    · obtain ⟨f, hf, rfl⟩ := g_ix h (by omega)
      obtain ⟨R, hR, rfl⟩ := g_ixl (n := 99) g (by decide)
      have hLW := lw_ok h2
      generalize (fun f => (m.1 6 f).toNatClampNeg) = L at hLW
      generalize (fun f => (m.1 7 f).toNatClampNeg) = W at hLW
      obtain ⟨m1, s1, K1⟩ := c_number H hLW hf hR
      obtain ⟨P, hP⟩ : ∃ P, P = m.1 ag_facts_place := ⟨_, rfl⟩
      rw [← hP] at s1
      obtain ⟨mt, hmt⟩ : ∃ mt : xMem, mt = (xst m1.1 am fGuideBookModel_thrown 0, m1.2) := ⟨_, rfl⟩
      have Kt : xKeep m mt := by rw [hmt]; exact K1.trans (k_th m1 0)
      obtain ⟨m0, hm0⟩ : ∃ m0 : xMem, m0 = (xst mt.1 am fGuideBookModel_many 0, mt.2) := ⟨_, rfl⟩
      have fr0 : ∀ b j, ¬ (b = 87 ∧ j = 43) → m0.1 b j = mt.1 b j := fun b j w => by rw [hm0]; exact xst_n w
      obtain ⟨mg, g1, g2, g3, g4, g5⟩ := m_gat (nf := nf) (P := P) (p := P f) (by omega) (c := fun m_7 => L_X10_laysOut_56 xfuel (m_7.1 am fGuideBookModel_many) m_7) nf 0 xfuel m0 (by omega) (by rw [xfuel_eq]; omega) ((fr0 87 25 (by decide)).trans ((Kt.1 87 25 rfl).trans a2)) (fun i hi => by
        rw [fr0 am_placeOf i (fun w => absurd w.1 (by decide)), Kt.1 am_placeOf i (xsc_n (by decide) i), hP]
        exact ((h2 i hi).2.1.1).symm) (by rw [hm0]; show xst mt.1 87 43 0 87 43 = _; rw [xst_s]; rfl) (fun j f hj => by cases hj)
      have hlen := pg_len (P := P) (p := P f) nf 0
      have hmem := fun x => pg_mem (P := P) (p := P f) nf 0 x
      generalize pg P (P f) nf 0 = ps at *
      have frg : ∀ b j, b ≠ 119 → b ≠ 87 → xscr b j = false → mg.1 b j = m.1 b j := fun b j w1 w2 w3 => (g3 b j w1 (fun u => w2 u.1)).trans ((fr0 b j (fun u => w2 u.1)).trans (Kt.1 b j w3))
      have hpg : pgo mg.1 nf L W ps := by
        refine ⟨g4, by omega, fun k f' hk => ⟨g5 k f' hk, ?_⟩, fun f' hf' => ?_, hb.1⟩
        · have := hmem f' (List.mem_of_getElem? hk)
          omega
        · rw [frg 6 f' (by decide) (by decide) (xsc_n (by decide) f'), frg 7 f' (by decide) (by decide) (xsc_n (by decide) f'), frg 107 f' (by decide) (by decide) (xsc_n (by decide) f'), frg 108 f' (by decide) (by decide) (xsc_n (by decide) f')]
          exact hLW f' hf'
      obtain ⟨mr, r1, r2, r3⟩ := m_rows (nf := nf) (L := L) (W := W) (ps := ps) (ps.length + 1) xfuel mg (Nat.le_refl _) (by rw [xfuel_eq]; omega) hpg (fun j w1 w2 => by omega)
      have hw := m_wk (f := f) (by omega) (hpg.mv r2) r3 ps.length 0 xfuel R 0 (by omega) (by rw [xfuel_eq]; omega) (by omega) (by omega)
      rw [List.drop_zero] at hw
      have hy1 : ¬ Int32.ofNat R < 0 := by grind
      have d10 : ¬ ((1 : Int32) = 0) := by decide
      have hi : xin (Int32.ofNat f) 60 = true := o_in (by omega) (by omega)
      have hn : (Int32.ofNat f).toNatClampNeg = f := o_nat (by omega)
      have hat : mt.1 am fGuideBookModel_facts = Int32.ofNat nf := (Kt.1 87 25 rfl).trans a2
      have hpf : mt.1 am_placeOf f = P f := by
        rw [Kt.1 am_placeOf f (xsc_n (by decide) f), hP]
        exact ((h2 f hf).2.1.1).symm
      have hlo : F_X10_laysOut (P f) mt = some (0, mr) := by
        unfold F_X10_laysOut
        rw [← hm0]
        rw [← o_zero] at g1
        refine g1.trans ?_
        show L_X10_laysOut_56 xfuel (mg.1 87 43) mg = _
        rw [g4, ← r1, o_m1]
      refine xPair.keep (v := Int32.ofNat (wk L W f ps R 0)) (m1 := m1) (m2 := mr) ht H s1 K1 ?_ ?_
      · unfold F_X10_number
        rw [← hmt, g_mFact, Option.bind_some]
        dsimp only
        rw [hat, if_pos h, if_neg d10, if_neg hy1, if_pos g.2, if_pos hi, hn, hpf, hlo, Option.bind_some]
        rw [← o_zero] at hw
        exact hw
      · refine ⟨fun b j q => ?_, ?_⟩
        · have qb : b ≠ 120 ∧ b ≠ 121 ∧ b ≠ 119 ∧ ¬ (b = 87 ∧ j = 43) ∧ ¬ (b = 87 ∧ j = 0) := by
            refine ⟨?_, ?_, ?_, ?_, ?_⟩ <;> intro w
            · subst w; revert q; unfold xscr; simp
            · subst w; revert q; unfold xscr; simp
            · subst w; revert q; unfold xscr; simp
            · rw [w.1, w.2] at q; revert q; decide
            · rw [w.1, w.2] at q; revert q; decide
          rw [r2.2 b j qb.1 qb.2.1, g3 b j qb.2.2.1 qb.2.2.2.1, fr0 b j qb.2.2.2.1, hmt]
          exact xst_n qb.2.2.2.2
        · rw [r2.1, g2, hm0]
          show mt.2 92 = _
          rw [hmt]
    · have hq : (0 ≤ x ∧ x < Int32.ofNat nf) = True := eq_true h
      refine xPair.keep (m1 := m) (m2 := (xst m.1 am fGuideBookModel_thrown 0, m.2)) (v := -1) ht H ?_ (xKeep.refl m) ?_ (k_th m 0)
      · simp (decide := true) only [Option.bind_some, ↓reduceIte, xst_f, xst_k, xst_s, ne_eq, not_false_eq_true, not_true_eq_false, and_self, and_true, true_and, and_false, false_and, or_true, true_or, or_false, false_or, F_X9_number, g_has, a1, hq, g_wi, g]
      · by_cases k3 : y < 0
        · simp (decide := true) only [Option.bind_some, ↓reduceIte, xst_f, xst_k, xst_s, ne_eq, not_false_eq_true, not_true_eq_false, and_self, and_true, true_and, and_false, false_and, or_true, true_or, or_false, false_or, F_X10_number, g_mFact, a2, hq, k3]
        · have k4 : ¬ y ≤ 99 := by grind
          simp (decide := true) only [Option.bind_some, ↓reduceIte, xst_f, xst_k, xst_s, ne_eq, not_false_eq_true, not_true_eq_false, and_self, and_true, true_and, and_false, false_and, or_true, true_or, or_false, false_or, F_X10_number, g_mFact, a2, hq, k3, k4]
  · refine xPair.keep (m1 := m) (m2 := (xst m.1 am fGuideBookModel_thrown 0, m.2)) (v := -1) ht H ?_ (xKeep.refl m) ?_ (k_th m 0)
    · simp (decide := true) only [Option.bind_some, ↓reduceIte, xst_f, xst_k, xst_s, ne_eq, not_false_eq_true, not_true_eq_false, and_self, and_true, true_and, and_false, false_and, or_true, true_or, or_false, false_or, F_X9_number, g_has, a1, h]
    · simp (decide := true) only [Option.bind_some, ↓reduceIte, xst_f, xst_k, xst_s, ne_eq, not_false_eq_true, not_true_eq_false, and_self, and_true, true_and, and_false, false_and, or_true, true_or, or_false, false_or, F_X10_number, g_mFact, a2, h]
end NM
