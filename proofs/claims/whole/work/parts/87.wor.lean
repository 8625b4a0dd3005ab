section WO
theorem tkO_c : ∀ k : Fin 5, ¬ tkO (.inr k.1) = 0 ∧ ¬ tkO (.inr k.1) = 1 ∧ ¬ tkO (.inr k.1) = 2 := by decide +kernel
theorem m_wo {N : Nat → Int32} : ∀ (ts : List xTok) (d e pos fk : Nat) (m : xMem), pos + ts.length < 1320 → ts.length < fk → tkW ts d e → d ≤ 32 → (∀ t ∈ ts, tkG t) → (∀ j t, ts[j]? = some t → m.1 96 (pos + j) = tkO t ∧ m.1 97 (pos + j) = tkA t) → m.1 96 (pos + ts.length) = 0 → (∀ k, k < 6 → m.1 101 k = N k) →
    ∃ m', L_X10_worth_4 fk (Int32.ofNat pos) (Int32.ofNat d) m = some (m'.1 102 0, m') ∧ m'.2 = m.2 ∧ (∀ b j, b ≠ 102 → m'.1 b j = m.1 b j) ∧ ∀ j, j < e → m'.1 102 j = evl N ts (m.1 102) d j
  | [], d, e, pos, fk + 1, m, hl, hf, hw, hd, hG, hc, hz, hN => by
    have : d = e := hw
    subst this
    have i1 : xin (Int32.ofNat pos) 1320 = true := o_in (by simp at hl; omega) (by simp at hl; omega)
    have n1 : (Int32.ofNat pos).toNatClampNeg = pos := o_nat (by simp at hl; omega)
    have hz' : m.1 am_op pos = 0 := hz
    refine ⟨m, ?_, rfl, fun _ _ _ => rfl, fun _ _ => rfl⟩
    unfold L_X10_worth_4
    rw [if_pos i1, n1, if_pos hz', if_pos (by decide)]
    rfl
  | t :: ts, d, e, pos, fk + 1, m, hl, hf, hw, hd, hG, hc, hz, hN => by
    rw [List.length_cons] at hl hf hz
    have i1 : xin (Int32.ofNat pos) 1320 = true := o_in (by omega) (by omega)
    have n1 : (Int32.ofNat pos).toNatClampNeg = pos := o_nat (by omega)
    have hc0 : m.1 am_op pos = tkO t := (hc 0 t rfl).1
    have ha0 : m.1 am_one pos = tkA t := (hc 0 t rfl).2
    have hg := hG t (List.mem_cons_self ..)
    have step : ∀ (i d' : Nat) (v : Int32), tkW ts d' e → d' ≤ 32 → L_X10_worth_4 (fk + 1) (Int32.ofNat pos) (Int32.ofNat d) m = L_X10_worth_4 fk (Int32.ofNat (pos + 1)) (Int32.ofNat d') (xst m.1 am_pile i v, m.2) → evl N (t :: ts) (m.1 102) d = evl N ts (fun j => if j = i then v else m.1 102 j) d' → ∃ m', L_X10_worth_4 (fk + 1) (Int32.ofNat pos) (Int32.ofNat d) m = some (m'.1 102 0, m') ∧ m'.2 = m.2 ∧ (∀ b j, b ≠ 102 → m'.1 b j = m.1 b j) ∧ ∀ j, j < e → m'.1 102 j = evl N (t :: ts) (m.1 102) d j := by
      intro i d' v w1 w2 w3 w4
      have fr : ∀ b j, b ≠ 102 → xst m.1 am_pile i v b j = m.1 b j := fun b j w => xst_n (fun u => w u.1)
      obtain ⟨m', r1, r2, r3, r4⟩ := m_wo (N := N) ts d' e (pos + 1) fk (xst m.1 am_pile i v, m.2) (by omega) (by omega) w1 w2 (fun x hx => hG x (List.mem_cons_of_mem _ hx)) (fun j x hx => by
        show xst m.1 am_pile i v 96 (pos + 1 + j) = _ ∧ xst m.1 am_pile i v 97 (pos + 1 + j) = _
        rw [fr 96 _ (by decide), fr 97 _ (by decide)]
        have := hc (j + 1) x (by simpa using hx)
        rw [show pos + 1 + j = pos + (j + 1) by omega]
        exact this) (by
        show xst m.1 am_pile i v 96 (pos + 1 + ts.length) = 0
        rw [fr 96 _ (by decide), show pos + 1 + ts.length = pos + (ts.length + 1) by omega]
        exact hz) (fun k hk => (fr 101 k (by decide)).trans (hN k hk))
      refine ⟨m', w3.trans r1, r2, fun b j w => (r3 b j w).trans (fr b j w), fun j hj => ?_⟩
      rw [r4 j hj, w4]
      refine congrFun (congrArg (fun S => evl N ts S d') ?_) j
      funext j'
      show xst m.1 102 i v 102 j' = _
      by_cases u : j' = i
      · rw [if_pos u, u]; exact xst_s
      · rw [if_neg u]; exact xst_n (fun z => u z.2)
    match t, hw, hc0, ha0, hg, step with
    | .inl (.inl v), hw, hc0, ha0, hg, step =>
      have hd32 : d < 32 := hw.1
      have i2 : xin (Int32.ofNat d) 660 = true := o_in (by omega) (by omega)
      have n2 : (Int32.ofNat d).toNatClampNeg = d := o_nat (by omega)
      have hc1 : m.1 am_op pos = 1 := hc0
      have ha1 : m.1 am_one pos = v := ha0
      have d10 : ¬ ((1 : Int32) = 0) := by decide
      refine step d (d + 1) v hw.2 (by omega) ?_ rfl
      rw [L_X10_worth_4]
      simp (decide := true) only [Option.bind_some, ↓reduceIte, xst_f, xst_k, xst_s, ne_eq, not_false_eq_true, not_true_eq_false, and_self, and_true, true_and, and_false, false_and, or_true, true_or, or_false, false_or, i1, n1, hc1, d10, ha1, J_X10_worth_186, J_X10_worth_33, i2, n2, o_succ]
    | .inl (.inr k), hw, hc0, ha0, hg, step =>
      have hd32 : d < 32 := hw.1
      have hk : k < 6 := hg
      obtain ⟨-, -, -, -, -, -, p7, p8⟩ := pt_c ⟨k, hk⟩
      dsimp only at p7 p8
      have i2 : xin (Int32.ofNat d) 660 = true := o_in (by omega) (by omega)
      have n2 : (Int32.ofNat d).toNatClampNeg = d := o_nat (by omega)
      have hc1 : m.1 am_op pos = 2 := hc0
      have ha1 : m.1 am_one pos = Int32.ofNat k := ha0
      have hN' : m.1 am_known k = N k := hN k hk
      have d20 : ¬ ((2 : Int32) = 0) := by decide
      have d21 : ¬ ((2 : Int32) = 1) := by decide
      refine step d (d + 1) (N k) hw.2 (by omega) ?_ rfl
      rw [L_X10_worth_4]
      simp (decide := true) only [Option.bind_some, ↓reduceIte, xst_f, xst_k, xst_s, ne_eq, not_false_eq_true, not_true_eq_false, and_self, and_true, true_and, and_false, false_and, or_true, true_or, or_false, false_or, i1, n1, hc1, d20, d21, ha1, J_X10_worth_186, J_X10_worth_33, i2, n2, p7, p8, hN', o_succ]
    | .inr k, hw, hc0, ha0, hg, step =>
      have hd2 : 2 ≤ d := hw.1
      have hk : k < 5 := hg
      obtain ⟨d', rfl⟩ : ∃ d', d = d' + 2 := ⟨d - 2, by omega⟩
      have e1 : Int32.ofNat (d' + 2) + -1 = Int32.ofNat (d' + 1) := o_m1
      have e2 : Int32.ofNat (d' + 1) - 1 = Int32.ofNat d' := o_pred
      have i2 : xin (Int32.ofNat d') 660 = true := o_in (by omega) (by omega)
      have n2 : (Int32.ofNat d').toNatClampNeg = d' := o_nat (by omega)
      have i3 : xin (Int32.ofNat (d' + 1)) 660 = true := o_in (by omega) (by omega)
      have n3 : (Int32.ofNat (d' + 1)).toNatClampNeg = d' + 1 := o_nat (by omega)
      refine step d' (d' + 1) (jn k (m.1 102 d') (m.1 102 (d' + 1))) hw.2 (by omega) ?_ rfl
      have P0 : m.1 am_pile = m.1 102 := rfl
      match k, hk, hc0 with
      | 0, _, hc0 =>
        have hc1 : m.1 am_op pos = 3 := hc0
        rw [L_X10_worth_4]
        simp (decide := true) only [Option.bind_some, ↓reduceIte, xst_f, xst_k, xst_s, ne_eq, not_false_eq_true, not_true_eq_false, and_self, and_true, true_and, and_false, false_and, or_true, true_or, or_false, false_or, i1, n1, hc1, e1, e2, i2, n2, i3, n3, J_X10_worth_186, J_X10_worth_33, o_succ, jn, show ¬ ((3 : Int32) = 0) by decide, show ¬ ((3 : Int32) = 1) by decide, show ¬ ((3 : Int32) = 2) by decide]
      | 1, _, hc0 =>
        have hc1 : m.1 am_op pos = 4 := hc0
        rw [L_X10_worth_4]
        simp (decide := true) only [Option.bind_some, ↓reduceIte, xst_f, xst_k, xst_s, ne_eq, not_false_eq_true, not_true_eq_false, and_self, and_true, true_and, and_false, false_and, or_true, true_or, or_false, false_or, i1, n1, hc1, e1, e2, i2, n2, i3, n3, J_X10_worth_186, J_X10_worth_33, o_succ, jn, show ¬ ((4 : Int32) = 0) by decide, show ¬ ((4 : Int32) = 1) by decide, show ¬ ((4 : Int32) = 2) by decide, show ¬ ((4 : Int32) = 3) by decide]
      | 2, _, hc0 =>
        have hc1 : m.1 am_op pos = 5 := hc0
        rw [L_X10_worth_4]
        by_cases w : m.1 102 (d' + 1) ≤ m.1 102 d'
        · simp (decide := true) only [Option.bind_some, ↓reduceIte, xst_f, xst_k, xst_s, ne_eq, not_false_eq_true, not_true_eq_false, and_self, and_true, true_and, and_false, false_and, or_true, true_or, or_false, false_or, i1, n1, hc1, e1, e2, i2, n2, i3, n3, J_X10_worth_186, J_X10_worth_33, o_succ, jn, w, P0, show ¬ ((5 : Int32) = 0) by decide, show ¬ ((5 : Int32) = 1) by decide, show ¬ ((5 : Int32) = 2) by decide, show ¬ ((5 : Int32) = 3) by decide, show ¬ ((5 : Int32) = 4) by decide]
        · simp (decide := true) only [Option.bind_some, ↓reduceIte, xst_f, xst_k, xst_s, ne_eq, not_false_eq_true, not_true_eq_false, and_self, and_true, true_and, and_false, false_and, or_true, true_or, or_false, false_or, i1, n1, hc1, e1, e2, i2, n2, i3, n3, J_X10_worth_186, J_X10_worth_33, o_succ, jn, w, P0, show ¬ ((5 : Int32) = 0) by decide, show ¬ ((5 : Int32) = 1) by decide, show ¬ ((5 : Int32) = 2) by decide, show ¬ ((5 : Int32) = 3) by decide, show ¬ ((5 : Int32) = 4) by decide]
      | 3, _, hc0 =>
        have hc1 : m.1 am_op pos = 6 := hc0
        rw [L_X10_worth_4]
        by_cases w : m.1 102 d' = m.1 102 (d' + 1)
        · simp (decide := true) only [Option.bind_some, ↓reduceIte, xst_f, xst_k, xst_s, ne_eq, not_false_eq_true, not_true_eq_false, and_self, and_true, true_and, and_false, false_and, or_true, true_or, or_false, false_or, i1, n1, hc1, e1, e2, i2, n2, i3, n3, J_X10_worth_186, J_X10_worth_33, o_succ, jn, w, P0, show ¬ ((6 : Int32) = 0) by decide, show ¬ ((6 : Int32) = 1) by decide, show ¬ ((6 : Int32) = 2) by decide, show ¬ ((6 : Int32) = 3) by decide, show ¬ ((6 : Int32) = 4) by decide, show ¬ ((6 : Int32) = 5) by decide]
        · simp (decide := true) only [Option.bind_some, ↓reduceIte, xst_f, xst_k, xst_s, ne_eq, not_false_eq_true, not_true_eq_false, and_self, and_true, true_and, and_false, false_and, or_true, true_or, or_false, false_or, i1, n1, hc1, e1, e2, i2, n2, i3, n3, J_X10_worth_186, J_X10_worth_33, o_succ, jn, w, P0, show ¬ ((6 : Int32) = 0) by decide, show ¬ ((6 : Int32) = 1) by decide, show ¬ ((6 : Int32) = 2) by decide, show ¬ ((6 : Int32) = 3) by decide, show ¬ ((6 : Int32) = 4) by decide, show ¬ ((6 : Int32) = 5) by decide]
      | 4, _, hc0 =>
        have hc1 : m.1 am_op pos = 7 := hc0
        rw [L_X10_worth_4]
        by_cases w : m.1 102 d' = 0
        · simp (decide := true) only [Option.bind_some, ↓reduceIte, xst_f, xst_k, xst_s, ne_eq, not_false_eq_true, not_true_eq_false, and_self, and_true, true_and, and_false, false_and, or_true, true_or, or_false, false_or, i1, n1, hc1, e1, e2, i2, n2, i3, n3, J_X10_worth_186, J_X10_worth_33, o_succ, jn, w, P0, show ¬ ((7 : Int32) = 0) by decide, show ¬ ((7 : Int32) = 1) by decide, show ¬ ((7 : Int32) = 2) by decide, show ¬ ((7 : Int32) = 3) by decide, show ¬ ((7 : Int32) = 4) by decide, show ¬ ((7 : Int32) = 5) by decide, show ¬ ((7 : Int32) = 6) by decide]
        · by_cases w2 : m.1 102 (d' + 1) = 0
          · simp (decide := true) only [Option.bind_some, ↓reduceIte, xst_f, xst_k, xst_s, ne_eq, not_false_eq_true, not_true_eq_false, and_self, and_true, true_and, and_false, false_and, or_true, true_or, or_false, false_or, i1, n1, hc1, e1, e2, i2, n2, i3, n3, J_X10_worth_186, J_X10_worth_33, o_succ, jn, w, w2, P0, show ¬ ((7 : Int32) = 0) by decide, show ¬ ((7 : Int32) = 1) by decide, show ¬ ((7 : Int32) = 2) by decide, show ¬ ((7 : Int32) = 3) by decide, show ¬ ((7 : Int32) = 4) by decide, show ¬ ((7 : Int32) = 5) by decide, show ¬ ((7 : Int32) = 6) by decide]
          · simp (decide := true) only [Option.bind_some, ↓reduceIte, xst_f, xst_k, xst_s, ne_eq, not_false_eq_true, not_true_eq_false, and_self, and_true, true_and, and_false, false_and, or_true, true_or, or_false, false_or, i1, n1, hc1, e1, e2, i2, n2, i3, n3, J_X10_worth_186, J_X10_worth_33, o_succ, jn, w, w2, P0, show ¬ ((7 : Int32) = 0) by decide, show ¬ ((7 : Int32) = 1) by decide, show ¬ ((7 : Int32) = 2) by decide, show ¬ ((7 : Int32) = 3) by decide, show ¬ ((7 : Int32) = 4) by decide, show ¬ ((7 : Int32) = 5) by decide, show ¬ ((7 : Int32) = 6) by decide]
theorem m_worth {m : xMem} {N : Nat → Int32} {pos : Nat} {ts : List xTok} (hl : pos + ts.length < 1320) (hlen : ts.length ≤ 600) (hw : tkW ts 0 1) (hG : ∀ t ∈ ts, tkG t) (hc : ∀ j t, ts[j]? = some t → m.1 96 (pos + j) = tkO t ∧ m.1 97 (pos + j) = tkA t) (hz : m.1 96 (pos + ts.length) = 0) (hN : ∀ k, k < 6 → m.1 101 k = N k) :
    ∃ m', F_X10_worth (Int32.ofNat pos) m = some (lnv N ts, m') ∧ m'.2 = m.2 ∧ ∀ b j, b ≠ 102 → m'.1 b j = m.1 b j := by
  obtain ⟨m', r1, r2, r3, r4⟩ := m_wo (N := N) ts 0 1 pos xfuel m hl (by rw [xfuel_eq]; omega) hw (by omega) hG hc hz hN
  refine ⟨m', ?_, r2, r3⟩
  have e : m'.1 102 0 = lnv N ts := by
    rw [r4 0 (by omega)]
    exact evl_cg ts _ _ 0 1 hw (fun j hj => by omega) 0 (by omega)
  unfold F_X10_worth
  rw [← e]
  exact r1
theorem o_16 {a : Nat} : (16 : Int32) * Int32.ofNat a = Int32.ofNat (16 * a) := o_mul (a := 16)
theorem m_sf {N : Nat → Int32} {ls : List xLine} {h : Nat} (hh : h = 0 ∨ h = 1) (hG : txG ls) : ∀ (k i fk : Nat) (m : xMem), i + k = ls.length → k < fk → m.1 87 15 = Int32.ofNat h → txM m.1 h ls → (∀ k, k < 6 → m.1 101 k = N k) → ∃ m', L_X10_starsOf_251 fk (Int32.ofNat (16 * h + i)) m = some (stv N (ls.drop i), m') ∧ m'.2 = m.2 ∧ ∀ b j, b ≠ 102 → m'.1 b j = m.1 b j
  | 0, i, fk + 1, m, hk, _, hho, hc, hN => by
    have h16 := hG.1
    have q : Int32.ofNat (16 * h + ls.length) ≤ Int32.ofNat (16 * h + i) := (o_le (by omega) (by omega)).mpr (by omega)
    have i0 : xin (Int32.ofNat h) 2 = true := o_in (by omega) (by omega)
    have n0 : (Int32.ofNat h).toNatClampNeg = h := o_nat (by omega)
    have hho' : m.1 am fGuideBookModel_holds = Int32.ofNat h := hho
    have hc1 : m.1 am_lines h = Int32.ofNat ls.length := hc.1
    refine ⟨m, ?_, rfl, fun _ _ _ => rfl⟩
    unfold L_X10_starsOf_251
    rw [hho', if_pos i0, n0, hc1, o_16, o_add, if_pos q, List.drop_eq_nil_of_le (by omega)]
    rfl
  | k + 1, i, fk + 1, m, hk, hf, hho, hc, hN => by
    have h16 := hG.1
    have q : ¬ Int32.ofNat (16 * h + ls.length) ≤ Int32.ofNat (16 * h + i) := fun w => by have := (o_le (by omega) (by omega)).mp w; omega
    have i0 : xin (Int32.ofNat h) 2 = true := o_in (by omega) (by omega)
    have n0 : (Int32.ofNat h).toNatClampNeg = h := o_nat (by omega)
    have i1 : xin (Int32.ofNat (16 * h + i)) 32 = true := o_in (by omega) (by omega)
    have n1 : (Int32.ofNat (16 * h + i)).toNatClampNeg = 16 * h + i := o_nat (by omega)
    have hho' : m.1 am fGuideBookModel_holds = Int32.ofNat h := hho
    have hc1 : m.1 am_lines h = Int32.ofNat ls.length := hc.1
    obtain ⟨l, hl⟩ : ∃ l, ls[i]? = some l := ⟨ls[i]'(by omega), List.getElem?_eq_getElem (by omega)⟩
    have hdr : ls.drop i = l :: ls.drop (i + 1) := by
      obtain ⟨h1, h2⟩ := List.getElem?_eq_some_iff.mp hl
      rw [← h2]
      exact List.drop_eq_getElem_cons h1
    obtain ⟨b1, b2, b3⟩ := cAt_end hG hl
    obtain ⟨g1, g2, g3⟩ := hG.2.2 l (List.mem_of_getElem? hl)
    obtain ⟨c1, c2, c3, c4⟩ := hc.2 i l hl
    obtain ⟨m1, r1, r2, r3⟩ := m_worth (m := m) (N := N) (pos := 660 * h + mAt ls i) (ts := l.2) (by omega) (by omega) g2 g3 c3 c4 hN
    have c2' : m.1 am_lineAt (16 * h + i) = _ := c2
    have c1m : m1.1 am_lineN (16 * h + i) = Int32.ofNat l.1 := (r3 94 _ (by decide)).trans c1
    have hcm : txM m1.1 h ls := by
      refine ⟨(r3 93 _ (by decide)).trans hc.1, fun i l hl => ?_⟩
      obtain ⟨a1, a2, a3, a4⟩ := hc.2 i l hl
      exact ⟨(r3 94 _ (by decide)).trans a1, (r3 95 _ (by decide)).trans a2, fun j t ht => ⟨(r3 96 _ (by decide)).trans (a3 j t ht).1, (r3 97 _ (by decide)).trans (a3 j t ht).2⟩, (r3 96 _ (by decide)).trans a4⟩
    rw [hdr, stv]
    unfold L_X10_starsOf_251
    rw [hho', if_pos i0, n0, hc1, o_16, o_add, if_neg q, if_pos i1, n1, c2', r1, Option.bind_some]
    dsimp only
    rw [c1m]
    by_cases w : lnv N l.2 = 0
    · rw [if_pos w, if_pos w, o_succ]
      obtain ⟨m', s1, s2, s3⟩ := m_sf hh hG k (i + 1) fk m1 (by omega) (by omega) ((r3 87 15 (by decide)).trans hho) hcm (fun k hk => (r3 101 k (by decide)).trans (hN k hk))
      exact ⟨m', s1, s2.trans r2, fun b j u => (s3 b j u).trans (r3 b j u)⟩
    · rw [if_neg w, if_neg w, if_pos i1]
      exact ⟨m1, rfl, r2, r3⟩
end WO
