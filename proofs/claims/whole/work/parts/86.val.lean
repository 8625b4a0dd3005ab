section VA
theorem pt_c : ∀ k : Fin 6, ¬ 0 ≤ -(Int32.ofNat (204 + k.1)) ∧ -(Int32.ofNat (204 + k.1)) < 0 ∧ - -(Int32.ofNat (204 + k.1)) = Int32.ofNat (204 + k.1) ∧ ¬ Int32.ofNat (204 + k.1) < 204 ∧ ¬ 209 < Int32.ofNat (204 + k.1) ∧ Int32.ofNat (204 + k.1) - 204 = Int32.ofNat k.1 ∧ xin (Int32.ofNat k.1) 6 = true ∧ (Int32.ofNat k.1).toNatClampNeg = k.1 := by decide +kernel
theorem op_c : ∀ k : Fin 5, ¬ 0 ≤ tkC (.inr k.1) ∧ -(tkC (.inr k.1)) < 204 := by decide +kernel
theorem c_joined {m : xMem} (a b : Int32) : ∀ k, k < 5 → F_X6_joined (-(tkC (.inr k))) a b m = some (jn k a b, m)
  | 0, _ => rfl
  | 1, _ => rfl
  | 2, _ => by
    show (if b ≤ a then some ((0 : Int32), m) else some ((1 : Int32), m)) = some (if b ≤ a then 0 else 1, m)
    split <;> rfl
  | 3, _ => by
    show (if a = b then some ((1 : Int32), m) else some ((0 : Int32), m)) = some (if a = b then 1 else 0, m)
    split <;> rfl
  | 4, _ => by
    show (if a = 0 then some ((0 : Int32), m) else if b = 0 then some ((0 : Int32), m) else some ((1 : Int32), m)) = some (if a = 0 then 0 else if b = 0 then 0 else 1, m)
    split
    · rfl
    · split <;> rfl
theorem c_vl {N : Nat → Int32} {to : Nat} {c : Int32 → xMem → Option (Int32 × xMem)} (hto : to ≤ 600) : ∀ (ts : List xTok) (d e pos fk : Nat) (m : xMem), pos + ts.length = to → ts.length < fk → tkW ts d e → d ≤ 32 → (∀ t ∈ ts, tkG t) → (∀ j t, ts[j]? = some t → m.1 42 (pos + j) = tkC t) → (∀ k, k < 6 → m.1 86 k = N k) →
    ∃ m', L_X6_valueOf_6 (Int32.ofNat to) c fk (Int32.ofNat d) (Int32.ofNat pos) m = c (Int32.ofNat e) m' ∧ m'.2 = m.2 ∧ (∀ b j, b ≠ 45 → m'.1 b j = m.1 b j) ∧ ∀ j, j < e → m'.1 45 j = evl N ts (m.1 45) d j
  | [], d, e, pos, fk + 1, m, hl, hf, hw, hd, hG, hc, hN => by
    have q : Int32.ofNat to ≤ Int32.ofNat pos := (o_le (by omega) (by simp at hl; omega)).mpr (by simp at hl; omega)
    have : d = e := hw
    subst this
    refine ⟨m, ?_, rfl, fun _ _ _ => rfl, fun _ _ => rfl⟩
    unfold L_X6_valueOf_6
    rw [if_pos q]
  | t :: ts, d, e, pos, fk + 1, m, hl, hf, hw, hd, hG, hc, hN => by
    rw [List.length_cons] at hl hf
    have q : ¬ Int32.ofNat to ≤ Int32.ofNat pos := fun w => by have := (o_le (by omega) (by omega)).mp w; omega
    have i1 : xin (Int32.ofNat pos) 600 = true := o_in (by omega) (by omega)
    have n1 : (Int32.ofNat pos).toNatClampNeg = pos := o_nat (by omega)
    have hc0 : m.1 ag_script_code pos = tkC t := hc 0 t rfl
    have hg := hG t (List.mem_cons_self ..)
    -- one cell put, then on
    have step : ∀ (i d' : Nat) (v : Int32), tkW ts d' e → d' ≤ 32 → L_X6_valueOf_6 (Int32.ofNat to) c (fk + 1) (Int32.ofNat d) (Int32.ofNat pos) m = L_X6_valueOf_6 (Int32.ofNat to) c fk (Int32.ofNat d') (Int32.ofNat (pos + 1)) (xst m.1 ag_script_waiting i v, m.2) → evl N (t :: ts) (m.1 45) d = evl N ts (fun j => if j = i then v else m.1 45 j) d' → ∃ m', L_X6_valueOf_6 (Int32.ofNat to) c (fk + 1) (Int32.ofNat d) (Int32.ofNat pos) m = c (Int32.ofNat e) m' ∧ m'.2 = m.2 ∧ (∀ b j, b ≠ 45 → m'.1 b j = m.1 b j) ∧ ∀ j, j < e → m'.1 45 j = evl N (t :: ts) (m.1 45) d j := by
      intro i d' v w1 w2 w3 w4
      have fr : ∀ b j, b ≠ 45 → xst m.1 ag_script_waiting i v b j = m.1 b j := fun b j w => xst_n (fun u => w u.1)
      obtain ⟨m', r1, r2, r3, r4⟩ := c_vl (N := N) (c := c) hto ts d' e (pos + 1) fk (xst m.1 ag_script_waiting i v, m.2) (by omega) (by omega) w1 w2 (fun x hx => hG x (List.mem_cons_of_mem _ hx)) (fun j x hx => by
        show xst m.1 ag_script_waiting i v 42 (pos + 1 + j) = _
        rw [fr 42 _ (by decide)]
        have := hc (j + 1) x (by simpa using hx)
        rw [show pos + 1 + j = pos + (j + 1) by omega]
        exact this) (fun k hk => (fr 86 k (by decide)).trans (hN k hk))
      refine ⟨m', w3.trans r1, r2, fun b j w => (r3 b j w).trans (fr b j w), fun j hj => ?_⟩
      rw [r4 j hj, w4]
      refine congrFun (congrArg (fun S => evl N ts S d') ?_) j
      funext j'
      show xst m.1 45 i v 45 j' = _
      by_cases u : j' = i
      · rw [if_pos u, u]; exact xst_s
      · rw [if_neg u]; exact xst_n (fun z => u z.2)
    match t, hw, hc0, hg, step with
    | .inl (.inl v), hw, hc0, hg, step =>
      have hd32 : d < 32 := hw.1
      have q1 : ¬ 32 ≤ Int32.ofNat d := fun w => by have := (o_le (a := 32) (by omega) (by omega)).mp w; omega
      have i2 : xin (Int32.ofNat d) 32 = true := o_in (by omega) (by omega)
      have n2 : (Int32.ofNat d).toNatClampNeg = d := o_nat (by omega)
      have g0 : 0 ≤ v := hg
      have g1 : ¬ v < 0 := by grind
      have hc1 : m.1 ag_script_code pos = v := hc0
      refine step d (d + 1) v hw.2 (by omega) ?_ rfl
      rw [L_X6_valueOf_6]
      simp (decide := true) only [Option.bind_some, ↓reduceIte, xst_f, xst_k, xst_s, ne_eq, not_false_eq_true, not_true_eq_false, and_self, and_true, true_and, and_false, false_and, or_true, true_or, or_false, false_or, q, i1, n1, hc1, g0, g1, J_X6_valueOf_114, J_X6_valueOf_35, q1, i2, n2, o_succ]
    | .inl (.inr k), hw, hc0, hg, step =>
      have hd32 : d < 32 := hw.1
      have hk : k < 6 := hg
      obtain ⟨p1, p2, p3, p4, p5, p6, p7, p8⟩ := pt_c ⟨k, hk⟩
      dsimp only at p1 p2 p3 p4 p5 p6 p7 p8
      have q1 : ¬ 32 ≤ Int32.ofNat d := fun w => by have := (o_le (a := 32) (by omega) (by omega)).mp w; omega
      have i2 : xin (Int32.ofNat d) 32 = true := o_in (by omega) (by omega)
      have n2 : (Int32.ofNat d).toNatClampNeg = d := o_nat (by omega)
      have hc1 : m.1 ag_script_code pos = -(Int32.ofNat (204 + k)) := hc0
      have hN' : m.1 ag_named k = N k := hN k hk
      have d10 : ¬ ((1 : Int32) = 0) := by decide
      refine step d (d + 1) (N k) hw.2 (by omega) ?_ rfl
      rw [L_X6_valueOf_6]
      simp (decide := true) only [Option.bind_some, ↓reduceIte, xst_f, xst_k, xst_s, ne_eq, not_false_eq_true, not_true_eq_false, and_self, and_true, true_and, and_false, false_and, or_true, true_or, or_false, false_or, q, i1, n1, hc1, p1, p2, p3, F_X9_isName, p4, p5, d10, p6, p7, p8, J_X6_valueOf_114, J_X6_valueOf_35, q1, i2, n2, hN', o_succ]
    | .inr k, hw, hc0, hg, step =>
      have hd2 : 2 ≤ d := hw.1
      have hk : k < 5 := hg
      obtain ⟨p1, p2⟩ := op_c ⟨k, hk⟩
      dsimp only at p1 p2
      have q1 : ¬ Int32.ofNat d < 2 := fun w => by have := (o_lt (b := 2) (by omega) (by omega)).mp w; omega
      obtain ⟨d', rfl⟩ : ∃ d', d = d' + 2 := ⟨d - 2, by omega⟩
      have e1 : Int32.ofNat (d' + 2) + -1 = Int32.ofNat (d' + 1) := o_m1
      have e2 : Int32.ofNat (d' + 1) - 1 = Int32.ofNat d' := o_pred
      have i2 : xin (Int32.ofNat d') 32 = true := o_in (by omega) (by omega)
      have n2 : (Int32.ofNat d').toNatClampNeg = d' := o_nat (by omega)
      have i3 : xin (Int32.ofNat (d' + 1)) 32 = true := o_in (by omega) (by omega)
      have n3 : (Int32.ofNat (d' + 1)).toNatClampNeg = d' + 1 := o_nat (by omega)
      refine step d' (d' + 1) (jn k (m.1 45 d') (m.1 45 (d' + 1))) hw.2 (by omega) ?_ rfl
      rw [L_X6_valueOf_6]
      simp (decide := true) only [Option.bind_some, ↓reduceIte, xst_f, xst_k, xst_s, ne_eq, not_false_eq_true, not_true_eq_false, and_self, and_true, true_and, and_false, false_and, or_true, true_or, or_false, false_or, q, i1, n1, hc0, p1, F_X9_isName, p2, q1, e1, e2, i2, n2, i3, n3, c_joined _ _ k hk, J_X6_valueOf_114, J_X6_valueOf_35, o_succ]
theorem c_valueOf {m : xMem} {N : Nat → Int32} {from' : Nat} {ts : List xTok} (hto : from' + ts.length ≤ 600) (hw : tkW ts 0 1) (hG : ∀ t ∈ ts, tkG t) (hc : ∀ j t, ts[j]? = some t → m.1 42 (from' + j) = tkC t) (hN : ∀ k, k < 6 → m.1 86 k = N k) :
    ∃ m', F_X6_valueOf (Int32.ofNat from') (Int32.ofNat (from' + ts.length)) m = some (lnv N ts, m') ∧ m'.2 = m.2 ∧ ∀ b j, b ≠ 45 → m'.1 b j = m.1 b j := by
  obtain ⟨m', r1, r2, r3, r4⟩ := c_vl (N := N) (c := fun x4_31 m_32 => (
    if x4_31 = 0 then (
      some ((0 : Int32), m_32))
    else (
      if xin (x4_31 - (1 : Int32)) 32 = true then (
      some (m_32.1 ag_script_waiting (x4_31 - (1 : Int32)).toNatClampNeg, m_32))
      else none))) hto ts 0 1 from' xfuel m rfl (by rw [xfuel_eq]; omega) hw (by omega) hG hc hN
  refine ⟨m', ?_, r2, r3⟩
  unfold F_X6_valueOf
  rw [← o_zero] at r1
  refine r1.trans ?_
  have e : m'.1 45 0 = lnv N ts := by
    rw [r4 0 (by omega)]
    exact evl_cg ts _ _ 0 1 hw (fun j hj => by omega) 0 (by omega)
  show some (m'.1 45 0, m') = _
  rw [e]
theorem c_sf {N : Nat → Int32} {ls : List xLine} (hG : txG ls) : ∀ (k i fk : Nat) (m : xMem), i + k = ls.length → k < fk → txC m.1 41 42 43 44 ls → (∀ k, k < 6 → m.1 86 k = N k) → ∃ m', L_X6_starsFor_4 fk (Int32.ofNat (cAt ls i)) (Int32.ofNat i) m = some (stv N (ls.drop i), m') ∧ m'.2 = m.2 ∧ ∀ b j, b ≠ 45 → m'.1 b j = m.1 b j
  | 0, i, fk + 1, m, h, _, hc, hN => by
    have h16 := hG.1
    have q : Int32.ofNat ls.length ≤ Int32.ofNat i := (o_le (by omega) (by omega)).mpr (by omega)
    refine ⟨m, ?_, rfl, fun _ _ _ => rfl⟩
    unfold L_X6_starsFor_4
    rw [show m.1 ag_script fScript_lines = Int32.ofNat ls.length from hc.1, if_pos q, List.drop_eq_nil_of_le (by omega)]
    rfl
  | k + 1, i, fk + 1, m, h, hf, hc, hN => by
    have h16 := hG.1
    have q : ¬ Int32.ofNat ls.length ≤ Int32.ofNat i := fun w => by have := (o_le (by omega) (by omega)).mp w; omega
    have i1 : xin (Int32.ofNat i) 16 = true := o_in (by omega) (by omega)
    have n1 : (Int32.ofNat i).toNatClampNeg = i := o_nat (by omega)
    obtain ⟨l, hl⟩ : ∃ l, ls[i]? = some l := ⟨ls[i]'(by omega), List.getElem?_eq_getElem (by omega)⟩
    have hdr : ls.drop i = l :: ls.drop (i + 1) := by
      obtain ⟨h1, h2⟩ := List.getElem?_eq_some_iff.mp hl
      rw [← h2]
      exact List.drop_eq_getElem_cons h1
    obtain ⟨b1, b2, b3⟩ := cAt_end hG hl
    obtain ⟨g1, g2, g3⟩ := hG.2.2 l (List.mem_of_getElem? hl)
    obtain ⟨c1, c2, c3⟩ := hc.2 i l hl
    obtain ⟨m1, r1, r2, r3⟩ := c_valueOf (m := m) (N := N) (from' := cAt ls i) (ts := l.2) b1 g2 g3 c3 hN
    have c1' : m.1 ag_script_endOf i = _ := c1
    have c1m : m1.1 ag_script_endOf i = Int32.ofNat (cAt ls i + l.2.length) := (r3 43 i (by decide)).trans c1
    have c2m : m1.1 ag_script_starsIn i = Int32.ofNat l.1 := (r3 44 i (by decide)).trans c2
    have hcm : txC m1.1 41 42 43 44 ls := by
      refine ⟨(r3 41 _ (by decide)).trans hc.1, fun i l hl => ?_⟩
      obtain ⟨a1, a2, a3⟩ := hc.2 i l hl
      exact ⟨(r3 43 i (by decide)).trans a1, (r3 44 i (by decide)).trans a2, fun j t ht => (r3 42 _ (by decide)).trans (a3 j t ht)⟩
    rw [hdr, stv]
    unfold L_X6_starsFor_4
    rw [show m.1 ag_script fScript_lines = Int32.ofNat ls.length from hc.1, if_neg q, if_pos i1, n1, c1', r1, Option.bind_some]
    dsimp only
    rw [c1m, c2m]
    by_cases w : lnv N l.2 = 0
    · rw [if_pos w, if_pos w, if_pos i1, o_succ, ← (cAt_s hl).1]
      obtain ⟨m', s1, s2, s3⟩ := c_sf hG k (i + 1) fk m1 (by omega) (by omega) hcm (fun k hk => (r3 86 k (by decide)).trans (hN k hk))
      exact ⟨m', s1, s2.trans r2, fun b j u => (s3 b j u).trans (r3 b j u)⟩
    · rw [if_neg w, if_neg w, if_pos i1]
      exact ⟨m1, rfl, r2, r3⟩
end VA
