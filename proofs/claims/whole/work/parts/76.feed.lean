section FE
variable {t nf nw nl ne tp : Nat} {n : Nat → Nat}
/-- a sign that the tape takes -/
abbrev gsn (b : Int32) : Prop := b = 10 ∨ (32 ≤ b ∧ b ≤ 126)
def tpush (s : Nat × (Nat → Int32)) (b : Int32) : Nat × (Nat → Int32) := if gsn b ∧ s.1 < 600 then (s.1 + 1, fun j => if j = s.1 then b else s.2 j) else s
/-- the tape's cells put -/
def putT (m : xMem) (s : Nat × (Nat → Int32)) : xMem := (fun a j => if a = 30 then s.2 j else if a = 29 ∧ j = 1 then Int32.ofNat s.1 else m.1 a j, m.2)
def putM (m : xMem) (s : Nat × (Nat → Int32)) : xMem := (fun a j => if a = 88 then s.2 j else if a = 87 ∧ j = 2 then Int32.ofNat s.1 else m.1 a j, m.2)
theorem putT_n {m : xMem} {s : Nat × (Nat → Int32)} {a j : Nat} (h : a ≠ 30) (h' : ¬ (a = 29 ∧ j = 1)) : (putT m s).1 a j = m.1 a j := by
  show (if a = 30 then s.2 j else if a = 29 ∧ j = 1 then Int32.ofNat s.1 else m.1 a j) = _
  rw [if_neg h, if_neg h']
theorem putM_n {m : xMem} {s : Nat × (Nat → Int32)} {a j : Nat} (h : a ≠ 88) (h' : ¬ (a = 87 ∧ j = 2)) : (putM m s).1 a j = m.1 a j := by
  show (if a = 88 then s.2 j else if a = 87 ∧ j = 2 then Int32.ofNat s.1 else m.1 a j) = _
  rw [if_neg h, if_neg h']
theorem putT_l {m : xMem} {s : Nat × (Nat → Int32)} : (putT m s).1 29 1 = Int32.ofNat s.1 := rfl
theorem putM_l {m : xMem} {s : Nat × (Nat → Int32)} : (putM m s).1 87 2 = Int32.ofNat s.1 := rfl
theorem putT_r {m : xMem} {s : Nat × (Nat → Int32)} : (putT m s).1 30 = s.2 := rfl
theorem putM_r {m : xMem} {s : Nat × (Nat → Int32)} : (putM m s).1 88 = s.2 := rfl
theorem nar_b : ∀ k : Fin 127, vp_nar .byte (Int32.ofNat k.1).toInt8.toInt32 = Int32.ofNat k.1 := by decide +kernel
theorem nar_g {b : Int32} (h : gsn b) : vp_nar .byte b.toInt8.toInt32 = b := by
  have hb : 0 ≤ b ∧ b ≤ 126 := by
    rcases h with h | h
    · subst h; exact ⟨by decide, by decide⟩
    · exact ⟨by grind, h.2⟩
  obtain ⟨k, hk, rfl⟩ := g_ixl (n := 126) hb (by decide)
  exact nar_b ⟨k, by omega⟩
theorem put_step {m : xMem} {s : Nat × (Nat → Int32)} {b : Int32} : (xst (xst (putT m s).1 30 s.1 b) 29 1 (Int32.ofNat (s.1 + 1)), m.2) = putT m (s.1 + 1, fun j => if j = s.1 then b else s.2 j) := by
  refine Prod.ext ?_ rfl
  funext a j
  show xst (xst (putT m s).1 30 s.1 b) 29 1 (Int32.ofNat (s.1 + 1)) a j = if a = 30 then (if j = s.1 then b else s.2 j) else if a = 29 ∧ j = 1 then Int32.ofNat (s.1 + 1) else m.1 a j
  by_cases h1 : a = 29 ∧ j = 1
  · rw [h1.1, h1.2]; rfl
  · rw [xst_n h1]
    by_cases h2 : a = 30
    · subst h2
      rw [if_pos rfl]
      by_cases h3 : j = s.1
      · subst h3
        rw [if_pos rfl]; exact xst_s
      · rw [if_neg h3, xst_n (fun w => h3 w.2)]; rfl
    · rw [if_neg h2, if_neg h1, xst_n (fun w => h2 w.1), putT_n h2 h1]
theorem putM_step {m : xMem} {s : Nat × (Nat → Int32)} {b : Int32} : (xst (xst (putM m s).1 88 s.1 b) 87 2 (Int32.ofNat (s.1 + 1)), m.2) = putM m (s.1 + 1, fun j => if j = s.1 then b else s.2 j) := by
  refine Prod.ext ?_ rfl
  funext a j
  show xst (xst (putM m s).1 88 s.1 b) 87 2 (Int32.ofNat (s.1 + 1)) a j = if a = 88 then (if j = s.1 then b else s.2 j) else if a = 87 ∧ j = 2 then Int32.ofNat (s.1 + 1) else m.1 a j
  by_cases h1 : a = 87 ∧ j = 2
  · rw [h1.1, h1.2]; rfl
  · rw [xst_n h1]
    by_cases h2 : a = 88
    · subst h2
      rw [if_pos rfl]
      by_cases h3 : j = s.1
      · subst h3
        rw [if_pos rfl]; exact xst_s
      · rw [if_neg h3, xst_n (fun w => h3 w.2)]; rfl
    · rw [if_neg h2, if_neg h1, xst_n (fun w => h2 w.1), putM_n h2 h1]
theorem c_append {m : xMem} {s : Nat × (Nat → Int32)} (hs : s.1 ≤ 600) (b : Int32) : F_X7_append b (putT m s) = some (0, putT m (tpush s b)) := by
  have hl : (putT m s).1 ag_tape fTape_length = Int32.ofNat s.1 := rfl
  have d10 : ¬ ((1 : Int32) = 0) := by decide
  have h18 : gsn b → J_X7_append_18 b (putT m s) = some (0, putT m (tpush s b)) := by
    intro hg
    by_cases h6 : s.1 < 600
    · have q : ¬ 600 ≤ Int32.ofNat s.1 := fun q => by have := (o_le (a := 600) (by omega) (by omega)).mp q; omega
      have hi : xin (Int32.ofNat s.1) 600 = true := o_in (by omega) (by omega)
      have hn : (Int32.ofNat s.1).toNatClampNeg = s.1 := o_nat (by omega)
      unfold tpush
      rw [if_pos ⟨hg, h6⟩, ← put_step]
      simp (decide := true) only [Option.bind_some, ↓reduceIte, xst_f, xst_k, xst_s, ne_eq, not_false_eq_true, not_true_eq_false, and_self, and_true, true_and, and_false, false_and, or_true, true_or, or_false, false_or, J_X7_append_23, J_X7_append_18, J_X7_append_22, d10, hl, q, hi, hn, nar_g hg, o_succ]
      rfl
    · have q : 600 ≤ Int32.ofNat s.1 := (o_le (a := 600) (by omega) (by omega)).mpr (by omega)
      unfold tpush
      rw [if_neg (fun w => h6 w.2)]
      simp (decide := true) only [Option.bind_some, ↓reduceIte, xst_f, xst_k, xst_s, ne_eq, not_false_eq_true, not_true_eq_false, and_self, and_true, true_and, and_false, false_and, or_true, true_or, or_false, false_or, J_X7_append_23, J_X7_append_18, J_X7_append_22, d10, hl, q]
  have h22 : ¬ gsn b → J_X7_append_22 b (putT m s) = some (0, putT m (tpush s b)) := by
    intro hg
    unfold tpush
    rw [if_neg (fun w => hg w.1)]
    simp (decide := true) only [Option.bind_some, ↓reduceIte, xst_f, xst_k, xst_s, ne_eq, not_false_eq_true, not_true_eq_false, and_self, and_true, true_and, and_false, false_and, or_true, true_or, or_false, false_or, J_X7_append_23, J_X7_append_18, J_X7_append_22]
  unfold F_X7_append
  by_cases h1 : b = 10
  · rw [if_pos h1]; exact h18 (Or.inl h1)
  · rw [if_neg h1]
    by_cases h2 : b < 32
    · rw [if_pos h2]; exact h22 (by rintro (w | w); exact h1 w; grind)
    · rw [if_neg h2]
      by_cases h3 : 126 < b
      · rw [if_pos h3]; exact h22 (by rintro (w | w); exact h1 w; grind)
      · rw [if_neg h3]; exact h18 (Or.inr ⟨by grind, by grind⟩)
/-- the k-th byte of l, from its low end -/
def byt (l : Int64) (k : Nat) : Int32 := ((xushr l (Int32.ofNat (8 * k))) &&& (255 : Int64)).toInt32
def lay8 (l : Int64) : Nat → Nat × (Nat → Int32) → Nat × (Nat → Int32)
  | 0, s => s
  | k + 1, s => lay8 l k (tpush s (byt l k))
theorem tp_le {s : Nat × (Nat → Int32)} {b : Int32} (h : s.1 ≤ 600) : (tpush s b).1 ≤ 600 := by
  unfold tpush
  split
  · rename_i w
    show s.1 + 1 ≤ 600
    omega
  · exact h
theorem l8_le {l : Int64} : ∀ k s, s.1 ≤ 600 → (lay8 l k s).1 ≤ 600
  | 0, _, h => h
  | k + 1, _, h => l8_le k _ (tp_le h)
theorem dn8 : ∀ k : Fin 8, Int32.ofNat (8 * (k.1 + 1)) + -8 = Int32.ofNat (8 * k.1) := by decide
theorem c_bytes {m : xMem} {l : Int64} : ∀ (k fk : Nat) (s : Nat × (Nat → Int32)), k ≤ 8 → s.1 ≤ 600 → k < fk → L_X7_appendBytes_3 l fk (Int32.ofNat (8 * k) + -8) (putT m s) = some (0, putT m (lay8 l k s))
  | 0, fk + 1, s, _, _, _ => by
    have : (Int32.ofNat (8 * 0) + -8 : Int32) < 0 := by decide
    simp (decide := true) only [Option.bind_some, ↓reduceIte, xst_f, xst_k, xst_s, ne_eq, not_false_eq_true, not_true_eq_false, and_self, and_true, true_and, and_false, false_and, or_true, true_or, or_false, false_or, L_X7_appendBytes_3, this, lay8]
  | k + 1, fk + 1, s, h, hs, hf => by
    have e := dn8 ⟨k, by omega⟩
    dsimp only at e
    have hn : ¬ Int32.ofNat (8 * k) < 0 := fun w => by
      rw [Int32.lt_iff_toInt_lt, o_toInt (by omega)] at w
      have : (0 : Int32).toInt = 0 := rfl
      omega
    have := c_bytes (l := l) (m := m) k fk (tpush s (byt l k)) (by omega) (tp_le hs) (by omega)
    rw [e]
    simp (decide := true) only [Option.bind_some, ↓reduceIte, xst_f, xst_k, xst_s, ne_eq, not_false_eq_true, not_true_eq_false, and_self, and_true, true_and, and_false, false_and, or_true, true_or, or_false, false_or, L_X7_appendBytes_3, hn, show (xushr l (Int32.ofNat (8 * k)) &&& (255 : Int64)).toInt32 = byt l k from rfl, c_append hs, this, lay8]
theorem byt_s : ∀ k : Fin 8, (Int32.ofNat (8 * k.1)).toInt64.toUInt64 &&& Int64.toUInt64 63 = UInt64.ofNat (8 * k.1) ∧ (Int32.ofNat (8 * k.1)).toInt64 &&& 63 = Int64.ofNat (8 * k.1) := by decide
theorem bit255 : ∀ i : Fin 32, (Int32.toBitVec 255).getLsbD i.1 = decide (i.1 < 8) ∧ (Int64.toBitVec 255).getLsbD i.1 = decide (i.1 < 8) := by decide
theorem byt_sh : ∀ k : Fin 8, (Int64.ofNat (8 * k.1)).toBitVec.smod 64 = BitVec.ofNat 64 (8 * k.1) ∧ (UInt64.ofNat (8 * k.1)).toBitVec % 64 = BitVec.ofNat 64 (8 * k.1) := by decide
theorem byt_b (l : Int64) (k : Nat) (hk : k < 8) : ((l >>> Int64.ofNat (8 * k)).toInt32 &&& (255 : Int32)).toBitVec = ((l.toUInt64 >>> UInt64.ofNat (8 * k)).toInt64 &&& (255:Int64)).toInt32.toBitVec := by
  obtain ⟨e1, e2⟩ := byt_sh ⟨k, hk⟩
  dsimp only at e1 e2
  apply BitVec.eq_of_getLsbD_eq
  intro i hi
  obtain ⟨b1, b2⟩ := bit255 ⟨i, hi⟩
  dsimp only at b1 b2
  simp only [Int32.toBitVec_and, Int64.toBitVec_toInt32, Int64.toBitVec_shiftRight, Int64.toBitVec_and, BitVec.getLsbD_and, BitVec.getLsbD_signExtend]
  rw [e1, b1, b2, if_pos (show i < 64 by omega), if_pos (show i < 64 by omega)]
  have h3 : (l.toUInt64 >>> UInt64.ofNat (8 * k)).toInt64.toBitVec = l.toBitVec >>> (8 * k) := by
    show (l.toUInt64 >>> UInt64.ofNat (8 * k)).toBitVec = _
    rw [UInt64.toBitVec_shiftRight, e2]
    show l.toBitVec >>> (BitVec.ofNat 64 (8 * k)).toNat = _
    rw [BitVec.toNat_ofNat, Nat.mod_eq_of_lt (by omega)]
  rw [h3]
  show (decide (i < 32) && (l.toBitVec.sshiftRight (BitVec.ofNat 64 (8 * k)).toNat).getLsbD i && decide (i < 8)) = _
  rw [BitVec.toNat_ofNat, Nat.mod_eq_of_lt (by omega), BitVec.getLsbD_sshiftRight, BitVec.getLsbD_ushiftRight]
  by_cases h8 : i < 8
  · rw [if_pos (show 8 * k + i < 64 by omega)]
    simp only [hi, h8, decide_true, Bool.true_and, Bool.and_true]
    have : decide (64 ≤ i) = false := by simp; omega
    rw [this]; rfl
  · simp [h8]
theorem byt_m {l : Int64} {k : Nat} (hk : k < 8) : ((l >>> ((Int32.ofNat (8 * k)).toInt64 &&& 63)).toInt32) &&& (255 : Int32) = byt l k := by
  unfold byt xushr
  obtain ⟨e1, e2⟩ := byt_s ⟨k, hk⟩
  dsimp only at e1 e2
  rw [e1, e2, ← Int32.toBitVec_inj]
  exact byt_b l k hk
theorem m_lay {m : xMem} {l : Int64} : ∀ (k fk : Nat) (s : Nat × (Nat → Int32)), k ≤ 8 → s.1 ≤ 600 → k < fk → L_X10_lay_3 l fk (Int32.ofNat (8 * k) + -8) (putM m s) = some (0, putM m (lay8 l k s))
  | 0, fk + 1, s, _, _, _ => by
    have : (Int32.ofNat (8 * 0) + -8 : Int32) < 0 := by decide
    simp (decide := true) only [Option.bind_some, ↓reduceIte, xst_f, xst_k, xst_s, ne_eq, not_false_eq_true, not_true_eq_false, and_self, and_true, true_and, and_false, false_and, or_true, true_or, or_false, false_or, L_X10_lay_3, this, lay8]
  | k + 1, fk + 1, s, h, hs, hf => by
    have e := dn8 ⟨k, by omega⟩
    dsimp only at e
    have hn : ¬ Int32.ofNat (8 * k) < 0 := fun w => by
      rw [Int32.lt_iff_toInt_lt, o_toInt (by omega)] at w
      have : (0 : Int32).toInt = 0 := rfl
      omega
    have hrec := m_lay (l := l) (m := m) k fk (tpush s (byt l k)) (by omega) (tp_le hs) (by omega)
    have hl : (putM m s).1 am fGuideBookModel_taped = Int32.ofNat s.1 := rfl
    have h38 : gsn (byt l k) → J_X10_lay_38 (fun y m_1 => L_X10_lay_3 l fk y m_1) l (Int32.ofNat (8 * k)) (byt l k) (putM m s) = some (0, putM m (lay8 l k (tpush s (byt l k)))) := by
      intro hg
      by_cases h6 : s.1 < 600
      · have q : ¬ 600 ≤ Int32.ofNat s.1 := fun q => by have := (o_le (a := 600) (by omega) (by omega)).mp q; omega
        have hi : xin (Int32.ofNat s.1) 600 = true := o_in (by omega) (by omega)
        have hn : (Int32.ofNat s.1).toNatClampNeg = s.1 := o_nat (by omega)
        have e9 : putM m (tpush s (byt l k)) = (xst (xst (putM m s).1 88 s.1 (byt l k)) 87 2 (Int32.ofNat (s.1 + 1)), m.2) := by
          rw [putM_step]
          unfold tpush
          rw [if_pos ⟨hg, h6⟩]
        rw [← hrec, e9]
        simp (decide := true) only [Option.bind_some, ↓reduceIte, xst_f, xst_k, xst_s, ne_eq, not_false_eq_true, not_true_eq_false, and_self, and_true, true_and, and_false, false_and, or_true, true_or, or_false, false_or, J_X10_lay_69, J_X10_lay_38, hl, q, hi, hn, o_succ]
        rfl
      · have q : 600 ≤ Int32.ofNat s.1 := (o_le (a := 600) (by omega) (by omega)).mpr (by omega)
        have e9 : tpush s (byt l k) = s := by unfold tpush; rw [if_neg (fun w => h6 w.2)]
        rw [e9] at hrec
        rw [e9]
        simp (decide := true) only [Option.bind_some, ↓reduceIte, xst_f, xst_k, xst_s, ne_eq, not_false_eq_true, not_true_eq_false, and_self, and_true, true_and, and_false, false_and, or_true, true_or, or_false, false_or, J_X10_lay_69, J_X10_lay_38, hl, q, hrec]
    have h69 : ¬ gsn (byt l k) → J_X10_lay_69 (fun y m_1 => L_X10_lay_3 l fk y m_1) l (Int32.ofNat (8 * k)) (putM m s) = some (0, putM m (lay8 l k (tpush s (byt l k)))) := by
      intro hg
      have e9 : tpush s (byt l k) = s := by unfold tpush; rw [if_neg (fun w => hg w.1)]
      rw [e9] at hrec
      rw [e9]
      exact hrec
    rw [e]
    unfold L_X10_lay_3
    rw [if_neg hn, byt_m (show k < 8 by omega)]
    show _ = some (0, putM m (lay8 l k (tpush s (byt l k))))
    by_cases h1 : byt l k = 10
    · rw [if_pos h1]; exact h38 (Or.inl h1)
    · rw [if_neg h1]
      by_cases h2 : byt l k < 32
      · rw [if_pos h2]; exact h69 (by rintro (w | w); exact h1 w; grind)
      · rw [if_neg h2]
        by_cases h3 : 126 < byt l k
        · rw [if_pos h3]; exact h69 (by rintro (w | w); exact h1 w; grind)
        · rw [if_neg h3]; exact h38 (Or.inr ⟨by grind, by grind⟩)
/-- two tapes alike -/
def tpR (s s' : Nat × (Nat → Int32)) : Prop := s.1 ≤ 600 ∧ s'.1 = s.1 ∧ ∀ k, k < s.1 → s.2 k = s'.2 k ∧ (s.2 k = 10 ∨ xrg (s.2 k) 32 126)
theorem tpR_p {s s' : Nat × (Nat → Int32)} (h : tpR s s') (b : Int32) : tpR (tpush s b) (tpush s' b) := by
  obtain ⟨h1, h2, h3⟩ := h
  unfold tpush
  rw [h2]
  by_cases w : gsn b ∧ s.1 < 600
  · rw [if_pos w, if_pos w]
    refine ⟨by show s.1 + 1 ≤ 600; omega, rfl, fun k hk => ?_⟩
    have hk' : k < s.1 + 1 := hk
    show (if k = s.1 then b else s.2 k) = (if k = s.1 then b else s'.2 k) ∧ ((if k = s.1 then b else s.2 k) = 10 ∨ xrg (if k = s.1 then b else s.2 k) 32 126)
    by_cases e : k = s.1
    · rw [if_pos e, if_pos e]
      exact ⟨rfl, w.1⟩
    · rw [if_neg e, if_neg e]
      exact h3 k (by omega)
  · rw [if_neg w, if_neg w]
    exact ⟨h1, h2, h3⟩
theorem tpR_l {l : Int64} : ∀ k s s', tpR s s' → tpR (lay8 l k s) (lay8 l k s')
  | 0, _, _, h => h
  | k + 1, _, _, h => tpR_l k _ _ (tpR_p h _)
theorem pr_feed {m : xMem} (ht : t ≤ 600) (H : xRel t nf nw nl ne tp n m.1) (x y z : Int64) : xPair (F_X9_feed x y z) (F_X10_feed x y z) t m := by
  obtain ⟨h1, h2, h3, h4, h5, h6, h7, h8, h9, h10⟩ := id H
  have hb := h1.1
  obtain ⟨-, ⟨a1, a2⟩, ⟨b1, b2⟩, ⟨c1, c2⟩, ⟨d1, d2⟩, e1, e2⟩ := id h1
  have hm : m = putT m (tp, m.1 30) := by
    refine Prod.ext ?_ rfl
    funext a j
    show _ = if a = 30 then m.1 30 j else if a = 29 ∧ j = 1 then Int32.ofNat tp else m.1 a j
    by_cases h1 : a = 30
    · rw [if_pos h1, h1]
    · rw [if_neg h1]
      by_cases h2 : a = 29 ∧ j = 1
      · rw [if_pos h2, h2.1, h2.2]; exact e1
      · rw [if_neg h2]
  obtain ⟨s1, hs1⟩ : ∃ s1, s1 = lay8 z 8 (lay8 y 8 (lay8 x 8 (tp, m.1 30))) := ⟨_, rfl⟩
  obtain ⟨s2, hs2⟩ : ∃ s2, s2 = lay8 z 8 (lay8 y 8 (lay8 x 8 (tp, m.1 88))) := ⟨_, rfl⟩
  have R : tpR s1 s2 := by
    rw [hs1, hs2]
    exact tpR_l 8 _ _ (tpR_l 8 _ _ (tpR_l 8 _ _ ⟨hb.2.2.2.2, rfl, h9⟩))
  obtain ⟨mt, hmt⟩ : ∃ mt : xMem, mt = (xst (putT m s1).1 am fGuideBookModel_thrown 0, (putT m s1).2) := ⟨_, rfl⟩
  have frt : ∀ a j, a ≠ 30 → ¬ (a = 29 ∧ j = 1) → ¬ (a = 87 ∧ j = 0) → mt.1 a j = m.1 a j := by
    intro a j w1 w2 w3
    rw [hmt]
    exact (xst_n w3).trans (putT_n w1 w2)
  have hm2 : mt = putM mt (tp, m.1 88) := by
    refine Prod.ext ?_ rfl
    funext a j
    show _ = if a = 88 then m.1 88 j else if a = 87 ∧ j = 2 then Int32.ofNat tp else mt.1 a j
    by_cases h1 : a = 88
    · rw [if_pos h1, h1]
      exact frt 88 j (by omega) (by omega) (by omega)
    · rw [if_neg h1]
      by_cases h2 : a = 87 ∧ j = 2
      · rw [if_pos h2, h2.1, h2.2, frt 87 2 (by omega) (by omega) (by omega)]
        exact e2
      · rw [if_neg h2]
  have d56 : (56 : Int32) = Int32.ofNat (8 * 8) + -8 := by decide
  have cl : ∀ s l, s.1 ≤ 600 → F_X7_appendBytes l (putT m s) = some (0, putT m (lay8 l 8 s)) := fun s l hs => by
    unfold F_X7_appendBytes
    rw [d56]
    exact c_bytes 8 xfuel s (by omega) hs (by decide)
  have ml : ∀ s l, s.1 ≤ 600 → F_X10_lay l (putM mt s) = some (0, putM mt (lay8 l 8 s)) := fun s l hs => by
    unfold F_X10_lay
    rw [d56]
    exact m_lay 8 xfuel s (by omega) hs (by decide)
  have t6 : tp ≤ 600 := hb.2.2.2.2
  have fr : ∀ a j, a ≠ 30 → a ≠ 88 → ¬ (a = 29 ∧ j = 1) → ¬ (a = 87 ∧ (j = 0 ∨ j = 2)) → (putM mt s2).1 a j = m.1 a j := fun a j w1 w2 w3 w4 => (putM_n w2 (by omega)).trans (frt a j w1 w3 (by omega))
  have frr : ∀ a, a ≠ 30 → a ≠ 88 → a ≠ 29 → a ≠ 87 → (putM mt s2).1 a = m.1 a := fun a w1 w2 w3 w4 => funext fun j => fr a j w1 w2 (by omega) (by omega)
  refine ⟨Int32.ofNat s1.1, putT m s1, putM mt s2, ?_, ?_, ⟨nf, nw, nl, ne, s1.1, n, xRel.up ht ⟨?_, ?_, ?_, ?_, ?_, ?_, ?_, ?_, ?_, ?_⟩⟩, ⟨fun b j q => ?_, ?_⟩⟩
  · unfold F_X9_feed
    rw [hm, cl _ x (show tp ≤ 600 from t6), Option.bind_some, cl _ y (l8_le 8 _ t6), Option.bind_some, cl _ z (l8_le 8 _ (l8_le 8 _ t6)), Option.bind_some, ← hm, ← hs1]
    rfl
  · unfold F_X10_feed
    rw [← hmt, hm2, ml _ x (show tp ≤ 600 from t6), Option.bind_some, ml _ y (l8_le 8 _ t6), Option.bind_some, ml _ z (l8_le 8 _ (l8_le 8 _ t6)), Option.bind_some, ← hm2, ← hs2, ← R.2.1]
    rfl
  · unfold I_num
    have q1 := fr am fGuideBookModel_facts (by decide) (by decide) (by decide) (by decide)
    have q2 := fr am fGuideBookModel_now (by decide) (by decide) (by decide) (by decide)
    have q3 := fr am fGuideBookModel_letters (by decide) (by decide) (by decide) (by decide)
    have q4 := fr am fGuideBookModel_editions (by decide) (by decide) (by decide) (by decide)
    have q5 : (putM mt s2).1 ag_tape fTape_length = Int32.ofNat s1.1 := by
      rw [putM_n (by decide) (by decide), hmt]
      show xst (putT m s1).1 87 0 0 29 1 = _
      rw [xst_n (by decide)]
      exact putT_l
    have q6 : (putM mt s2).1 am fGuideBookModel_taped = Int32.ofNat s1.1 := by
      rw [← R.2.1]; rfl
    rw [q1, q2, q3, q4, q5, q6, frr ag_facts (by decide) (by decide) (by decide) (by decide), frr ag_letters (by decide) (by decide) (by decide) (by decide), frr ag_editions (by decide) (by decide) (by decide) (by decide)]
    exact ⟨⟨hb.1, hb.2.1, hb.2.2.1, hb.2.2.2.1, R.1⟩, ⟨a1, a2⟩, ⟨b1, b2⟩, ⟨c1, c2⟩, ⟨d1, d2⟩, rfl, rfl⟩
  · unfold I_fact
    rw [frr ag_facts_kind (by decide) (by decide) (by decide) (by decide), frr ag_facts_place (by decide) (by decide) (by decide) (by decide), frr ag_facts_value (by decide) (by decide) (by decide) (by decide), frr ag_facts_year (by decide) (by decide) (by decide) (by decide), frr ag_facts_length (by decide) (by decide) (by decide) (by decide), frr ag_facts_worth (by decide) (by decide) (by decide) (by decide), frr am_kindOf (by decide) (by decide) (by decide) (by decide), frr am_placeOf (by decide) (by decide) (by decide) (by decide), frr am_worthNow (by decide) (by decide) (by decide) (by decide), frr am_checkedOn (by decide) (by decide) (by decide) (by decide), frr am_lengths (by decide) (by decide) (by decide) (by decide), frr am_worths (by decide) (by decide) (by decide) (by decide)]
    exact h2
  · unfold I_kind
    rw [frr ag_facts_kindYears (by decide) (by decide) (by decide) (by decide), frr ag_facts_kindChanges (by decide) (by decide) (by decide) (by decide), frr am_kindYears (by decide) (by decide) (by decide) (by decide), frr am_kindChanges (by decide) (by decide) (by decide) (by decide)]
    exact h3
  · unfold I_days
    rw [frr ag_daysOf (by decide) (by decide) (by decide) (by decide), frr am_takes (by decide) (by decide) (by decide) (by decide)]
    exact h4
  · unfold I_let
    rw [frr ag_letters_reader (by decide) (by decide) (by decide) (by decide), frr ag_letters_about (by decide) (by decide) (by decide) (by decide), frr ag_letters_said (by decide) (by decide) (by decide) (by decide), frr ag_letters_state (by decide) (by decide) (by decide) (by decide), frr am_readers (by decide) (by decide) (by decide) (by decide), frr am_about (by decide) (by decide) (by decide) (by decide), frr am_says (by decide) (by decide) (by decide) (by decide), frr am_proofs (by decide) (by decide) (by decide) (by decide)]
    exact h5
  · unfold I_tal
    rw [frr ag_letters_reader (by decide) (by decide) (by decide) (by decide), frr ag_letters_state (by decide) (by decide) (by decide) (by decide), frr ag_letters_rightOf (by decide) (by decide) (by decide) (by decide), frr ag_letters_wrongOf (by decide) (by decide) (by decide) (by decide), frr ag_letters (by decide) (by decide) (by decide) (by decide)]
    exact h6
  · unfold I_mark
    rw [frr am_marks (by decide) (by decide) (by decide) (by decide)]
    exact P_mark.mv (fun p hp => frr _ (by omega) (by omega) (by omega) (by omega)) h7
  · unfold I_paid
    rw [frr ag_praised (by decide) (by decide) (by decide) (by decide), frr am_isPaid (by decide) (by decide) (by decide) (by decide)]
    exact h8
  · intro k hk
    have q1 : (putM mt s2).1 ag_tape_signs k = s1.2 k := by
      rw [putM_n (by decide) (fun w => absurd w.1 (by decide)), hmt]
      show xst (putT m s1).1 87 0 0 30 k = _
      rw [xst_n (fun w => absurd w.1 (by decide))]
      rfl
    have q2 : (putM mt s2).1 am_tape k = s2.2 k := rfl
    rw [q1, q2]
    exact R.2.2 k hk
  · unfold I_ed
    rw [frr ag_editions_facts (by decide) (by decide) (by decide) (by decide), frr am_asPrinted (by decide) (by decide) (by decide) (by decide), frr am_proved (by decide) (by decide) (by decide) (by decide), frr am_starred (by decide) (by decide) (by decide) (by decide)]
    exact P_ed.mv (fun p hp => ⟨frr _ (by omega) (by omega) (by omega) (by omega), frr _ (by omega) (by omega) (by omega) (by omega), frr _ (by omega) (by omega) (by omega) (by omega)⟩) hb.2.2.2.1 h10
  · have w : (41 ≤ b ∧ b ≤ 44) ∨ (93 ≤ b ∧ b ≤ 97) ∨ (b = 87 ∧ j = 15) := by
      unfold xtx at q
      simp only [Bool.or_eq_true, Bool.and_eq_true, decide_eq_true_eq, beq_iff_eq] at q
      omega
    exact fr b j (by omega) (by omega) (by omega) (by omega)
  · show mt.2 92 = m.2 92
    rw [hmt]
    rfl
end FE
