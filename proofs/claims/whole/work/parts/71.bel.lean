section BE
variable {t nf nw nl ne tp : Nat} {n : Nat → Nat} {m : xMem}
/-- some l below a has P -/
def hx (P : Nat → Bool) : Nat → Bool
  | 0 => false
  | a + 1 => hx P a || P a
/-- the sum of W over those r below k that have B -/
def hs (B : Nat → Bool) (W : Nat → Int32) : Nat → Int32
  | 0 => 0
  | k + 1 => hs B W k + (if B k then W k else 0)
theorem hs_cg {B B' : Nat → Bool} {W : Nat → Int32} : ∀ k, (∀ r, r < k → B' r = B r) → hs B' W k = hs B W k
  | 0, _ => rfl
  | k + 1, h => by
    unfold hs
    rw [hs_cg k (fun r hr => h r (by omega)), h k (by omega)]
theorem hs_up {B B' : Nat → Bool} {W : Nat → Int32} {i : Nat} (h0 : B i = false) (h1 : B' i = true) : ∀ k, (∀ r, r < k → r ≠ i → B' r = B r) → i < k → hs B' W k = hs B W k + W i
  | 0, _, q => by omega
  | k + 1, h, q => by
    unfold hs
    by_cases e : k = i
    · subst e
      rw [hs_cg k (fun r hr => h r (by omega) (by omega)), h0, h1]
      simp
    · rw [hs_up h0 h1 k (fun r hr he => h r (by omega) he) (by omega), h k (by omega) e]
      ac_rfl
theorem hs_rg {B : Nat → Bool} {W : Nat → Int32} (hw : ∀ r, r < 20 → 0 ≤ (W r).toInt ∧ (W r).toInt ≤ 1000) : ∀ k, k ≤ 20 → 0 ≤ (hs B W k).toInt ∧ (hs B W k).toInt ≤ 1000 * k
  | 0, _ => by
    have : (hs B W 0).toInt = 0 := rfl
    omega
  | k + 1, q => by
    have ih := hs_rg (B := B) hw k (by omega)
    have hk := hw k (by omega)
    unfold hs
    split
    · rw [i_add (by omega) (by omega)]; omega
    · rw [Int32.add_zero]; omega
theorem bit_tp : ∀ r : Fin 20, ((1 : Int32) <<< (Int32.ofNat r.1 &&& 31)).toBitVec = BitVec.twoPow 32 r.1 := by decide
theorem bit_and {x : Int32} {r : Nat} (hr : r < 20) : (x &&& (1 : Int32) <<< (Int32.ofNat r &&& 31) = 0) ↔ x.toBitVec.getLsbD r = false := by
  rw [← Int32.toBitVec_inj, Int32.toBitVec_and, bit_tp ⟨r, hr⟩, BitVec.and_twoPow]
  constructor
  · intro h
    cases hx : x.toBitVec.getLsbD r with
    | false => rfl
    | true =>
      rw [hx, if_pos rfl] at h
      have := congrArg (fun b => b.getLsbD r) h
      simp only [BitVec.getLsbD_twoPow] at this
      have z : (0 : Int32).toBitVec.getLsbD r = false := by
        show (0#32).getLsbD r = false
        exact BitVec.getLsbD_zero
      rw [z] at this
      simp at this
      omega
  · intro h
    rw [h]
    rfl
theorem bit_or {x : Int32} {r j : Nat} (hr : r < 20) (hj : j < 20) : (x ||| (1 : Int32) <<< (Int32.ofNat r &&& 31)).toBitVec.getLsbD j = (x.toBitVec.getLsbD j || decide (r = j)) := by
  rw [Int32.toBitVec_or, BitVec.getLsbD_or, bit_tp ⟨r, hr⟩, BitVec.getLsbD_twoPow]
  have : (decide (r < 32) && decide (r = j)) = decide (r = j) := by
    rw [decide_eq_true (show r < 32 by omega), Bool.true_and]
  exact congrArg _ this
/-- reader r says v of f, in letter l -/
def sy (I : xI) (f : Nat) (v : Int32) (r l : Nat) : Bool := decide (I ag_letters_reader l = Int32.ofNat r) && (opn I f l && decide (I ag_letters_said l = v))
/-- the weight for v -/
def wfv (I : xI) (nl f : Nat) (v : Int32) : Int32 := hs (fun r => hx (sy I f v r) nl) (wtv I) 20
theorem c_wf (H : xRel t nf nw nl ne tp n m.1) (f : Nat) (v : Int32) : ∀ (k a fk : Nat) (x : Int32), a + k = nl → k < fk → (∀ r, r < 20 → x.toBitVec.getLsbD r = hx (sy m.1 f v r) a) → L_X3_weightFor_8 (Int32.ofNat f) v fk x (hs (fun r => hx (sy m.1 f v r) a) (wtv m.1) 20) (Int32.ofNat a) m = some (wfv m.1 nl f v, m)
  | 0, a, fk + 1, x, h, _, hb => by
    obtain ⟨h1, h2, h3, h4, h5, h6, h7, h8, h9, h10⟩ := id H
    have hb := h1.1
    obtain ⟨-, ⟨a1, a2⟩, ⟨b1, b2⟩, ⟨c1, c2⟩, ⟨d1, d2⟩, e1, e2⟩ := id h1
    have q : Int32.ofNat nl ≤ Int32.ofNat a := (o_le (by omega) (by omega)).mpr (by omega)
    have ha : a = nl := by omega
    simp (decide := true) only [Option.bind_some, ↓reduceIte, xst_f, xst_k, xst_s, ne_eq, not_false_eq_true, not_true_eq_false, and_self, and_true, true_and, and_false, false_and, or_true, true_or, or_false, false_or, L_X3_weightFor_8, c1, q, wfv, ha, Int32.le_refl]
  | k + 1, a, fk + 1, x, h, hf, hB => by
    have hrec := fun x hx => c_wf H f v k (a + 1) fk x (by omega) (by omega) hx
    obtain ⟨h1, h2, h3, h4, h5, h6, h7, h8, h9, h10⟩ := id H
    have hb := h1.1
    obtain ⟨-, ⟨a1, a2⟩, ⟨b1, b2⟩, ⟨c1, c2⟩, ⟨d1, d2⟩, e1, e2⟩ := id h1
    have q : ¬ Int32.ofNat nl ≤ Int32.ofNat a := fun q => by have := (o_le (by omega) (by omega)).mp q; omega
    have hi : xin (Int32.ofNat a) 100 = true := o_in (by omega) (by omega)
    have hn : (Int32.ofNat a).toNatClampNeg = a := o_nat (by omega)
    have ha100 : a < 100 := by omega
    have d10 : ¬ ((1 : Int32) = 0) := by decide
    obtain ⟨⟨-, r1⟩, -⟩ := h5.1 a (by omega)
    obtain ⟨i, hi19, hie⟩ := g_rx (n := 19) r1 (by omega)
    have hi20 : i < 20 := by omega
    have keep : (opn m.1 f a && decide (m.1 ag_letters_said a = v)) = false → L_X3_weightFor_8 (Int32.ofNat f) v fk x (hs (fun r => hx (sy m.1 f v r) a) (wtv m.1) 20) (Int32.ofNat (a + 1)) m = some (wfv m.1 nl f v, m) := by
      intro hno
      have e : ∀ r, hx (sy m.1 f v r) (a + 1) = hx (sy m.1 f v r) a := by
        intro r
        show (hx _ a || sy m.1 f v r a) = _
        unfold sy
        rw [hno, Bool.and_false, Bool.or_false]
      have := hrec x (fun r hr => by rw [hB r hr, e r])
      rw [hs_cg 20 (fun r _ => e r)] at this
      exact this
    by_cases ho : opn m.1 f a = true
    · by_cases hv : m.1 ag_letters_said a = v
      · have e : ∀ r, r < 20 → hx (sy m.1 f v r) (a + 1) = (hx (sy m.1 f v r) a || decide (i = r)) := by
          intro r hr
          show (hx _ a || sy m.1 f v r a) = _
          unfold sy
          rw [ho, hv, hie, decide_eq_true rfl, Bool.and_true, Bool.and_true]
          exact congrArg _ (decide_eq_decide.mpr (o_eq (by omega) (by omega)))
        by_cases hm : hx (sy m.1 f v i) a = true
        · have b : ¬ x &&& (1 : Int32) <<< (Int32.ofNat i &&& 31) = 0 := by rw [bit_and hi20, hB i hi20, hm]; decide
          have e' : ∀ r, r < 20 → hx (sy m.1 f v r) (a + 1) = hx (sy m.1 f v r) a := by
            intro r hr
            rw [e r hr]
            by_cases w : i = r
            · rw [← w, hm]; rfl
            · rw [decide_eq_false w, Bool.or_false]
          have := hrec x (fun r hr => by rw [hB r hr, e' r hr])
          rw [hs_cg 20 (fun r hr => e' r hr)] at this
          simp (decide := true) only [Option.bind_some, ↓reduceIte, xst_f, xst_k, xst_s, ne_eq, not_false_eq_true, not_true_eq_false, and_self, and_true, true_and, and_false, false_and, or_true, true_or, or_false, false_or, L_X3_weightFor_8, c1, q, hi, hn, c_open ha100, ho, d10, hv, hie, J_X3_weightFor_89, J_X3_weightFor_54, J_X3_weightFor_53, b, o_succ, this]
        · have hm' : hx (sy m.1 f v i) a = false := by simpa using hm
          have b : x &&& (1 : Int32) <<< (Int32.ofNat i &&& 31) = 0 := by rw [bit_and hi20, hB i hi20, hm']
          have := hrec (x ||| (1 : Int32) <<< (Int32.ofNat i &&& 31)) (fun r hr => by rw [bit_or hi20 hr, hB r hr, e r hr])
          rw [hs_up (i := i) (B := fun r => hx (sy m.1 f v r) a) hm' (by show hx (sy m.1 f v i) (a + 1) = true; rw [e i hi20]; simp) 20 (fun r hr he => by show hx (sy m.1 f v r) (a + 1) = hx (sy m.1 f v r) a; rw [e r hr, decide_eq_false (fun w => he w.symm), Bool.or_false]) hi20] at this
          simp (decide := true) only [Option.bind_some, ↓reduceIte, xst_f, xst_k, xst_s, ne_eq, not_false_eq_true, not_true_eq_false, and_self, and_true, true_and, and_false, false_and, or_true, true_or, or_false, false_or, L_X3_weightFor_8, c1, q, hi, hn, c_open ha100, ho, d10, hv, hie, J_X3_weightFor_89, J_X3_weightFor_54, J_X3_weightFor_53, b, c_weightOf H hi20, o_succ, this]
      · have := keep (by rw [decide_eq_false hv, Bool.and_false])
        simp (decide := true) only [Option.bind_some, ↓reduceIte, xst_f, xst_k, xst_s, ne_eq, not_false_eq_true, not_true_eq_false, and_self, and_true, true_and, and_false, false_and, or_true, true_or, or_false, false_or, L_X3_weightFor_8, c1, q, hi, hn, c_open ha100, ho, d10, hv, J_X3_weightFor_89, J_X3_weightFor_54, J_X3_weightFor_53, o_succ, this]
    · have ho' : opn m.1 f a = false := by simpa using ho
      have := keep (by rw [ho', Bool.false_and])
      simp (decide := true) only [Option.bind_some, ↓reduceIte, xst_f, xst_k, xst_s, ne_eq, not_false_eq_true, not_true_eq_false, and_self, and_true, true_and, and_false, false_and, or_true, true_or, or_false, false_or, L_X3_weightFor_8, c1, q, hi, hn, c_open ha100, ho', Bool.false_eq_true, J_X3_weightFor_89, J_X3_weightFor_54, J_X3_weightFor_53, o_succ, this]
theorem hs_0 {W : Nat → Int32} : ∀ k, hs (fun _ => false) W k = 0
  | 0 => rfl
  | k + 1 => by
    unfold hs
    rw [hs_0 k]
    rfl
theorem c_weightFor (H : xRel t nf nw nl ne tp n m.1) (f : Nat) (v : Int32) : F_X3_weightFor (Int32.ofNat f) v m = some (wfv m.1 nl f v, m) := by
  have := c_wf H f v nl 0 xfuel 0 (by omega) (by have := H.1.1; rw [xfuel_eq]; omega) (fun r _ => by
    show (0#32).getLsbD r = false
    exact BitVec.getLsbD_zero)
  have z : hs (fun r => hx (sy m.1 f v r) 0) (wtv m.1) 20 = 0 := hs_0 20
  rw [z] at this
  exact this
theorem wf_rg (H : xRel t nf nw nl ne tp n m.1) (f : Nat) (v : Int32) : 0 ≤ (wfv m.1 nl f v).toInt ∧ (wfv m.1 nl f v).toInt ≤ 20000 := hs_rg (fun r hr => wt_rg H hr) 20 (by omega)
/-- the reference: has reader r said it -/
theorem m_hd (H : xRel t nf nw nl ne tp n m.1) (f : Nat) (v s : Int32) {r : Nat} (c : Int32 → xMem → Option (Int32 × xMem)) : ∀ (k a fk : Nat), a + k = nl → k < fk → L_X10_heard_40 (Int32.ofNat f) v s (Int32.ofNat r) c fk (if hx (sy m.1 f v r) a then 1 else 0) (Int32.ofNat a) m = c (if hx (sy m.1 f v r) nl then 1 else 0) m
  | 0, a, fk + 1, h, _ => by
    obtain ⟨h1, h2, h3, h4, h5, h6, h7, h8, h9, h10⟩ := id H
    have hb := h1.1
    obtain ⟨-, ⟨a1, a2⟩, ⟨b1, b2⟩, ⟨c1, c2⟩, ⟨d1, d2⟩, e1, e2⟩ := id h1
    have q : Int32.ofNat nl ≤ Int32.ofNat a := (o_le (by omega) (by omega)).mpr (by omega)
    have ha : a = nl := by omega
    simp (decide := true) only [Option.bind_some, ↓reduceIte, xst_f, xst_k, xst_s, ne_eq, not_false_eq_true, not_true_eq_false, and_self, and_true, true_and, and_false, false_and, or_true, true_or, or_false, false_or, L_X10_heard_40, c2, q, ha, Int32.le_refl]
  | k + 1, a, fk + 1, h, hf => by
    have hrec := m_hd H f v s (r := r) c k (a + 1) fk (by omega) (by omega)
    obtain ⟨h1, h2, h3, h4, h5, h6, h7, h8, h9, h10⟩ := id H
    have hb := h1.1
    obtain ⟨-, ⟨a1, a2⟩, ⟨b1, b2⟩, ⟨c1, c2⟩, ⟨d1, d2⟩, e1, e2⟩ := id h1
    have q : ¬ Int32.ofNat nl ≤ Int32.ofNat a := fun q => by have := (o_le (by omega) (by omega)).mp q; omega
    have hi : xin (Int32.ofNat a) 100 = true := o_in (by omega) (by omega)
    have hn : (Int32.ofNat a).toNatClampNeg = a := o_nat (by omega)
    have hal : a < nl := by omega
    have d10 : ¬ ((1 : Int32) = 0) := by decide
    obtain ⟨⟨r1, -⟩, -, ⟨s1, -⟩⟩ := h5.1 a hal
    have e : hx (sy m.1 f v r) (a + 1) = (hx (sy m.1 f v r) a || sy m.1 f v r a) := rfl
    rw [e] at hrec
    cases hm : hx (sy m.1 f v r) a with
    | true =>
      rw [hm, Bool.true_or] at hrec
      simp (decide := true) only [Option.bind_some, ↓reduceIte, xst_f, xst_k, xst_s, ne_eq, not_false_eq_true, not_true_eq_false, and_self, and_true, true_and, and_false, false_and, or_true, true_or, or_false, false_or, ] at hrec
      simp (decide := true) only [Option.bind_some, ↓reduceIte, xst_f, xst_k, xst_s, ne_eq, not_false_eq_true, not_true_eq_false, and_self, and_true, true_and, and_false, false_and, or_true, true_or, or_false, false_or, L_X10_heard_40, c2, q, d10, J_X10_heard_92, J_X10_heard_87, J_X10_heard_91, J_X10_heard_116, J_X10_heard_23, o_succ, hrec]
    | false =>
      rw [hm, Bool.false_or] at hrec
      have e9 : sy m.1 f v r a = (decide (m.1 ag_letters_reader a = Int32.ofNat r) && (opn m.1 f a && decide (m.1 ag_letters_said a = v))) := rfl
      rw [e9] at hrec
      by_cases g : m.1 ag_letters_reader a = Int32.ofNat r
      · cases ho : opn m.1 f a with
        | true =>
          by_cases hv : m.1 ag_letters_said a = v
          · rw [ho, decide_eq_true g, decide_eq_true hv] at hrec
            simp (decide := true) only [Option.bind_some, ↓reduceIte, xst_f, xst_k, xst_s, ne_eq, not_false_eq_true, not_true_eq_false, and_self, and_true, true_and, and_false, false_and, or_true, true_or, or_false, false_or, Bool.and_self, Bool.and_true] at hrec
            simp (decide := true) only [Option.bind_some, ↓reduceIte, xst_f, xst_k, xst_s, ne_eq, not_false_eq_true, not_true_eq_false, and_self, and_true, true_and, and_false, false_and, or_true, true_or, or_false, false_or, L_X10_heard_40, c2, q, hi, hn, Bool.false_eq_true, ← r1, g, m_open H hal, ho, d10, ← s1, hv, J_X10_heard_92, J_X10_heard_87, J_X10_heard_91, J_X10_heard_116, J_X10_heard_23, o_succ, hrec]
          · rw [ho, decide_eq_true g, decide_eq_false hv] at hrec
            simp (decide := true) only [Option.bind_some, ↓reduceIte, xst_f, xst_k, xst_s, ne_eq, not_false_eq_true, not_true_eq_false, and_self, and_true, true_and, and_false, false_and, or_true, true_or, or_false, false_or, Bool.and_false, Bool.false_eq_true] at hrec
            simp (decide := true) only [Option.bind_some, ↓reduceIte, xst_f, xst_k, xst_s, ne_eq, not_false_eq_true, not_true_eq_false, and_self, and_true, true_and, and_false, false_and, or_true, true_or, or_false, false_or, L_X10_heard_40, c2, q, hi, hn, Bool.false_eq_true, ← r1, g, m_open H hal, ho, d10, ← s1, hv, J_X10_heard_92, J_X10_heard_87, J_X10_heard_91, J_X10_heard_116, J_X10_heard_23, o_succ, hrec]
        | false =>
          rw [ho, Bool.false_and, Bool.and_false] at hrec
          simp (decide := true) only [Option.bind_some, ↓reduceIte, xst_f, xst_k, xst_s, ne_eq, not_false_eq_true, not_true_eq_false, and_self, and_true, true_and, and_false, false_and, or_true, true_or, or_false, false_or, Bool.false_eq_true] at hrec
          simp (decide := true) only [Option.bind_some, ↓reduceIte, xst_f, xst_k, xst_s, ne_eq, not_false_eq_true, not_true_eq_false, and_self, and_true, true_and, and_false, false_and, or_true, true_or, or_false, false_or, L_X10_heard_40, c2, q, hi, hn, Bool.false_eq_true, ← r1, g, m_open H hal, ho, J_X10_heard_92, J_X10_heard_87, J_X10_heard_91, J_X10_heard_116, J_X10_heard_23, o_succ, hrec]
      · rw [decide_eq_false g, Bool.false_and] at hrec
        simp (decide := true) only [Option.bind_some, ↓reduceIte, xst_f, xst_k, xst_s, ne_eq, not_false_eq_true, not_true_eq_false, and_self, and_true, true_and, and_false, false_and, or_true, true_or, or_false, false_or, Bool.false_eq_true] at hrec
        simp (decide := true) only [Option.bind_some, ↓reduceIte, xst_f, xst_k, xst_s, ne_eq, not_false_eq_true, not_true_eq_false, and_self, and_true, true_and, and_false, false_and, or_true, true_or, or_false, false_or, L_X10_heard_40, c2, q, hi, hn, Bool.false_eq_true, ← r1, g, J_X10_heard_92, J_X10_heard_87, J_X10_heard_91, J_X10_heard_116, J_X10_heard_23, o_succ, hrec]
theorem m_hr (H : xRel t nf nw nl ne tp n m.1) (f : Nat) (v s : Int32) : ∀ (k a fk : Nat), a + k = 20 → k < fk → L_X10_heard_27 (Int32.ofNat f) v fk (s + hs (fun r => hx (sy m.1 f v r) nl) (wtv m.1) a) (Int32.ofNat a) m = some (s + wfv m.1 nl f v, m)
  | 0, a, fk + 1, h, _ => by
    have q : 20 ≤ Int32.ofNat a := (o_le (a := 20) (by omega) (by omega)).mpr (by omega)
    have ha : a = 20 := by omega
    simp (decide := true) only [Option.bind_some, ↓reduceIte, xst_f, xst_k, xst_s, ne_eq, not_false_eq_true, not_true_eq_false, and_self, and_true, true_and, and_false, false_and, or_true, true_or, or_false, false_or, L_X10_heard_27, q, ha, wfv]
  | k + 1, a, fk + 1, h, hf => by
    have hrec := m_hr H f v s k (a + 1) fk (by omega) (by omega)
    have q : ¬ 20 ≤ Int32.ofNat a := fun q => by have := (o_le (a := 20) (by omega) (by omega)).mp q; omega
    have d10 : ¬ ((1 : Int32) = 0) := by decide
    have hl := fun c => m_hd H f v (s + hs (fun r => hx (sy m.1 f v r) nl) (wtv m.1) a) (r := a) c nl 0 xfuel (by omega) (by have := H.1.1; rw [xfuel_eq]; omega)
    have z : (if hx (sy m.1 f v a) 0 then 1 else 0 : Int32) = 0 := rfl
    rw [z, ← o_zero] at hl
    have e : hs (fun r => hx (sy m.1 f v r) nl) (wtv m.1) (a + 1) = hs (fun r => hx (sy m.1 f v r) nl) (wtv m.1) a + (if hx (sy m.1 f v a) nl then wtv m.1 a else 0) := rfl
    rw [e, ← Int32.add_assoc] at hrec
    cases hm : hx (sy m.1 f v a) nl with
    | true =>
      rw [hm] at hrec
      simp (decide := true) only [Option.bind_some, ↓reduceIte, xst_f, xst_k, xst_s, ne_eq, not_false_eq_true, not_true_eq_false, and_self, and_true, true_and, and_false, false_and, or_true, true_or, or_false, false_or, ] at hrec
      simp (decide := true) only [Option.bind_some, ↓reduceIte, xst_f, xst_k, xst_s, ne_eq, not_false_eq_true, not_true_eq_false, and_self, and_true, true_and, and_false, false_and, or_true, true_or, or_false, false_or, L_X10_heard_27, q, hl, hm, d10, m_weightOf H (show a < 20 by omega), J_X10_heard_92, J_X10_heard_87, J_X10_heard_91, J_X10_heard_116, J_X10_heard_23, o_succ, hrec]
    | false =>
      rw [hm] at hrec
      simp (decide := true) only [Option.bind_some, ↓reduceIte, xst_f, xst_k, xst_s, ne_eq, not_false_eq_true, not_true_eq_false, and_self, and_true, true_and, and_false, false_and, or_true, true_or, or_false, false_or, Bool.false_eq_true] at hrec
      simp (decide := true) only [Option.bind_some, ↓reduceIte, xst_f, xst_k, xst_s, ne_eq, not_false_eq_true, not_true_eq_false, and_self, and_true, true_and, and_false, false_and, or_true, true_or, or_false, false_or, L_X10_heard_27, q, hl, hm, Bool.false_eq_true, J_X10_heard_92, J_X10_heard_87, J_X10_heard_91, J_X10_heard_116, J_X10_heard_23, o_succ, hrec]
/-- what the reference hears for v -/
def hdv (I : xI) (nl f : Nat) (ch v : Int32) : Int32 := (if v = I ag_facts_value f then ch / 1000 else 0) + wfv I nl f v
theorem m_heard (ht : t ≤ 600) (H : xRel t nf nw nl ne tp n m.1) {f : Nat} (hf : f < nf) (v : Int32) : F_X10_heard (Int32.ofNat f) v m = some (hdv m.1 nl f (chf m.1 nw f) v, m) := by
  have hb := H.1.1
  have hi : xin (Int32.ofNat f) 60 = true := o_in (by omega) (by omega)
  have hn : (Int32.ofNat f).toNatClampNeg = f := o_nat (by omega)
  obtain ⟨-, -, ⟨p3, -⟩, -⟩ := H.2.1 f hf
  have hl := fun s => m_hr H f v s 20 0 xfuel rfl (by decide)
  have z : ∀ s : Int32, s + hs (fun r => hx (sy m.1 f v r) nl) (wtv m.1) 0 = s := fun s => Int32.add_zero s
  unfold hdv
  by_cases g : v = m.1 ag_facts_value f
  · have := hl (chf m.1 nw f / 1000)
    rw [z, ← o_zero] at this
    simp (decide := true) only [Option.bind_some, ↓reduceIte, xst_f, xst_k, xst_s, ne_eq, not_false_eq_true, not_true_eq_false, and_self, and_true, true_and, and_false, false_and, or_true, true_or, or_false, false_or, F_X10_heard, hi, hn, ← p3, g, m_chanceOf ht H hf, J_X10_heard_92, J_X10_heard_87, J_X10_heard_91, J_X10_heard_116, J_X10_heard_23]
    rw [← g]
    exact this
  · have := hl 0
    rw [z, ← o_zero] at this
    simp (decide := true) only [Option.bind_some, ↓reduceIte, xst_f, xst_k, xst_s, ne_eq, not_false_eq_true, not_true_eq_false, and_self, and_true, true_and, and_false, false_and, or_true, true_or, or_false, false_or, F_X10_heard, hi, hn, ← p3, g, J_X10_heard_92, J_X10_heard_87, J_X10_heard_91, J_X10_heard_116, J_X10_heard_23, this]
def bl (op : Nat → Bool) (S : Nat → Int32) (W : Int32 → Int32) (own : Int32) : Nat → Nat → Int32 → Int32 → Int32
  | 0, _, b, _ => b
  | k + 1, a, b, s => if op a then (if S a = own then bl op S W own k (a + 1) b s else if s < W (S a) then bl op S W own k (a + 1) (S a) (W (S a)) else if W (S a) = s then (if b = own then bl op S W own k (a + 1) b s else if b ≤ S a then bl op S W own k (a + 1) b s else bl op S W own k (a + 1) (S a) (W (S a))) else bl op S W own k (a + 1) b s) else bl op S W own k (a + 1) b s
theorem c_bl (H : xRel t nf nw nl ne tp n m.1) (f : Nat) (own : Int32) : ∀ (k a fk : Nat) (b s : Int32), a + k = nl → k < fk → L_X9_beliefOf_39 (Int32.ofNat f) own fk b s (Int32.ofNat a) m = some (bl (opn m.1 f) (m.1 ag_letters_said) (wfv m.1 nl f) own k a b s, m)
  | 0, a, fk + 1, b, s, h, _ => by
    obtain ⟨h1, h2, h3, h4, h5, h6, h7, h8, h9, h10⟩ := id H
    have hb := h1.1
    obtain ⟨-, ⟨a1, a2⟩, ⟨b1, b2⟩, ⟨c1, c2⟩, ⟨d1, d2⟩, e1, e2⟩ := id h1
    have q : Int32.ofNat nl ≤ Int32.ofNat a := (o_le (by omega) (by omega)).mpr (by omega)
    simp (decide := true) only [Option.bind_some, ↓reduceIte, xst_f, xst_k, xst_s, ne_eq, not_false_eq_true, not_true_eq_false, and_self, and_true, true_and, and_false, false_and, or_true, true_or, or_false, false_or, L_X9_beliefOf_39, c1, q, bl]
  | k + 1, a, fk + 1, b, s, h, hf => by
    have hrec := fun b s => c_bl H f own k (a + 1) fk b s (by omega) (by omega)
    obtain ⟨h1, h2, h3, h4, h5, h6, h7, h8, h9, h10⟩ := id H
    have hb := h1.1
    obtain ⟨-, ⟨a1, a2⟩, ⟨b1, b2⟩, ⟨c1, c2⟩, ⟨d1, d2⟩, e1, e2⟩ := id h1
    have q : ¬ Int32.ofNat nl ≤ Int32.ofNat a := fun q => by have := (o_le (by omega) (by omega)).mp q; omega
    have hi : xin (Int32.ofNat a) 100 = true := o_in (by omega) (by omega)
    have hn : (Int32.ofNat a).toNatClampNeg = a := o_nat (by omega)
    have ha100 : a < 100 := by omega
    have d10 : ¬ ((1 : Int32) = 0) := by decide
    unfold bl
    cases ho : opn m.1 f a with
    | false => simp (decide := true) only [Option.bind_some, ↓reduceIte, xst_f, xst_k, xst_s, ne_eq, not_false_eq_true, not_true_eq_false, and_self, and_true, true_and, and_false, false_and, or_true, true_or, or_false, false_or, L_X9_beliefOf_39, c1, q, hi, hn, c_open ha100, ho, Bool.false_eq_true, J_X9_beliefOf_141, J_X9_beliefOf_134, J_X9_beliefOf_120, J_X9_beliefOf_119, o_succ, hrec]
    | true =>
      by_cases g : m.1 ag_letters_said a = own
      · simp (decide := true) only [Option.bind_some, ↓reduceIte, xst_f, xst_k, xst_s, ne_eq, not_false_eq_true, not_true_eq_false, and_self, and_true, true_and, and_false, false_and, or_true, true_or, or_false, false_or, L_X9_beliefOf_39, c1, q, hi, hn, c_open ha100, ho, d10, g, J_X9_beliefOf_141, J_X9_beliefOf_134, J_X9_beliefOf_120, J_X9_beliefOf_119, o_succ, hrec]
      · by_cases g1 : s < wfv m.1 nl f (m.1 ag_letters_said a)
        · have g2 : ¬ wfv m.1 nl f (m.1 ag_letters_said a) = s := by intro w; rw [w] at g1; exact absurd g1 (Int32.lt_irrefl)
          simp (decide := true) only [Option.bind_some, ↓reduceIte, xst_f, xst_k, xst_s, ne_eq, not_false_eq_true, not_true_eq_false, and_self, and_true, true_and, and_false, false_and, or_true, true_or, or_false, false_or, L_X9_beliefOf_39, c1, q, hi, hn, c_open ha100, ho, d10, g, c_weightFor H f, g1, g2, J_X9_beliefOf_141, J_X9_beliefOf_134, J_X9_beliefOf_120, J_X9_beliefOf_119, o_succ, hrec]
        · by_cases g2 : wfv m.1 nl f (m.1 ag_letters_said a) = s
          · by_cases g3 : b = own
            · simp (decide := true) only [Option.bind_some, ↓reduceIte, xst_f, xst_k, xst_s, ne_eq, not_false_eq_true, not_true_eq_false, and_self, and_true, true_and, and_false, false_and, or_true, true_or, or_false, false_or, L_X9_beliefOf_39, c1, q, hi, hn, c_open ha100, ho, d10, g, c_weightFor H f, g1, g2, g3, J_X9_beliefOf_141, J_X9_beliefOf_134, J_X9_beliefOf_120, J_X9_beliefOf_119, o_succ, hrec, Int32.lt_irrefl]
            · by_cases g4 : b ≤ m.1 ag_letters_said a
              · simp (decide := true) only [Option.bind_some, ↓reduceIte, xst_f, xst_k, xst_s, ne_eq, not_false_eq_true, not_true_eq_false, and_self, and_true, true_and, and_false, false_and, or_true, true_or, or_false, false_or, L_X9_beliefOf_39, c1, q, hi, hn, c_open ha100, ho, d10, g, c_weightFor H f, g1, g2, g3, g4, J_X9_beliefOf_141, J_X9_beliefOf_134, J_X9_beliefOf_120, J_X9_beliefOf_119, o_succ, hrec, Int32.lt_irrefl]
              · simp (decide := true) only [Option.bind_some, ↓reduceIte, xst_f, xst_k, xst_s, ne_eq, not_false_eq_true, not_true_eq_false, and_self, and_true, true_and, and_false, false_and, or_true, true_or, or_false, false_or, L_X9_beliefOf_39, c1, q, hi, hn, c_open ha100, ho, d10, g, c_weightFor H f, g1, g2, g3, g4, J_X9_beliefOf_141, J_X9_beliefOf_134, J_X9_beliefOf_120, J_X9_beliefOf_119, o_succ, hrec, Int32.lt_irrefl]
          · simp (decide := true) only [Option.bind_some, ↓reduceIte, xst_f, xst_k, xst_s, ne_eq, not_false_eq_true, not_true_eq_false, and_self, and_true, true_and, and_false, false_and, or_true, true_or, or_false, false_or, L_X9_beliefOf_39, c1, q, hi, hn, c_open ha100, ho, d10, g, c_weightFor H f, g1, g2, J_X9_beliefOf_141, J_X9_beliefOf_134, J_X9_beliefOf_120, J_X9_beliefOf_119, o_succ, hrec]
theorem i_0 {x : Int32} : 0 ≤ x ↔ 0 ≤ x.toInt := by
  rw [Int32.le_iff_toInt_le]
  exact Iff.rfl
theorem m_bl (ht : t ≤ 600) (H : xRel t nf nw nl ne tp n m.1) {f : Nat} (hf : f < nf) : ∀ (k a fk : Nat) (b s x : Int32), a + k = nl → k < fk → 0 ≤ s → (x = s ∨ (x = -1 ∧ s = hdv m.1 nl f (chf m.1 nw f) (m.1 ag_facts_value f))) → L_X10_believes_12 (Int32.ofNat f) fk b x (Int32.ofNat a) m = some (bl (opn m.1 f) (m.1 ag_letters_said) (wfv m.1 nl f) (m.1 ag_facts_value f) k a b s, m)
  | 0, a, fk + 1, b, s, x, h, _, _, _ => by
    obtain ⟨h1, h2, h3, h4, h5, h6, h7, h8, h9, h10⟩ := id H
    have hb := h1.1
    obtain ⟨-, ⟨a1, a2⟩, ⟨b1, b2⟩, ⟨c1, c2⟩, ⟨d1, d2⟩, e1, e2⟩ := id h1
    have q : Int32.ofNat nl ≤ Int32.ofNat a := (o_le (by omega) (by omega)).mpr (by omega)
    simp (decide := true) only [Option.bind_some, ↓reduceIte, xst_f, xst_k, xst_s, ne_eq, not_false_eq_true, not_true_eq_false, and_self, and_true, true_and, and_false, false_and, or_true, true_or, or_false, false_or, L_X10_believes_12, c2, q, bl]
  | k + 1, a, fk + 1, b, s, x, h, hk, hs0, hx => by
    have hrec := fun b s x => m_bl ht H hf k (a + 1) fk b s x (by omega) (by omega)
    obtain ⟨h1, h2, h3, h4, h5, h6, h7, h8, h9, h10⟩ := id H
    have hb := h1.1
    obtain ⟨-, ⟨a1, a2⟩, ⟨b1, b2⟩, ⟨c1, c2⟩, ⟨d1, d2⟩, e1, e2⟩ := id h1
    have q : ¬ Int32.ofNat nl ≤ Int32.ofNat a := fun q => by have := (o_le (by omega) (by omega)).mp q; omega
    have hi : xin (Int32.ofNat a) 100 = true := o_in (by omega) (by omega)
    have hn : (Int32.ofNat a).toNatClampNeg = a := o_nat (by omega)
    have hi' : xin (Int32.ofNat f) 60 = true := o_in (by omega) (by omega)
    have hn' : (Int32.ofNat f).toNatClampNeg = f := o_nat (by omega)
    have hal : a < nl := by omega
    have d10 : ¬ ((1 : Int32) = 0) := by decide
    obtain ⟨-, -, ⟨s1, -⟩⟩ := h5.1 a hal
    obtain ⟨-, -, ⟨p3, -⟩, -⟩ := h2 f hf
    have r0 := hrec b s x hs0 hx
    unfold bl
    cases ho : opn m.1 f a with
    | false => simp (decide := true) only [Option.bind_some, ↓reduceIte, xst_f, xst_k, xst_s, ne_eq, not_false_eq_true, not_true_eq_false, and_self, and_true, true_and, and_false, false_and, or_true, true_or, or_false, false_or, L_X10_believes_12, c2, q, m_open H hal, ho, Bool.false_eq_true, J_X10_believes_125, J_X10_believes_114, J_X10_believes_66, o_succ, r0]
    | true =>
      by_cases g : m.1 ag_letters_said a = m.1 ag_facts_value f
      · simp (decide := true) only [Option.bind_some, ↓reduceIte, xst_f, xst_k, xst_s, ne_eq, not_false_eq_true, not_true_eq_false, and_self, and_true, true_and, and_false, false_and, or_true, true_or, or_false, false_or, L_X10_believes_12, c2, q, m_open H hal, ho, d10, hi, hn, hi', hn', ← s1, ← p3, g, J_X10_believes_125, J_X10_believes_114, J_X10_believes_66, o_succ, r0]
      · have hw : hdv m.1 nl f (chf m.1 nw f) (m.1 ag_letters_said a) = wfv m.1 nl f (m.1 ag_letters_said a) := by
          unfold hdv
          rw [if_neg g, Int32.zero_add]
        have hw0 : 0 ≤ wfv m.1 nl f (m.1 ag_letters_said a) := i_0.mpr (wf_rg H f _).1
        have r1 := hrec b s s hs0 (Or.inl rfl)
        have r2 := hrec (m.1 ag_letters_said a) (wfv m.1 nl f (m.1 ag_letters_said a)) _ hw0 (Or.inl rfl)
        have hj : J_X10_believes_66 (fun y z w m_1 => L_X10_believes_12 (Int32.ofNat f) fk y z w m_1) (Int32.ofNat f) b (Int32.ofNat a) s m = some (if s < wfv m.1 nl f (m.1 ag_letters_said a) then bl (opn m.1 f) (m.1 ag_letters_said) (wfv m.1 nl f) (m.1 ag_facts_value f) k (a + 1) (m.1 ag_letters_said a) (wfv m.1 nl f (m.1 ag_letters_said a)) else if wfv m.1 nl f (m.1 ag_letters_said a) = s then (if b = m.1 ag_facts_value f then bl (opn m.1 f) (m.1 ag_letters_said) (wfv m.1 nl f) (m.1 ag_facts_value f) k (a + 1) b s else if b ≤ m.1 ag_letters_said a then bl (opn m.1 f) (m.1 ag_letters_said) (wfv m.1 nl f) (m.1 ag_facts_value f) k (a + 1) b s else bl (opn m.1 f) (m.1 ag_letters_said) (wfv m.1 nl f) (m.1 ag_facts_value f) k (a + 1) (m.1 ag_letters_said a) (wfv m.1 nl f (m.1 ag_letters_said a))) else bl (opn m.1 f) (m.1 ag_letters_said) (wfv m.1 nl f) (m.1 ag_facts_value f) k (a + 1) b s, m) := by
          by_cases g1 : s < wfv m.1 nl f (m.1 ag_letters_said a)
          · simp (decide := true) only [Option.bind_some, ↓reduceIte, xst_f, xst_k, xst_s, ne_eq, not_false_eq_true, not_true_eq_false, and_self, and_true, true_and, and_false, false_and, or_true, true_or, or_false, false_or, J_X10_believes_125, J_X10_believes_114, J_X10_believes_66, hi, hn, ← s1, m_heard ht H hf, hw, g1, o_succ, r2]
          · by_cases g2 : wfv m.1 nl f (m.1 ag_letters_said a) = s
            · by_cases g3 : b = m.1 ag_facts_value f
              · simp (decide := true) only [Option.bind_some, ↓reduceIte, xst_f, xst_k, xst_s, ne_eq, not_false_eq_true, not_true_eq_false, and_self, and_true, true_and, and_false, false_and, or_true, true_or, or_false, false_or, J_X10_believes_125, J_X10_believes_114, J_X10_believes_66, hi, hn, hi', hn', ← s1, ← p3, m_heard ht H hf, hw, g1, g2, Int32.lt_irrefl, g3, o_succ]
                subst g3
                exact r1
              · by_cases g4 : b ≤ m.1 ag_letters_said a
                · simp (decide := true) only [Option.bind_some, ↓reduceIte, xst_f, xst_k, xst_s, ne_eq, not_false_eq_true, not_true_eq_false, and_self, and_true, true_and, and_false, false_and, or_true, true_or, or_false, false_or, J_X10_believes_125, J_X10_believes_114, J_X10_believes_66, hi, hn, hi', hn', ← s1, ← p3, m_heard ht H hf, hw, g1, g2, Int32.lt_irrefl, g3, g4, o_succ, r1]
                · rw [g2] at r2
                  simp (decide := true) only [Option.bind_some, ↓reduceIte, xst_f, xst_k, xst_s, ne_eq, not_false_eq_true, not_true_eq_false, and_self, and_true, true_and, and_false, false_and, or_true, true_or, or_false, false_or, J_X10_believes_125, J_X10_believes_114, J_X10_believes_66, hi, hn, hi', hn', ← s1, ← p3, m_heard ht H hf, hw, g1, g2, Int32.lt_irrefl, g3, g4, o_succ, r2]
            · simp (decide := true) only [Option.bind_some, ↓reduceIte, xst_f, xst_k, xst_s, ne_eq, not_false_eq_true, not_true_eq_false, and_self, and_true, true_and, and_false, false_and, or_true, true_or, or_false, false_or, J_X10_believes_125, J_X10_believes_114, J_X10_believes_66, hi, hn, ← s1, m_heard ht H hf, hw, g1, g2, o_succ, r1]
        rcases hx with e | ⟨e, e'⟩
        · subst e
          simp (decide := true) only [Option.bind_some, ↓reduceIte, xst_f, xst_k, xst_s, ne_eq, not_false_eq_true, not_true_eq_false, and_self, and_true, true_and, and_false, false_and, or_true, true_or, or_false, false_or, L_X10_believes_12, c2, q, m_open H hal, ho, d10, hi, hn, hi', hn', ← s1, ← p3, g, hs0, hj]
        · subst e
          have dm : ¬ (0 : Int32) ≤ -1 := by decide
          simp (decide := true) only [Option.bind_some, ↓reduceIte, xst_f, xst_k, xst_s, ne_eq, not_false_eq_true, not_true_eq_false, and_self, and_true, true_and, and_false, false_and, or_true, true_or, or_false, false_or, L_X10_believes_12, c2, q, m_open H hal, ho, d10, hi, hn, hi', hn', ← s1, ← p3, g, dm, m_heard ht H hf, ← e', hj]
/-- what is believed of f -/
def blv (I : xI) (nl nw f : Nat) : Int32 := bl (opn I f) (I ag_letters_said) (wfv I nl f) (I ag_facts_value f) nl 0 (I ag_facts_value f) (chf I nw f / 1000 + wfv I nl f (I ag_facts_value f))
theorem c_beliefOf (ht : t ≤ 600) (H : xRel t nf nw nl ne tp n m.1) {f : Nat} (hf : f < nf) : F_X9_beliefOf (Int32.ofNat f) m = some (blv m.1 nl nw f, m) := by
  have hb := H.1.1
  have hi' : xin (Int32.ofNat f) 60 = true := o_in (by omega) (by omega)
  have hn' : (Int32.ofNat f).toNatClampNeg = f := o_nat (by omega)
  have e := c_bl H f (m.1 ag_facts_value f) nl 0 xfuel (m.1 ag_facts_value f) (chf m.1 nw f / 1000 + wfv m.1 nl f (m.1 ag_facts_value f)) (by omega) (by rw [xfuel_eq]; omega)
  rw [← o_zero] at e
  simp (decide := true) only [Option.bind_some, ↓reduceIte, xst_f, xst_k, xst_s, ne_eq, not_false_eq_true, not_true_eq_false, and_self, and_true, true_and, and_false, false_and, or_true, true_or, or_false, false_or, F_X9_beliefOf, hi', hn', c_chanceOf ht H hf, c_weightFor H f, e, blv]
theorem d1000 {x : Int32} (h : 0 ≤ x.toInt) (h' : x.toInt ≤ 1000000) : 0 ≤ (x / 1000).toInt ∧ (x / 1000).toInt ≤ 1000 := by
  rw [Int32.toInt_div_of_ne_right _ _ (by decide)]
  have e : (1000 : Int32).toInt = 1000 := rfl
  rw [e, Int.tdiv_eq_ediv_of_nonneg h]
  omega
theorem m_believes (ht : t ≤ 600) (H : xRel t nf nw nl ne tp n m.1) {f : Nat} (hf : f < nf) : F_X10_believes (Int32.ofNat f) m = some (blv m.1 nl nw f, m) := by
  have hb := H.1.1
  have hi' : xin (Int32.ofNat f) 60 = true := o_in (by omega) (by omega)
  have hn' : (Int32.ofNat f).toNatClampNeg = f := o_nat (by omega)
  obtain ⟨-, -, ⟨p3, -⟩, -⟩ := H.2.1 f hf
  have c := chf_rg ht H hf
  have c' := d1000 c.1 c.2
  have w := wf_rg H f (m.1 ag_facts_value f)
  have e := m_bl ht H hf nl 0 xfuel (m.1 ag_facts_value f) (chf m.1 nw f / 1000 + wfv m.1 nl f (m.1 ag_facts_value f)) (-1) (by omega) (by rw [xfuel_eq]; omega) (i_0.mpr (by rw [i_add (by omega) (by omega)]; omega)) (Or.inr ⟨rfl, by unfold hdv; rw [if_pos rfl]⟩)
  rw [← o_zero] at e
  simp (decide := true) only [Option.bind_some, ↓reduceIte, xst_f, xst_k, xst_s, ne_eq, not_false_eq_true, not_true_eq_false, and_self, and_true, true_and, and_false, false_and, or_true, true_or, or_false, false_or, F_X10_believes, hi', hn', ← p3, e, blv]
theorem pr_believed (ht : t ≤ 600) (H : xRel t nf nw nl ne tp n m.1) (x : Int32) : xPair (F_X9_believed x) (F_X10_believed x) t m := by
  obtain ⟨h1, h2, h3, h4, h5, h6, h7, h8, h9, h10⟩ := id H
  have hb := h1.1
  obtain ⟨-, ⟨a1, a2⟩, ⟨b1, b2⟩, ⟨c1, c2⟩, ⟨d1, d2⟩, e1, e2⟩ := id h1
  by_cases h : 0 ≤ x ∧ x < Int32.ofNat nf
  · obtain ⟨f, hf, rfl⟩ := g_ix h (by omega)
    have hq : (0 ≤ Int32.ofNat f ∧ Int32.ofNat f < Int32.ofNat nf) = True := eq_true h
    have H' := H.keep (k_th m 0)
    have e := m_believes ht H' hf
    have eq0 : blv (xst m.1 am fGuideBookModel_thrown 0) nl nw f = blv m.1 nl nw f := rfl
    rw [eq0] at e
    refine xPair.keep (m1 := m) (m2 := (xst m.1 am fGuideBookModel_thrown 0, m.2)) (v := blv m.1 nl nw f) ht H ?_ (xKeep.refl m) ?_ (k_th m 0)
    · simp (decide := true) only [Option.bind_some, ↓reduceIte, xst_f, xst_k, xst_s, ne_eq, not_false_eq_true, not_true_eq_false, and_self, and_true, true_and, and_false, false_and, or_true, true_or, or_false, false_or, F_X9_believed, g_has, a1, hq, c_beliefOf ht H hf]
    · simp (decide := true) only [Option.bind_some, ↓reduceIte, xst_f, xst_k, xst_s, ne_eq, not_false_eq_true, not_true_eq_false, and_self, and_true, true_and, and_false, false_and, or_true, true_or, or_false, false_or, F_X10_believed, g_mFact, a2, hq, e]
  · refine xPair.keep (m1 := m) (m2 := (xst m.1 am fGuideBookModel_thrown 0, m.2)) (v := -1) ht H ?_ (xKeep.refl m) ?_ (k_th m 0)
    · simp (decide := true) only [Option.bind_some, ↓reduceIte, xst_f, xst_k, xst_s, ne_eq, not_false_eq_true, not_true_eq_false, and_self, and_true, true_and, and_false, false_and, or_true, true_or, or_false, false_or, F_X9_believed, g_has, a1, h]
    · simp (decide := true) only [Option.bind_some, ↓reduceIte, xst_f, xst_k, xst_s, ne_eq, not_false_eq_true, not_true_eq_false, and_self, and_true, true_and, and_false, false_and, or_true, true_or, or_false, false_or, F_X10_believed, g_mFact, a2, h]
end BE
