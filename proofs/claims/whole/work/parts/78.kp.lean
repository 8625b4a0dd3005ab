section KP
/-- the bits of S below k, each with its D -/
def dsm (D : Nat → Nat) (S : Nat) : Nat → Nat
  | 0 => 0
  | k + 1 => dsm D S k + (if S.testBit k then D k else 0)
def dsI (G : Nat → Int) (S : Nat) : Nat → Int
  | 0 => 0
  | k + 1 => dsI G S k + (if S.testBit k then G k else 0)
theorem tb_lo {S p i : Nat} (h : i < p) : (2 ^ p + S).testBit i = S.testBit i := Nat.testBit_two_pow_add_gt h S
theorem tb_hi {S p i : Nat} (hS : S < 2 ^ p) (h : p < i) : (2 ^ p + S).testBit i = false := by
  apply Nat.testBit_lt_two_pow
  have : 2 ^ (p + 1) ≤ 2 ^ i := Nat.pow_le_pow_right (by omega) (by omega)
  rw [Nat.pow_succ] at this
  omega
theorem tb_eq {S p : Nat} (hS : S < 2 ^ p) : (2 ^ p + S).testBit p = true := by
  rw [Nat.testBit_two_pow_add_eq, Nat.testBit_lt_two_pow hS]
  rfl
theorem tb_z {S p i : Nat} (hS : S < 2 ^ p) (h : p ≤ i) : S.testBit i = false := Nat.testBit_lt_two_pow (Nat.lt_of_lt_of_le hS (Nat.pow_le_pow_right (by omega) h))
theorem dsm_add {D : Nat → Nat} {S p : Nat} (hS : S < 2 ^ p) : ∀ k, dsm D (2 ^ p + S) k = dsm D S k + (if p < k then D p else 0)
  | 0 => rfl
  | k + 1 => by
    unfold dsm
    rw [dsm_add hS k]
    rcases Nat.lt_trichotomy k p with h | h | h
    · rw [tb_lo h, if_neg (show ¬ p < k by omega), if_neg (show ¬ p < k + 1 by omega)]; omega
    · subst h
      rw [tb_eq hS, tb_z hS (Nat.le_refl _), if_neg (show ¬ k < k by omega), if_pos (show k < k + 1 by omega)]
      simp
    · rw [tb_hi hS h, tb_z hS (by omega), if_pos h, if_pos (show p < k + 1 by omega)]; simp
theorem dsI_add {G : Nat → Int} {S p : Nat} (hS : S < 2 ^ p) : ∀ k, dsI G (2 ^ p + S) k = dsI G S k + (if p < k then G p else 0)
  | 0 => rfl
  | k + 1 => by
    unfold dsI
    rw [dsI_add hS k]
    rcases Nat.lt_trichotomy k p with h | h | h
    · rw [tb_lo h, if_neg (show ¬ p < k by omega), if_neg (show ¬ p < k + 1 by omega)]; omega
    · subst h
      rw [tb_eq hS, tb_z hS (Nat.le_refl _), if_neg (show ¬ k < k by omega), if_pos (show k < k + 1 by omega)]
      simp
    · rw [tb_hi hS h, tb_z hS (by omega), if_pos h, if_pos (show p < k + 1 by omega)]; simp
theorem dsm_0 {D : Nat → Nat} : ∀ k, dsm D 0 k = 0
  | 0 => rfl
  | k + 1 => by unfold dsm; rw [dsm_0 k, Nat.zero_testBit]; rfl
theorem dsI_0 {G : Nat → Int} : ∀ k, dsI G 0 k = 0
  | 0 => rfl
  | k + 1 => by unfold dsI; rw [dsI_0 k, Nat.zero_testBit]; rfl
/-- what a set is worth -/
def kvl (D : Nat → Nat) (G : Nat → Int) (S : Nat) : Int := 1000 * dsI G S 10 - dsm D S 10
/-- the best set of the first p places within l -/
def kop (D : Nat → Nat) (G : Nat → Int) : Nat → Nat → Int × Nat
  | 0, _ => (0, 0)
  | p + 1, l => if D p ≤ l ∧ (kop D G p l).1 < (kop D G p (l - D p)).1 + (1000 * G p - D p) then ((kop D G p (l - D p)).1 + (1000 * G p - D p), 2 ^ p + (kop D G p (l - D p)).2) else kop D G p l
/-- r is the least of the best sets below s within l, worth v -/
def kbest (D : Nat → Nat) (G : Nat → Int) (s l r : Nat) : Prop := r < s ∧ dsm D r 10 ≤ l ∧ ∀ S, S < s → dsm D S 10 ≤ l → kvl D G S ≤ kvl D G r ∧ (S < r → kvl D G S < kvl D G r)
theorem kop_best {D : Nat → Nat} {G : Nat → Int} : ∀ p, p ≤ 10 → ∀ l, (kop D G p l).1 = kvl D G (kop D G p l).2 ∧ kbest D G (2 ^ p) l (kop D G p l).2
  | 0, _, l => by
    refine ⟨?_, ?_, ?_, fun S hS hf => ?_⟩
    · show (0 : Int) = 1000 * dsI G 0 10 - dsm D 0 10
      rw [dsI_0, dsm_0]; rfl
    · show 0 < 2 ^ 0; decide
    · show dsm D 0 10 ≤ l
      rw [dsm_0]; omega
    · have : S = 0 := by simpa using hS
      subst this
      exact ⟨Int.le_refl _, fun w => absurd w (Nat.lt_irrefl _)⟩
  | p + 1, hp, l => by
    obtain ⟨e1, u1, u2, u3⟩ := kop_best (D := D) (G := G) p (by omega) l
    obtain ⟨e2, v1, v2, v3⟩ := kop_best (D := D) (G := G) p (by omega) (l - D p)
    have hv : ∀ S, S < 2 ^ p → kvl D G (2 ^ p + S) = kvl D G S + (1000 * G p - D p) ∧ dsm D (2 ^ p + S) 10 = dsm D S 10 + D p := by
      intro S hS
      unfold kvl
      rw [dsm_add hS, dsI_add hS, if_pos (show p < 10 by omega), if_pos (show p < 10 by omega)]
      refine ⟨by push_cast; omega, rfl⟩
    have hsplit : ∀ S, S < 2 ^ (p + 1) → S < 2 ^ p ∨ ∃ S', S' < 2 ^ p ∧ S = 2 ^ p + S' := by
      intro S hS
      rw [Nat.pow_succ] at hS
      by_cases w : S < 2 ^ p
      · exact Or.inl w
      · exact Or.inr ⟨S - 2 ^ p, by omega, by omega⟩
    have hpp : 2 ^ (p + 1) = 2 ^ p * 2 := Nat.pow_succ ..
    by_cases w : D p ≤ l ∧ (kop D G p l).1 < (kop D G p (l - D p)).1 + (1000 * G p - D p)
    · have ek : kop D G (p + 1) l = ((kop D G p (l - D p)).1 + (1000 * G p - D p), 2 ^ p + (kop D G p (l - D p)).2) := by
        rw [kop, if_pos w]
      rw [ek]
      obtain ⟨q1, q2⟩ := hv _ v1
      dsimp only
      refine ⟨by rw [q1, e2], by omega, by rw [q2]; omega, fun S hS hf => ?_⟩
      rw [q1]
      rcases hsplit S hS with h | ⟨S', h, rfl⟩
      · obtain ⟨z1, z2⟩ := u3 S h hf
        exact ⟨by omega, fun _ => by omega⟩
      · obtain ⟨z1, z2⟩ := hv S' h
        obtain ⟨y1, y2⟩ := v3 S' h (by omega)
        rw [z1]
        exact ⟨by omega, fun hlt => by have := y2 (by omega); omega⟩
    · have ek : kop D G (p + 1) l = kop D G p l := by rw [kop, if_neg w]
      rw [ek]
      refine ⟨e1, by omega, u2, fun S hS hf => ?_⟩
      rcases hsplit S hS with h | ⟨S', h, rfl⟩
      · exact u3 S h hf
      · obtain ⟨z1, z2⟩ := hv S' h
        obtain ⟨y1, y2⟩ := v3 S' h (by omega)
        rw [z1]
        refine ⟨?_, fun hlt => by omega⟩
        have : ¬ (kop D G p l).1 < (kop D G p (l - D p)).1 + (1000 * G p - D p) := fun q => w ⟨by omega, q⟩
        omega
theorem kbest_u {D : Nat → Nat} {G : Nat → Int} {s l r r' : Nat} (h : kbest D G s l r) (h' : kbest D G s l r') : r = r' := by
  obtain ⟨a1, a2, a3⟩ := h
  obtain ⟨b1, b2, b3⟩ := h'
  obtain ⟨c1, c2⟩ := a3 r' b1 b2
  obtain ⟨d1, d2⟩ := b3 r a1 a2
  rcases Nat.lt_trichotomy r r' with w | w | w
  · have := d2 w; omega
  · exact w
  · have := c2 w; omega
theorem kop_rg {D : Nat → Nat} {G : Nat → Int} {N : Int} (hG : ∀ p, p < 10 → 0 ≤ G p ∧ G p ≤ N) (hN : 0 ≤ N) : ∀ p, p ≤ 10 → ∀ l, 0 ≤ (kop D G p l).1 ∧ (kop D G p l).1 ≤ 1000 * N * p
  | 0, _, l => by
    show (0 : Int) ≤ 0 ∧ (0 : Int) ≤ 1000 * N * 0
    omega
  | p + 1, hp, l => by
    have h1 := kop_rg (D := D) hG hN p (by omega) l
    have h2 := kop_rg (D := D) hG hN p (by omega) (l - D p)
    have h3 := hG p (by omega)
    have e : 1000 * N * ((p + 1 : Nat) : Int) = 1000 * N * p + 1000 * N := by push_cast; rw [Int.mul_add, Int.mul_one]
    rw [e]
    unfold kop
    split
    · rename_i w
      dsimp only
      omega
    · omega
theorem kop_lt {D : Nat → Nat} {G : Nat → Int} (p l : Nat) (hp : p ≤ 10) : (kop D G p l).2 < 2 ^ p := (kop_best p hp l).2.1
/-! 64 bits -/
theorem bt64 : ∀ k : Fin 60, (1 : Int64) <<< ((Int32.ofNat k.1).toInt64 &&& 63) = Int64.ofNat (2 ^ k.1) ∧ ((1 : Int64) <<< ((Int32.ofNat k.1).toInt64 &&& 63)).toBitVec = BitVec.twoPow 64 k.1 := by decide +kernel
theorem or64 {a b : Nat} : Int64.ofNat a ||| Int64.ofNat b = Int64.ofNat (a ||| b) := by
  rw [← Int64.toBitVec_inj, Int64.toBitVec_or]
  show BitVec.ofNat 64 a ||| BitVec.ofNat 64 b = BitVec.ofNat 64 (a ||| b)
  rw [BitVec.ofNat_or]
theorem or_two {S p : Nat} (h : S < 2 ^ p) : S ||| 2 ^ p = 2 ^ p + S := by
  have := Nat.two_pow_add_eq_or_of_lt h 1
  rw [Nat.mul_one] at this
  rw [this, Nat.or_comm]
theorem and64 {S k : Nat} (hk : k < 60) : (Int64.ofNat S &&& ((1 : Int64) <<< ((Int32.ofNat k).toInt64 &&& 63)) = 0) ↔ S.testBit k = false := by
  rw [← Int64.toBitVec_inj, Int64.toBitVec_and, (bt64 ⟨k, hk⟩).2, BitVec.and_twoPow]
  have e : (Int64.ofNat S).toBitVec.getLsbD k = S.testBit k := by
    show (BitVec.ofNat 64 S).getLsbD k = _
    rw [BitVec.getLsbD_ofNat, decide_eq_true (show k < 64 by omega), Bool.true_and]
  dsimp only
  rw [e]
  cases h : S.testBit k with
  | false => exact ⟨fun _ => rfl, fun _ => rfl⟩
  | true =>
    refine ⟨fun w => ?_, fun w => by cases w⟩
    rw [if_pos rfl] at w
    have := congrArg (fun b => b.getLsbD k) w
    simp only [BitVec.getLsbD_twoPow] at this
    have z : (0 : Int64).toBitVec.getLsbD k = false := by
      show (0#64).getLsbD k = false
      exact BitVec.getLsbD_zero
    rw [z] at this
    simp at this
    omega
theorem pbit : ∀ S : Fin 1024, ∀ p : Fin 10, decide (((Int32.ofNat S.1 >>> (Int32.ofNat p.1 &&& 31)) &&& (1 : Int32)) = (1 : Int32)) = S.1.testBit p.1 := by decide +kernel
end KP
