section PP
theorem and_byte {p q c M : Nat} (hp : p < 256) (hc : c < 256) : (p + 256 * q) &&& (c + 256 * M) = (p &&& c) + 256 * (q &&& M) := by
  apply Nat.eq_of_testBit_eq
  intro i
  have h8 : (p &&& c) < 2 ^ 8 := Nat.lt_of_le_of_lt Nat.and_le_left (by omega)
  have e : ∀ (x y : Nat), x < 256 → (x + 256 * y).testBit i = if i < 8 then x.testBit i else y.testBit (i - 8) := by
    intro x y hx
    rw [Nat.add_comm, show (256 : Nat) = 2 ^ 8 from rfl, Nat.testBit_two_pow_mul_add y (show x < 2 ^ 8 by omega)]
  rw [Nat.testBit_and, e p q hp, e c M hc, e (p &&& c) (q &&& M) (by omega)]
  split
  · rw [Nat.testBit_and]
  · rw [Nat.testBit_and]
/-- a mask of k bytes c -/
def mkb (c : Nat) : Nat → Nat
  | 0 => 0
  | k + 1 => c + 256 * mkb c k
theorem mkb_s {c k : Nat} : mkb c (k + 1) = c + 256 * mkb c k := rfl
def pq1 (M x : Nat) : Nat := x - (x / 2 &&& M)
def pq2 (M x : Nat) : Nat := (x &&& M) + (x / 4 &&& M)
def pq3 (M x : Nat) : Nat := (x + x / 16) &&& M
def pc1 (b : Nat) : Nat := pq1 0x55 b
def pc2 (b : Nat) : Nat := pq2 0x33 (pc1 b)
theorem pb1 : ∀ b : Fin 256, ∀ z : Fin 2, (b.1 / 2 + 128 * z.1) &&& 0x55 = b.1 / 2 &&& 0x55 ∧ (b.1 / 2 &&& 0x55) ≤ b.1 := by decide +kernel
theorem pb2 : ∀ b : Fin 256, ∀ z : Fin 4, (b.1 / 4 + 64 * z.1) &&& 0x33 = b.1 / 4 &&& 0x33 := by decide +kernel
theorem pb3 : ∀ b : Fin 256, pc2 b.1 < 256 ∧ pc2 b.1 % 16 ≤ 4 ∧ xct b.1.testBit 8 ≤ 8 ∧ ∀ z : Fin 5, pc2 b.1 + pc2 b.1 / 16 + 16 * z.1 < 256 ∧ (pc2 b.1 + pc2 b.1 / 16 + 16 * z.1) &&& 15 = xct b.1.testBit 8 := by decide +kernel
theorem pq1_s {b y k : Nat} (hb : b < 256) : pq1 (mkb 0x55 (k + 1)) (b + 256 * y) = pc1 b + 256 * pq1 (mkb 0x55 k) y := by
  obtain ⟨h1, h2⟩ := pb1 ⟨b, hb⟩ ⟨y % 2, by omega⟩
  dsimp only at h1 h2
  unfold pc1 pq1
  rw [mkb_s, show (b + 256 * y) / 2 = (b / 2 + 128 * (y % 2)) + 256 * (y / 2) by omega, and_byte (by omega) (by omega), h1]
  have h3 : (y / 2 &&& mkb 0x55 k) ≤ y := Nat.le_trans Nat.and_le_left (by omega)
  generalize (y / 2 &&& mkb 0x55 k) = A at *
  generalize (b / 2 &&& 85) = B at *
  omega
theorem pq2_s {b y k : Nat} (hb : b < 256) : pq2 (mkb 0x33 (k + 1)) (b + 256 * y) = pq2 0x33 b + 256 * pq2 (mkb 0x33 k) y := by
  have h1 := pb2 ⟨b, hb⟩ ⟨y % 4, by omega⟩
  dsimp only at h1
  unfold pq2
  rw [mkb_s, show (b + 256 * y) / 4 = (b / 4 + 64 * (y % 4)) + 256 * (y / 4) by omega, and_byte hb (by omega), and_byte (by omega) (by omega), h1]
  omega
theorem pc1_lt {b : Nat} (hb : b < 256) : pc1 b < 256 := by unfold pc1 pq1; omega
theorem pq_nib : ∀ k x, (pq2 (mkb 0x33 k) (pq1 (mkb 0x55 k) x)) % 16 ≤ 4
  | 0, x => by
    unfold pq2
    show ((_ &&& 0) + (_ &&& 0)) % 16 ≤ 4
    rw [Nat.and_zero, Nat.and_zero]
    decide
  | k + 1, x => by
    have hx : x = x % 256 + 256 * (x / 256) := by omega
    have hb : x % 256 < 256 := by omega
    rw [hx, pq1_s hb, pq2_s (pc1_lt hb)]
    have := (pb3 ⟨x % 256, hb⟩).2.1
    unfold pc2 at this
    dsimp only at this
    omega
def bsum : Nat → Nat → Nat
  | 0, _ => 0
  | k + 1, x => xct (x % 256).testBit 8 + 256 * bsum k (x / 256)
theorem pq_all : ∀ k x, pq3 (mkb 0x0f k) (pq2 (mkb 0x33 k) (pq1 (mkb 0x55 k) x)) = bsum k x
  | 0, x => by
    unfold pq3
    show _ &&& 0 = 0
    exact Nat.and_zero _
  | k + 1, x => by
    have hx : x = x % 256 + 256 * (x / 256) := by omega
    have hb : x % 256 < 256 := by omega
    have ih := pq_all k (x / 256)
    have hn := pq_nib k (x / 256)
    have e1 : pq2 (mkb 0x33 (k + 1)) (pq1 (mkb 0x55 (k + 1)) x) = pc2 (x % 256) + 256 * pq2 (mkb 0x33 k) (pq1 (mkb 0x55 k) (x / 256)) := by
      conv => lhs; rw [hx, pq1_s hb, pq2_s (pc1_lt hb)]
      rfl
    rw [e1]
    generalize pq2 (mkb 0x33 k) (pq1 (mkb 0x55 k) (x / 256)) = w at *
    obtain ⟨c1, c2, c3, c4⟩ := pb3 ⟨x % 256, hb⟩
    obtain ⟨d1, d2⟩ := c4 ⟨w % 16, by omega⟩
    dsimp only at c1 c2 c3 d1 d2
    unfold bsum
    rw [← ih]
    unfold pq3
    rw [mkb_s, show pc2 (x % 256) + 256 * w + (pc2 (x % 256) + 256 * w) / 16 = (pc2 (x % 256) + pc2 (x % 256) / 16 + 16 * (w % 16)) + 256 * (w + w / 16) by omega, and_byte d1 (by omega), d2]
theorem xct_sp {P : Nat → Bool} (a : Nat) : ∀ k, xct P (a + k) = xct P a + xct (fun j => P (a + j)) k
  | 0 => rfl
  | k + 1 => by
    show xct P (a + k) + (if P (a + k) then 1 else 0) = xct P a + (xct (fun j => P (a + j)) k + (if P (a + k) then 1 else 0))
    rw [xct_sp a k, Nat.add_assoc]
theorem xct_b {x : Nat} (k : Nat) : xct x.testBit (8 + k) = xct (x % 256).testBit 8 + xct (x / 256).testBit k := by
  rw [xct_sp 8 k]
  congr 1
  · refine xct_cg 8 (fun i hi => ?_)
    rw [show (256 : Nat) = 2 ^ 8 from rfl, Nat.testBit_mod_two_pow, decide_eq_true hi, Bool.true_and]
  · refine xct_cg k (fun i _ => ?_)
    rw [show (256 : Nat) = 2 ^ 8 from rfl, Nat.testBit_div_two_pow, Nat.add_comm]
theorem pop_ar {a0 a1 a2 a3 a4 a5 a6 a7 v : Nat} (t0 : a0 ≤ 8) (t1 : a1 ≤ 8) (t2 : a2 ≤ 8) (t3 : a3 ≤ 8) (t4 : a4 ≤ 8) (t5 : a5 ≤ 8) (t6 : a6 ≤ 8) (t7 : a7 ≤ 8) (hv : v = a0 + 256 * (a1 + 256 * (a2 + 256 * (a3 + 256 * (a4 + 256 * (a5 + 256 * (a6 + 256 * a7))))))) : (v + v / 256 + (v + v / 256) / 65536 + (v + v / 256 + (v + v / 256) / 65536) / 4294967296) % 128 = a0 + a1 + a2 + a3 + a4 + a5 + a6 + a7 := by
  have e1 : v / 256 = a1 + 256 * (a2 + 256 * (a3 + 256 * (a4 + 256 * (a5 + 256 * (a6 + 256 * a7))))) := by omega
  obtain ⟨W, hW⟩ : ∃ W, W = v + v / 256 := ⟨_, rfl⟩
  rw [← hW]
  have e2 : W = (a0 + a1) + 256 * ((a1 + a2) + 256 * ((a2 + a3) + 256 * ((a3 + a4) + 256 * ((a4 + a5) + 256 * ((a5 + a6) + 256 * ((a6 + a7) + 256 * a7)))))) := by rw [hW, e1, hv]; omega
  clear hW e1 hv
  have e3 : W / 65536 = (a2 + a3) + 256 * ((a3 + a4) + 256 * ((a4 + a5) + 256 * ((a5 + a6) + 256 * ((a6 + a7) + 256 * a7)))) := by omega
  obtain ⟨V, hV⟩ : ∃ V, V = W + W / 65536 := ⟨_, rfl⟩
  rw [← hV]
  have e4 : V = (a0 + a1 + a2 + a3) + 256 * ((a1 + a2 + a3 + a4) + 256 * ((a2 + a3 + a4 + a5) + 256 * ((a3 + a4 + a5 + a6) + 256 * ((a4 + a5 + a6 + a7) + 256 * ((a5 + a6 + a7) + 256 * ((a6 + a7) + 256 * a7)))))) := by rw [hV, e3, e2]; omega
  clear hV e3 e2
  have e5 : V / 4294967296 = (a4 + a5 + a6 + a7) + 256 * ((a5 + a6 + a7) + 256 * ((a6 + a7) + 256 * a7)) := by omega
  rw [e5]
  omega
theorem bsum_s {k x : Nat} : bsum (k + 1) x = xct (x % 256).testBit 8 + 256 * bsum k (x / 256) := rfl
theorem pop_fin (x : Nat) {v : Nat} (hv : v = bsum 8 x) : (v + v / 256 + (v + v / 256) / 65536 + (v + v / 256 + (v + v / 256) / 65536) / 4294967296) % 128 = xct x.testBit 64 := by
  have T : ∀ y, xct (y % 256).testBit 8 ≤ 8 := fun y => xct_le 8
  rw [bsum_s, bsum_s, bsum_s, bsum_s, bsum_s, bsum_s, bsum_s, bsum_s, show ∀ y, bsum 0 y = 0 from fun _ => rfl, Nat.mul_zero, Nat.add_zero] at hv
  have e : xct x.testBit (8 + (8 + (8 + (8 + (8 + (8 + (8 + (8 + 0)))))))) = xct x.testBit 64 := rfl
  rw [← e, xct_b, xct_b, xct_b, xct_b, xct_b, xct_b, xct_b, xct_b, show ∀ P, xct P 0 = 0 from fun _ => rfl, Nat.add_zero, pop_ar (T _) (T _) (T _) (T _) (T _) (T _) (T _) (T _) hv]
  omega
end PP
