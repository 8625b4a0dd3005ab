section BCN
def u6 (x : Int64) : Nat := x.toBitVec.toNat
theorem u6_and {x y : Int64} : u6 (x &&& y) = u6 x &&& u6 y := by
  unfold u6
  rw [Int64.toBitVec_and, BitVec.toNat_and]
theorem u6_add {x y : Int64} (h : u6 x + u6 y < 2 ^ 64) : u6 (x + y) = u6 x + u6 y := by
  unfold u6 at *
  rw [Int64.toBitVec_add, BitVec.toNat_add, Nat.mod_eq_of_lt h]
theorem u6_sub {x y : Int64} (h : u6 y ≤ u6 x) : u6 (x - y) = u6 x - u6 y := by
  unfold u6 at *
  rw [Int64.toBitVec_sub, BitVec.toNat_sub]
  have h1 := x.toBitVec.isLt
  have h2 := y.toBitVec.isLt
  omega
theorem sh6 : ((1 : Int32).toInt64.toUInt64 &&& Int64.toUInt64 63) = UInt64.ofNat 1 ∧ ((2 : Int32).toInt64.toUInt64 &&& Int64.toUInt64 63) = UInt64.ofNat 2 ∧ ((4 : Int32).toInt64.toUInt64 &&& Int64.toUInt64 63) = UInt64.ofNat 4 ∧ ((8 : Int32).toInt64.toUInt64 &&& Int64.toUInt64 63) = UInt64.ofNat 8 ∧ ((16 : Int32).toInt64.toUInt64 &&& Int64.toUInt64 63) = UInt64.ofNat 16 ∧ ((32 : Int32).toInt64.toUInt64 &&& Int64.toUInt64 63) = UInt64.ofNat 32 := by decide
theorem u6_sh {x : Int64} {y : Int32} {k : Nat} (hk : k < 64) (e : (y.toInt64.toUInt64 &&& Int64.toUInt64 63) = UInt64.ofNat k) : u6 (xushr x y) = u6 x / 2 ^ k := by
  unfold xushr u6
  rw [e]
  show (x.toUInt64 >>> UInt64.ofNat k).toBitVec.toNat = _
  rw [UInt64.toBitVec_shiftRight]
  show (x.toBitVec >>> ((UInt64.ofNat k).toBitVec % 64).toNat).toNat = _
  have : ((UInt64.ofNat k).toBitVec % 64).toNat = k := by
    show ((BitVec.ofNat 64 k) % 64).toNat = k
    rw [BitVec.toNat_umod, BitVec.toNat_ofNat, Nat.mod_eq_of_lt (by omega : k < 2 ^ 64)]
    show k % 64 = k
    omega
  rw [this, BitVec.toNat_ushiftRight, Nat.shiftRight_eq_div_pow]
theorem u6_ofNat {N : Nat} (h : N < 2 ^ 64) : u6 (Int64.ofNat N) = N := by
  show (BitVec.ofNat 64 N).toNat = N
  rw [BitVec.toNat_ofNat, Nat.mod_eq_of_lt h]
theorem u6_c5 : u6 6148914691236517205 = mkb 0x55 8 := by decide
theorem u6_c3 : u6 3689348814741910323 = mkb 0x33 8 := by decide
theorem u6_cf : u6 1085102592571150095 = mkb 0x0f 8 := by decide
theorem m3_v : mkb 0x33 8 = 3689348814741910323 := by decide
theorem mf_v : mkb 0x0f 8 = 1085102592571150095 := by decide
theorem pc_end {x : Int64} : (x.toInt32 &&& (127 : Int32)) = Int32.ofNat (u6 x % 128) := by
  rw [← Int32.toBitVec_inj, Int32.toBitVec_and, Int64.toBitVec_toInt32]
  apply BitVec.eq_of_toNat_eq
  rw [BitVec.toNat_and]
  show (x.toBitVec.signExtend 32).toNat &&& 127 = (BitVec.ofNat 32 (u6 x % 128)).toNat
  rw [BitVec.signExtend_eq_setWidth_of_le _ (by decide), BitVec.toNat_setWidth, BitVec.toNat_ofNat]
  have := Nat.and_two_pow_sub_one_eq_mod (x.toBitVec.toNat % 2 ^ 32) 7
  rw [show (2 ^ 7 - 1 : Nat) = 127 from rfl] at this
  rw [this]
  unfold u6
  omega
theorem c_bitCount {m : xMem} {N : Nat} (hN : N < 2 ^ 64) : F_J13_bitCount_95d88 (Int64.ofNat N) m = some (Int32.ofNat (xct N.testBit 64), m) := by
  obtain ⟨s1, s2, s4, s8, s16, s32⟩ := sh6
  unfold F_J13_bitCount_95d88
  have hl := u6_ofNat hN
  generalize Int64.ofNat N = l at *
  have hA : u6 (l - (xushr l 1 &&& 6148914691236517205)) = pq1 (mkb 0x55 8) N := by
    have e : u6 (xushr l 1 &&& 6148914691236517205) = (N / 2 &&& mkb 0x55 8) := by
      rw [u6_and, u6_sh (by decide) s1, u6_c5, hl]
    rw [u6_sub (by rw [e, hl]; exact Nat.le_trans Nat.and_le_left (by omega)), e, hl]
    rfl
  generalize (l - (xushr l 1 &&& 6148914691236517205)) = A at *
  have hB : u6 ((A &&& 3689348814741910323) + (xushr A 2 &&& 3689348814741910323)) = pq2 (mkb 0x33 8) (u6 A) ∧ u6 ((A &&& 3689348814741910323) + (xushr A 2 &&& 3689348814741910323)) ≤ 7378697629483820646 := by
    have e1 : u6 (A &&& 3689348814741910323) = (u6 A &&& mkb 0x33 8) := by rw [u6_and, u6_c3]
    have e2 : u6 (xushr A 2 &&& 3689348814741910323) = (u6 A / 4 &&& mkb 0x33 8) := by rw [u6_and, u6_sh (by decide) s2, u6_c3]
    have l1 : (u6 A &&& mkb 0x33 8) ≤ mkb 0x33 8 := Nat.and_le_right
    have l2 : (u6 A / 4 &&& mkb 0x33 8) ≤ mkb 0x33 8 := Nat.and_le_right
    have l3 := m3_v
    rw [u6_add (by rw [e1, e2]; omega), e1, e2]
    exact ⟨rfl, by omega⟩
  obtain ⟨hB, hB2⟩ := hB
  rw [hA] at hB
  generalize ((A &&& 3689348814741910323) + (xushr A 2 &&& 3689348814741910323)) = B at *
  have hC : u6 ((B + xushr B 4) &&& 1085102592571150095) = bsum 8 N ∧ u6 ((B + xushr B 4) &&& 1085102592571150095) ≤ 1085102592571150095 := by
    have e2 : u6 (xushr B 4) = u6 B / 16 := u6_sh (by decide) s4
    have e3 : u6 (B + xushr B 4) = u6 B + u6 B / 16 := by rw [u6_add (by rw [e2]; omega), e2]
    have l3 := mf_v
    have l1 : (u6 B + u6 B / 16 &&& mkb 0x0f 8) ≤ mkb 0x0f 8 := Nat.and_le_right
    rw [u6_and, e3, u6_cf]
    refine ⟨?_, by omega⟩
    rw [← pq_all, ← hB]
    rfl
  obtain ⟨hC, hC2⟩ := hC
  generalize ((B + xushr B 4) &&& 1085102592571150095) = C at *
  have hD : u6 (C + xushr C 8) = u6 C + u6 C / 256 := by
    have e2 : u6 (xushr C 8) = u6 C / 256 := u6_sh (by decide) s8
    rw [u6_add (by rw [e2]; omega), e2]
  generalize (C + xushr C 8) = Dv at *
  have hE : u6 (Dv + xushr Dv 16) = u6 Dv + u6 Dv / 65536 := by
    have e2 : u6 (xushr Dv 16) = u6 Dv / 65536 := u6_sh (by decide) s16
    rw [u6_add (by rw [e2]; omega), e2]
  generalize (Dv + xushr Dv 16) = Ev at *
  have hF : u6 (Ev + xushr Ev 32) = u6 Ev + u6 Ev / 4294967296 := by
    have e2 : u6 (xushr Ev 32) = u6 Ev / 4294967296 := u6_sh (by decide) s32
    rw [u6_add (by rw [e2]; omega), e2]
  generalize (Ev + xushr Ev 32) = Fv at *
  rw [pc_end, hF, hE, hD, pop_fin N hC]
end BCN
section NB
/-- the facts of a page, from a on, k of them looked at -/
def pg (P : Nat → Int32) (p : Int32) : Nat → Nat → List Nat
  | 0, _ => []
  | k + 1, a => if P a = p then a :: pg P p k (a + 1) else pg P p k (a + 1)
/-- does f go with the lines behind it -/
def nbw (L W : Nat → Nat) (f l : Nat) (r0 r1 : Nat × Nat × List Nat) : Bool := decide (L f ≤ l ∧ (r0.1 < W f + r1.1 ∨ (r0.1 = W f + r1.1 ∧ L f + r1.2.1 ≤ r0.2.1)))
/-- worth, length, lines kept -/
def nb (L W : Nat → Nat) : List Nat → Nat → Nat × Nat × List Nat
  | [], _ => (0, 0, [])
  | f :: fs, l => if nbw L W f l (nb L W fs l) (nb L W fs (l - L f)) then (W f + (nb L W fs (l - L f)).1, L f + (nb L W fs (l - L f)).2.1, f :: (nb L W fs (l - L f)).2.2) else nb L W fs l
theorem nb_s {L W : Nat → Nat} {f l : Nat} {fs : List Nat} : nb L W (f :: fs) l = if nbw L W f l (nb L W fs l) (nb L W fs (l - L f)) then (W f + (nb L W fs (l - L f)).1, L f + (nb L W fs (l - L f)).2.1, f :: (nb L W fs (l - L f)).2.2) else nb L W fs l := rfl
theorem nb_rg {L W : Nat → Nat} : ∀ (fs : List Nat), (∀ f ∈ fs, W f ≤ 999) → ∀ l, (nb L W fs l).2.1 ≤ l ∧ (nb L W fs l).1 ≤ 999 * fs.length ∧ ∀ x ∈ (nb L W fs l).2.2, x ∈ fs
  | [], _, l => ⟨Nat.zero_le _, Nat.zero_le _, fun x h => h⟩
  | f :: fs, h, l => by
    have h1 := nb_rg (L := L) fs (fun x hx => h x (List.mem_cons_of_mem _ hx)) l
    have h2 := nb_rg (L := L) fs (fun x hx => h x (List.mem_cons_of_mem _ hx)) (l - L f)
    have h3 := h f (List.mem_cons_self ..)
    unfold nb
    rw [List.length_cons]
    split
    · rename_i w
      have w' := (of_decide_eq_true w).1
      refine ⟨?_, ?_, fun x hx => ?_⟩
      · show L f + (nb L W fs (l - L f)).2.1 ≤ l
        omega
      · show W f + (nb L W fs (l - L f)).1 ≤ _
        rw [Nat.mul_add]; omega
      · rcases List.mem_cons.mp hx with e | e
        · rw [e]; exact List.mem_cons_self ..
        · exact List.mem_cons_of_mem _ (h2.2.2 x e)
    · refine ⟨h1.1, by rw [Nat.mul_add]; omega, fun x hx => List.mem_cons_of_mem _ (h1.2.2 x hx)⟩
def msk : List Nat → Nat
  | [] => 0
  | f :: fs => msk fs ||| 2 ^ f
theorem msk_b : ∀ (fs : List Nat) (i : Nat), (msk fs).testBit i = decide (i ∈ fs)
  | [], i => by unfold msk; rw [Nat.zero_testBit]; simp
  | f :: fs, i => by
    unfold msk
    rw [Nat.testBit_or, msk_b fs i, Nat.testBit_two_pow]
    by_cases h : i ∈ fs <;> by_cases g : f = i <;> simp [h, g, eq_comm]
/-- the walk over the page -/
def wk (L W : Nat → Nat) (f : Nat) : List Nat → Nat → Nat → Nat
  | [], _, _ => 0
  | g :: gs, l, c => if nbw L W g l (nb L W gs l) (nb L W gs (l - L g)) then (if g = f then c + 1 else wk L W f gs (l - L g) (c + 1)) else (if g = f then 0 else wk L W f gs l c)
theorem wk_s {L W : Nat → Nat} {f g l c : Nat} {gs : List Nat} : wk L W f (g :: gs) l c = if nbw L W g l (nb L W gs l) (nb L W gs (l - L g)) then (if g = f then c + 1 else wk L W f gs (l - L g) (c + 1)) else (if g = f then 0 else wk L W f gs l c) := rfl
theorem wk_eq {L W : Nat → Nat} {f : Nat} : ∀ (fs : List Nat) (a l c : Nat), (∀ x ∈ fs, a ≤ x ∧ W x ≤ 999) → fs.Pairwise (· < ·) → wk L W f fs l c = if f ∈ (nb L W fs l).2.2 then c + xct (fun i => decide (i ∈ (nb L W fs l).2.2)) (f + 1) else 0
  | [], a, l, c, _, _ => by
    rw [if_neg (fun w => by cases w)]; rfl
  | g :: gs, a, l, c, h, hs => by
    obtain ⟨q1, q2⟩ := List.pairwise_cons.mp hs
    have hh : ∀ x ∈ gs, g + 1 ≤ x ∧ W x ≤ 999 := fun x hx => ⟨q1 x hx, (h x (List.mem_cons_of_mem _ hx)).2⟩
    have r1 := fun l c => wk_eq (L := L) (W := W) (f := f) gs (g + 1) l c hh q2
    have r2 := fun l => (nb_rg (L := L) (W := W) gs (fun x hx => (hh x hx).2) l).2.2
    rw [wk_s, nb_s]
    by_cases w : nbw L W g l (nb L W gs l) (nb L W gs (l - L g)) = true
    · rw [if_pos w, if_pos w]
      dsimp only
      generalize hch : (nb L W gs (l - L g)).2.2 = ch
      have rc : ∀ x ∈ ch, g < x := fun x hx => (hh x (r2 (l - L g) x (hch ▸ hx))).1
      have hn : g ∉ ch := fun hx => absurd (rc g hx) (Nat.lt_irrefl _)
      have hup : g ≤ f → xct (fun i => decide (i ∈ g :: ch)) (f + 1) = xct (fun i => decide (i ∈ ch)) (f + 1) + 1 := fun hgf => xct_up (l := g) (by simp [hn]) (by simp) (f + 1) (fun k _ hk => by simp [hk]) (by omega)
      by_cases e : g = f
      · rw [if_pos e, if_pos (by rw [e]; exact List.mem_cons_self ..), hup (by omega)]
        have z : xct (fun i => decide (i ∈ ch)) (f + 1) = 0 := by
          have := xct_ext (P := fun i => decide (i ∈ ch)) (a := 0) (f + 1) (fun j _ hj => decide_eq_false (fun hx => by have := rc j hx; omega))
          rw [Nat.zero_add] at this
          exact this
        omega
      · rw [if_neg e, r1, hch]
        by_cases m1 : f ∈ ch
        · have := rc f m1
          rw [if_pos m1, if_pos (List.mem_cons_of_mem _ m1), hup (by omega)]
          omega
        · rw [if_neg m1, if_neg (fun w => by rcases List.mem_cons.mp w with u | u; exact e u.symm; exact m1 u)]
    · rw [if_neg w, if_neg w]
      by_cases e : g = f
      · rw [if_pos e, if_neg]
        intro hx
        have := (hh f (r2 l f hx)).1
        omega
      · rw [if_neg e, r1]
theorem pg_mem {P : Nat → Int32} {p : Int32} : ∀ k a x, x ∈ pg P p k a → a ≤ x ∧ x < a + k ∧ P x = p
  | 0, _, _, h => by cases h
  | k + 1, a, x, h => by
    unfold pg at h
    split at h
    · rename_i w
      rcases List.mem_cons.mp h with e | e
      · subst e; exact ⟨Nat.le_refl _, by omega, w⟩
      · have := pg_mem k (a + 1) x e; exact ⟨by omega, by omega, this.2.2⟩
    · have := pg_mem k (a + 1) x h; exact ⟨by omega, by omega, this.2.2⟩
theorem pg_pw {P : Nat → Int32} {p : Int32} : ∀ k a, (pg P p k a).Pairwise (· < ·)
  | 0, _ => List.Pairwise.nil
  | k + 1, a => by
    unfold pg
    split
    · exact List.pairwise_cons.mpr ⟨fun x hx => by have := pg_mem k (a + 1) x hx; omega, pg_pw k (a + 1)⟩
    · exact pg_pw k (a + 1)
theorem pg_len {P : Nat → Int32} {p : Int32} : ∀ k a, (pg P p k a).length ≤ k
  | 0, _ => Nat.le_refl _
  | k + 1, a => by
    have := pg_len (P := P) (p := p) k (a + 1)
    unfold pg
    split
    · rw [List.length_cons]; omega
    · omega
end NB
