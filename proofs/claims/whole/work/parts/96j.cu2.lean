section CV
variable {c : Nat → Nat} {tp : Nat}
def mTk1 (m : xMem) (j : Nat) (t : xTk) : Prop := m.1 90 j = Int32.ofNat t.1 ∧ ((t.2.1 = 1 ∧ (m.1 89 j = 4 ∨ (m.1 89 j = 1 ∧ ∀ w, w < 9 → m.2 91 j ≠ xm0.2 92 w))) ∨ (t.2.1 = 2 ∧ m.1 89 j = 2 ∧ m.2 91 j = t.2.2.toInt64) ∨ (sgn t.2.1 ∧ m.1 89 j = 3 ∧ m.2 91 j = (Int32.ofNat t.2.1).toInt64) ∨ (201 ≤ t.2.1 ∧ t.2.1 ≤ 209 ∧ m.1 89 j = 1 ∧ m.2 91 j = xm0.2 92 (t.2.1 - 201)))
def kf (j : Nat) (m m' : xMem) : Prop := (∀ b i, ¬ ((b = 89 ∨ b = 90) ∧ j ≤ i) → m'.1 b i = m.1 b i) ∧ (∀ b, b ≠ 91 → m'.2 b = m.2 b) ∧ ∀ i, i < j → m'.2 91 i = m.2 91 i
theorem m_tok {C : Int32 → xMem → Option (Int32 × xMem)} {m : xMem} (T : tpM c tp m.1) {a j fk : Nat} (ha : a < tp) (hj : j ≤ 600) (hb : ¬ isb c a = true) : ∃ s v, L_X10_cutAll_17 C (fk + 1) (Int32.ofNat j) (Int32.ofNat a) m = L_X10_cutAll_17 C fk (Int32.ofNat (j + 1)) (Int32.ofNat (tokA c tp a).2) (xst (xst m.1 90 j (Int32.ofNat a)) 89 j s, xsl m.2 91 j v) ∧ mTk1 (xst (xst m.1 90 j (Int32.ofNat a)) 89 j s, xsl m.2 91 j v) j (tokA c tp a).1 := by
  have t2 := T.2.1
  have t1' : m.1 am fGuideBookModel_size = Int32.ofNat tp := T.1
  have q : ¬ Int32.ofNat tp ≤ Int32.ofNat a := fun w => by have := (o_le (by omega) (by omega)).mp w; omega
  have i1 : xin (Int32.ofNat a) 600 = true := o_in (by omega) (by omega)
  have n1 : (Int32.ofNat a).toNatClampNeg = a := o_nat (by omega)
  have i2 : xin (Int32.ofNat j) 602 = true := o_in (by omega) (by omega)
  have n2 : (Int32.ofNat j).toNatClampNeg = j := o_nat (by omega)
  obtain ⟨s1, s2⟩ := T.2.2 a ha
  have s1' : m.1 am_tape a = Int32.ofNat (c a) := s1
  have hb' : ¬ (c a = 10 ∨ c a = 32) := fun u => hb (decide_eq_true u)
  have e10 : ¬ Int32.ofNat (c a) = 10 := fun u => hb' (Or.inl ((o_eq (b := 10) (by omega) (by omega)).mp u))
  have e32 : ¬ Int32.ofNat (c a) = 32 := fun u => hb' (Or.inr ((o_eq (b := 32) (by omega) (by omega)).mp u))
  have d10 : ¬ ((1 : Int32) = 0) := by decide
  have c90 : ∀ s, xst (xst m.1 90 j (Int32.ofNat a)) 89 j s 90 j = Int32.ofNat a := fun s => (xst_n (by omega)).trans xst_s
  have c89 : ∀ s, xst (xst m.1 90 j (Int32.ofNat a)) 89 j s 89 j = s := fun s => xst_s
  have c91 : ∀ v, xsl m.2 91 j v 91 j = v := fun v => xsl_s
  have Tp : tpM c tp (xst m.1 90 j (Int32.ofNat a)) := ⟨(xst_n (by omega)).trans T.1, t2, fun k hk => ⟨(xst_n (by omega)).trans (T.2.2 k hk).1, (T.2.2 k hk).2⟩⟩
  unfold tokA
  by_cases wl' : isl c a = true
  · have w := of_decide_eq_true wl'
    rw [if_pos wl']
    dsimp only
    have hr := rend_le (p := isl c) (tp - a) a
    have hin := rend_in (p := isl c) (tp - a) a
    have hlt := fun C => m_let (m := (xst m.1 90 j (Int32.ofNat a), m.2)) Tp (x1 := Int32.ofNat j) (a0 := a) (C := C) (tp - a) a xfuel 0 (by omega) (by rw [xfuel_eq]; omega) (Nat.le_refl _) (Or.inl (by rw [Nat.sub_self]; decide))
    obtain ⟨v, r1, r2⟩ := hlt (fun x2_33 l5_34 m_35 => (
              if (x2_33 - Int32.ofNat a) ≤ (8 : Int32) then (
                if xin (Int32.ofNat j) 602 = true then (
                J_X10_cutAll_265 (fun y_56 y_57 m_58 => L_X10_cutAll_17 C fk y_56 y_57 m_58) C (Int32.ofNat j) (x2_33) (l5_34) (xst m_35.1 am_sort (Int32.ofNat j).toNatClampNeg (1 : Int32), m_35.2))
                else none)
              else (
                if xin (Int32.ofNat j) 602 = true then (
                J_X10_cutAll_265 (fun y_59 y_60 m_61 => L_X10_cutAll_17 C fk y_59 y_60 m_61) C (Int32.ofNat j) (x2_33) (l5_34) (xst m_35.1 am_sort (Int32.ofNat j).toNatClampNeg (4 : Int32), m_35.2))
                else none)))
    rw [show Int64.ofNat 0 = 0 from rfl] at r1
    rw [L_X10_cutAll_17, t1', if_neg q, if_pos i1, n1, s1', if_neg e10, if_neg e32, if_pos i2, m_isL s2, Option.bind_some]
    dsimp only
    rw [if_pos w, if_neg d10, n2]
    rw [n2] at r1
    rw [r1]
    generalize rend (isl c) (tp - a) a = e at *
    have l8 : (Int32.ofNat e - Int32.ofNat a ≤ 8) ↔ e - a ≤ 8 := by rw [o_sub hr.1]; exact o_le (b := 8) (by omega) (by omega)
    have hmem := wl_mem (c := c) (p := isl c) (fun j u => of_decide_eq_true u) (e - a) a (fun j h1 h2 => hin j h1 (by omega))
    unfold J_X10_cutAll_265
    rw [n2]
    by_cases w8 : e - a ≤ 8
    · refine ⟨1, Int64.ofNat v, ?_, c90 1, ?_⟩
      · rw [if_pos (l8.mpr w8), if_pos i2, if_pos i2, o_succ]
      · have hv := r2 w8
        have hlen := wl_len (c := c) (e - a) a
        have hvlt : v < 9000000000000 := by
          have := vl_lt (wl c (e - a) a) 0 0 hmem (by decide)
          rw [hlen, Nat.zero_add, ← hv] at this
          have h37 : 37 ^ (e - a) ≤ 37 ^ 8 := Nat.pow_le_pow_right (by omega) w8
          have : (37 : Nat) ^ 8 = 3512479453921 := by decide
          omega
        rcases wcd_c (wl c (e - a) a) with ⟨k1, k2⟩ | ⟨w', hw', k1, k2⟩
        · refine Or.inl ⟨k1, Or.inr ⟨c89 1, fun x hx u0 => k2 x hx ?_⟩⟩
          have u : Int64.ofNat v = xm0.2 92 x := (c91 (Int64.ofNat v)).symm.trans u0
          obtain ⟨g1, g2, g3, g4⟩ := wds_g ⟨x, hx⟩
          dsimp only at g1 g2 g3 g4
          rw [← g2] at u
          have := i64_inj (by omega) (by omega) u
          rw [hv] at this
          exact vl_inj hmem g1 this
        · refine Or.inr (Or.inr (Or.inr ⟨by show 201 ≤ wcd (wl c (e - a) a); omega, by show wcd (wl c (e - a) a) ≤ 209; omega, c89 1, ?_⟩))
          show xsl m.2 91 j (Int64.ofNat v) 91 j = xm0.2 92 (wcd (wl c (e - a) a) - 201)
          rw [c91, k1, hv, k2, show 201 + w' - 201 = w' by omega]
          exact (wds_g ⟨w', hw'⟩).2.1
    · refine ⟨4, Int64.ofNat v, ?_, c90 4, Or.inl ⟨?_, Or.inl (c89 4)⟩⟩
      · rw [if_neg (fun u => w8 (l8.mp u)), if_pos i2, if_pos i2, o_succ]
      · rcases wcd_c (wl c (e - a) a) with ⟨k1, k2⟩ | ⟨w', hw', k1, k2⟩
        · exact k1
        · exfalso
          have := congrArg List.length k2
          rw [wl_len] at this
          have g3 := (wds_g ⟨w', hw'⟩).2.2.1
          dsimp only at g3
          omega
  · have w : ¬ (97 ≤ c a ∧ c a ≤ 122) := fun u => wl' (decide_eq_true u)
    rw [if_neg wl']
    by_cases wd : isd c a = true
    · have w2 := of_decide_eq_true wd
      rw [if_pos wd]
      dsimp only
      have hr := rend_le (p := isd c) (tp - a) a
      have hin := rend_in (p := isd c) (tp - a) a
      obtain ⟨v, r1, r2⟩ := m_dig (m := (xst m.1 90 j (Int32.ofNat a), m.2)) Tp (x1 := Int32.ofNat j) (a0 := a) (C := fun x2_18 l5_19 m_20 => (
                if (x2_18 - Int32.ofNat a) ≤ (4 : Int32) then (
                  if xin (Int32.ofNat j) 602 = true then (
                  J_X10_cutAll_265 (fun y_50 y_51 m_52 => L_X10_cutAll_17 C fk y_50 y_51 m_52) C (Int32.ofNat j) (x2_18) (l5_19) (xst m_20.1 am_sort (Int32.ofNat j).toNatClampNeg (2 : Int32), m_20.2))
                  else none)
                else (
                  if xin (Int32.ofNat j) 602 = true then (
                  J_X10_cutAll_265 (fun y_53 y_54 m_55 => L_X10_cutAll_17 C fk y_53 y_54 m_55) C (Int32.ofNat j) (x2_18) (l5_19) (xst m_20.1 am_sort (Int32.ofNat j).toNatClampNeg (4 : Int32), m_20.2))
                  else none))) (tp - a) a xfuel 0 (by omega) (by rw [xfuel_eq]; omega) (Nat.le_refl _) (Or.inl (by rw [Nat.sub_self]; decide))
      rw [show Int64.ofNat 0 = 0 from rfl] at r1
      rw [L_X10_cutAll_17, t1', if_neg q, if_pos i1, n1, s1', if_neg e10, if_neg e32, if_pos i2, m_isL s2, Option.bind_some]
      dsimp only
      rw [if_neg w, if_pos rfl, m_isD s2, Option.bind_some]
      dsimp only
      rw [if_pos w2, if_neg d10, n2]
      rw [n2] at r1
      rw [r1]
      generalize rend (isd c) (tp - a) a = e at *
      have l4 : (Int32.ofNat e - Int32.ofNat a ≤ 4) ↔ e - a ≤ 4 := by rw [o_sub hr.1]; exact o_le (b := 4) (by omega) (by omega)
      unfold J_X10_cutAll_265
      rw [n2]
      by_cases w4 : e - a ≤ 4
      · refine ⟨2, Int64.ofNat v, ?_, ?_, ?_⟩
        · rw [if_pos (l4.mpr w4), if_pos i2, if_pos i2, o_succ]
        · rw [if_pos w4]; exact c90 2
        · rw [if_pos w4]
          refine Or.inr (Or.inl ⟨rfl, c89 2, ?_⟩)
          show xsl m.2 91 j (Int64.ofNat v) 91 j = (Int32.ofNat (nmb c (e - a) a 0)).toInt64
          rw [c91]
          have hv := r2 w4
          have hb9 := nmb_rg (c := c) (e - a) a 0 (fun i h1 h2 => by have := of_decide_eq_true (hin i h1 (by omega)); omega)
          have hp4 : 10 ^ (e - a) ≤ 10 ^ 4 := Nat.pow_le_pow_right (by omega) w4
          rw [← hv]
          have hv4 : v ≤ 9999 := by rw [hv]; omega
          rw [← Int64.toInt_inj, Int32.toInt_toInt64, o_toInt (by omega), Int64.toInt_ofNat_of_lt (by omega)]
      · refine ⟨4, Int64.ofNat v, ?_, ?_, ?_⟩
        · rw [if_neg (fun u => w4 (l4.mp u)), if_pos i2, if_pos i2, o_succ]
        · rw [if_neg w4]; exact c90 4
        · rw [if_neg w4]; exact Or.inl ⟨rfl, Or.inl (c89 4)⟩
    · have w2 : ¬ (48 ≤ c a ∧ c a ≤ 57) := fun u => wd (decide_eq_true u)
      rw [if_neg wd]
      dsimp only
      have hsg : ∃ z : Int32, F_X10_isSignOf (Int32.ofNat (c a)) (xst m.1 90 j (Int32.ofNat a), m.2) = some (z, (xst m.1 90 j (Int32.ofNat a), m.2)) ∧ (z = 0 ↔ ¬ (c a = 40 ∨ c a = 41 ∨ c a = 43 ∨ c a = 45 ∨ c a = 59 ∨ c a = 60 ∨ c a = 61)) := by
        have e : ∀ x : Nat, x < 300 → ((Int32.ofNat (c a) = Int32.ofNat x) ↔ c a = x) := fun x hx => o_eq (by omega) (by omega)
        have y : ∀ x : Nat, x < 300 → c a = x → Int32.ofNat (c a) = Int32.ofNat x := fun x hx u => by rw [u]
        have fin : (c a = 40 ∨ c a = 41 ∨ c a = 43 ∨ c a = 45 ∨ c a = 59 ∨ c a = 60 ∨ c a = 61) → ∃ z : Int32, J_X10_isSignOf_42 (xst m.1 90 j (Int32.ofNat a), m.2) = some (z, (xst m.1 90 j (Int32.ofNat a), m.2)) ∧ (z = 0 ↔ ¬ (c a = 40 ∨ c a = 41 ∨ c a = 43 ∨ c a = 45 ∨ c a = 59 ∨ c a = 60 ∨ c a = 61)) := fun g => ⟨1, rfl, fun u => absurd u d10, fun u => absurd g u⟩
        unfold F_X10_isSignOf
        rw [show (40 : Int32) = Int32.ofNat 40 from rfl, show (41 : Int32) = Int32.ofNat 41 from rfl, show (43 : Int32) = Int32.ofNat 43 from rfl, show (45 : Int32) = Int32.ofNat 45 from rfl, show (59 : Int32) = Int32.ofNat 59 from rfl, show (60 : Int32) = Int32.ofNat 60 from rfl, show (61 : Int32) = Int32.ofNat 61 from rfl]
        by_cases g40 : c a = 40
        · rw [if_pos (y 40 (by omega) g40)]
          exact fin (by omega)
        rw [if_neg (fun u => g40 ((e 40 (by omega)).mp u))]
        by_cases g41 : c a = 41
        · rw [if_pos (y 41 (by omega) g41)]
          exact fin (by omega)
        rw [if_neg (fun u => g41 ((e 41 (by omega)).mp u))]
        by_cases g59 : c a = 59
        · rw [if_pos (y 59 (by omega) g59)]
          exact fin (by omega)
        rw [if_neg (fun u => g59 ((e 59 (by omega)).mp u))]
        by_cases g61 : c a = 61
        · rw [if_pos (y 61 (by omega) g61)]
          exact fin (by omega)
        rw [if_neg (fun u => g61 ((e 61 (by omega)).mp u))]
        by_cases g60 : c a = 60
        · rw [if_pos (y 60 (by omega) g60)]
          exact fin (by omega)
        rw [if_neg (fun u => g60 ((e 60 (by omega)).mp u))]
        by_cases g43 : c a = 43
        · rw [if_pos (y 43 (by omega) g43)]
          exact fin (by omega)
        rw [if_neg (fun u => g43 ((e 43 (by omega)).mp u))]
        by_cases g45 : c a = 45
        · rw [if_pos (y 45 (by omega) g45)]
          exact fin (by omega)
        rw [if_neg (fun u => g45 ((e 45 (by omega)).mp u))]
        exact ⟨0, rfl, fun _ => by omega, fun _ => rfl⟩
      obtain ⟨z, z1, z2⟩ := hsg
      have start : L_X10_cutAll_17 C (fk + 1) (Int32.ofNat j) (Int32.ofNat a) m = (if z = 0 then L_X10_cutAll_17 C fk (Int32.ofNat (j + 1)) (Int32.ofNat (a + 1)) (xst (xst m.1 90 j (Int32.ofNat a)) 89 j 4, xsl m.2 91 j (Int32.ofNat (c a)).toInt64) else L_X10_cutAll_17 C fk (Int32.ofNat (j + 1)) (Int32.ofNat (a + 1)) (xst (xst m.1 90 j (Int32.ofNat a)) 89 j 3, xsl m.2 91 j (Int32.ofNat (c a)).toInt64)) := by
        rw [L_X10_cutAll_17, t1', if_neg q, if_pos i1, n1, s1', if_neg e10, if_neg e32, if_pos i2, n2, m_isL s2, Option.bind_some]
        dsimp only
        rw [if_neg w, if_pos rfl, m_isD s2, Option.bind_some]
        dsimp only
        rw [if_neg w2, if_pos rfl]
        show ((F_X10_isSignOf (Int32.ofNat (c a)) (xst m.1 90 j (Int32.ofNat a), m.2)).bind _) = _
        rw [z1, Option.bind_some]
        dsimp only
        by_cases z0 : z = 0
        · rw [if_pos z0, if_pos z0, if_pos i2]
          unfold J_X10_cutAll_265
          rw [if_pos i2, n2, o_succ, o_succ]
        · rw [if_neg z0, if_neg z0, if_pos i2]
          unfold J_X10_cutAll_265
          rw [if_pos i2, n2, o_succ, o_succ]
      by_cases g : c a = 40 ∨ c a = 41 ∨ c a = 43 ∨ c a = 45 ∨ c a = 59 ∨ c a = 60 ∨ c a = 61
      · refine ⟨3, (Int32.ofNat (c a)).toInt64, ?_, c90 3, ?_⟩
        · rw [start, if_neg (fun u => z2.mp u g)]
        · rw [if_pos g]
          exact Or.inr (Or.inr (Or.inl ⟨g, c89 3, c91 (Int32.ofNat (c a)).toInt64⟩))
      · refine ⟨4, (Int32.ofNat (c a)).toInt64, ?_, c90 4, ?_⟩
        · rw [start, if_pos (z2.mpr g)]
        · rw [if_neg g]
          exact Or.inl ⟨rfl, Or.inl (c89 4)⟩
theorem m_cut {C : Int32 → xMem → Option (Int32 × xMem)} : ∀ (n a j fk : Nat) (m : xMem), tp ≤ a + n → a ≤ tp → tp - a < fk → j ≤ a → tpM c tp m.1 → ∃ m', L_X10_cutAll_17 C fk (Int32.ofNat j) (Int32.ofNat a) m = C (Int32.ofNat (j + (tkl c tp n a).length)) m' ∧ kf j m m' ∧ ∀ i t, (tkl c tp n a)[i]? = some t → mTk1 m' (j + i) t
  | n, a, j, fk, m, hn, hat, hfk, hja, T => by
    have t2 := T.2.1
    have t1' : m.1 am fGuideBookModel_size = Int32.ofNat tp := T.1
    by_cases ha : a < tp
    · obtain ⟨n, rfl⟩ : ∃ k, n = k + 1 := ⟨n - 1, by omega⟩
      obtain ⟨fk, rfl⟩ : ∃ k, fk = k + 1 := ⟨fk - 1, by omega⟩
      have q : ¬ Int32.ofNat tp ≤ Int32.ofNat a := fun w => by have := (o_le (by omega) (by omega)).mp w; omega
      have i1 : xin (Int32.ofNat a) 600 = true := o_in (by omega) (by omega)
      have n1 : (Int32.ofNat a).toNatClampNeg = a := o_nat (by omega)
      obtain ⟨s1, s2⟩ := T.2.2 a ha
      have s1' : m.1 am_tape a = Int32.ofNat (c a) := s1
      have etk : tkl c tp (n + 1) a = if tp ≤ a then [] else if isb c a then tkl c tp n (a + 1) else (tokA c tp a).1 :: tkl c tp n (tokA c tp a).2 := rfl
      rw [if_neg (show ¬ tp ≤ a by omega)] at etk
      by_cases wb : isb c a = true
      · rw [if_pos wb] at etk
        rw [etk]
        obtain ⟨m', r1, r2, r3⟩ := m_cut (C := C) n (a + 1) j fk m (by omega) (by omega) (by omega) (by omega) T
        refine ⟨m', ?_, r2, r3⟩
        rw [← r1, L_X10_cutAll_17, t1', if_neg q, if_pos i1, n1, s1']
        have hb := of_decide_eq_true wb
        by_cases g : c a = 10
        · rw [if_pos (by rw [g]; rfl)]
          unfold J_X10_cutAll_44
          rw [o_succ]
        · have g10 : ¬ Int32.ofNat (c a) = 10 := fun u => g ((o_eq (b := 10) (by omega) (by omega)).mp u)
          rw [if_neg g10, if_pos (by rw [show c a = 32 by omega]; rfl)]
          unfold J_X10_cutAll_44
          rw [o_succ]
      · rw [if_neg wb] at etk
        rw [etk]
        obtain ⟨s, v, r1, r2⟩ := m_tok (C := C) (fk := fk) (j := j) T ha (by omega) wb
        obtain ⟨x1, x2⟩ := tokA_nx (c := c) (tp := tp) ha
        generalize hm1 : ((xst (xst m.1 90 j (Int32.ofNat a)) 89 j s, xsl m.2 91 j v) : xMem) = m1 at *
        have F1 : ∀ b i, ¬ ((b = 89 ∨ b = 90) ∧ i = j) → m1.1 b i = m.1 b i := fun b i u => by rw [← hm1]; exact (xst_n (by omega)).trans (xst_n (by omega))
        have G1 : ∀ b i, ¬ (b = 91 ∧ i = j) → m1.2 b i = m.2 b i := fun b i u => by rw [← hm1]; exact xsl_n u
        have T1 : tpM c tp m1.1 := ⟨(F1 87 3 (by omega)).trans T.1, t2, fun k hk => ⟨(F1 88 k (by omega)).trans (T.2.2 k hk).1, (T.2.2 k hk).2⟩⟩
        obtain ⟨m', u1, u2, u3⟩ := m_cut (C := C) n (tokA c tp a).2 (j + 1) fk m1 (by omega) x2 (by omega) (by omega) T1
        refine ⟨m', ?_, ⟨fun b i w => (u2.1 b i (by omega)).trans (F1 b i (by omega)), fun b w => (u2.2.1 b w).trans (funext fun i => G1 b i (by omega)), fun i w => (u2.2.2 i (by omega)).trans (G1 91 i (by omega))⟩, fun i t ht => ?_⟩
        · rw [r1, u1, List.length_cons, show j + 1 + (tkl c tp n (tokA c tp a).2).length = j + ((tkl c tp n (tokA c tp a).2).length + 1) by omega]
        · cases i with
          | zero =>
            have : t = (tokA c tp a).1 := by simpa using ht.symm
            rw [this, Nat.add_zero]
            unfold mTk1 at r2 ⊢
            rw [u2.1 90 j (by omega), u2.1 89 j (by omega), u2.2.2 j (by omega)]
            exact r2
          | succ i =>
            have := u3 i t (by simpa using ht)
            rw [show j + 1 + i = j + (i + 1) by omega] at this
            exact this
    · have e : a = tp := by omega
      subst e
      obtain ⟨fk, rfl⟩ : ∃ k, fk = k + 1 := ⟨fk - 1, by omega⟩
      have hz : tkl c a n a = [] := by
        cases n with
        | zero => rfl
        | succ n => show (if a ≤ a then [] else _) = []; rw [if_pos (Nat.le_refl _)]
      rw [hz]
      refine ⟨m, ?_, ⟨fun _ _ _ => rfl, fun _ _ => rfl, fun _ _ => rfl⟩, fun i t ht => by cases ht⟩
      rw [L_X10_cutAll_17, t1', if_pos (Int32.le_refl _)]
      rfl
end CV
