theorem cAt_0 {ls : List xLine} : cAt ls 0 = 0 := by cases ls <;> rfl
theorem mAt_0 {ls : List xLine} : mAt ls 0 = 0 := by cases ls <;> rfl
section SB
variable {t nf nw nl ne tp : Nat} {n : Nat → Nat}
/-- rows of the class's scratch and the reference's -/
theorem c_starsOf {m : xMem} (H : xRel t nf nw nl ne tp n m.1) {ls : List xLine} (hG : txG ls) (hC : txC m.1 41 42 43 44 ls) {p : Nat} (hp : p < 10) : ∃ m', F_X9_starsOf (Int32.ofNat p) m = some (stv (nmv m.1 nf p) ls, m') ∧ m'.2 = m.2 ∧ ∀ b j, b ≠ 45 → b ≠ 86 → m'.1 b j = m.1 b j := by
  have hb := H.1.1
  have i1 : xin (Int32.ofNat p) 10 = true := o_in (by omega) (by omega)
  have n1 : (Int32.ofNat p).toNatClampNeg = p := o_nat (by omega)
  obtain ⟨r, hr⟩ : ∃ r, r = dsc (m.1 (19 + p)) (scl m.1 p) 5 0 0 0 100 0 := ⟨_, rfl⟩
  have hr5 : r.1 ≤ 5 := by
    rw [hr]
    exact (m_ds (m := m) H.2.2.2.2.2.2.1 hp (c := fun _ _ _ _ _ => none) 5 0 xfuel 0 0 100 0 0 0 (by omega) (by decide) (by omega) (Or.inl ⟨rfl, rfl, rfl, rfl, rfl⟩)).2
  -- describe
  obtain ⟨I1, hI1⟩ : ∃ I1 : xI, I1 = xst (xst (xst (xst m.1 ag_named 0 (Int32.ofNat r.1)) ag_named 1 (if r.1 = 0 then 0 else r.2.1 / Int32.ofNat r.1)) ag_named 2 (if r.1 = 0 then 0 else r.2.2.1)) ag_named 3 r.2.2.2 := ⟨_, rfl⟩
  have hde : F_X4_describe (Int32.ofNat p) m = some (0, (I1, m.2)) := by
    unfold F_X4_describe
    refine Eq.trans (c_ds hp 5 0 xfuel 0 0 100 0 (by omega) (by decide)) ?_
    rw [← hr, hI1]
    have z0 : (0 : Int32).toNatClampNeg = 0 := rfl
    have z1 : (1 : Int32).toNatClampNeg = 1 := rfl
    have z2 : (2 : Int32).toNatClampNeg = 2 := rfl
    have z3 : (3 : Int32).toNatClampNeg = 3 := rfl
    have x0 : xin (0 : Int32) 6 = true := rfl
    have x1 : xin (1 : Int32) 6 = true := rfl
    have x2 : xin (2 : Int32) 6 = true := rfl
    have x3 : xin (3 : Int32) 6 = true := rfl
    by_cases w : r.1 = 0
    · have w' : Int32.ofNat r.1 = 0 := by rw [w]; rfl
      simp only [if_pos x0, if_pos x1, if_pos x2, if_pos x3, cut_v, Option.bind_some, if_pos w', if_pos w, z0, z1, z2, z3]
    · have w' : ¬ Int32.ofNat r.1 = 0 := fun u => w ((o_eq (b := 0) (by omega) (by omega)).mp u)
      simp only [if_pos x0, if_pos x1, if_pos x2, if_pos x3, cut_v, Option.bind_some, if_neg w', if_neg w, z0, z1, z2, z3]
  have fr1 : ∀ b j, b ≠ 86 → I1 b j = m.1 b j := by
    intro b j w
    rw [hI1, xst_n (a := ag_named) (fun u => w u.1), xst_n (a := ag_named) (fun u => w u.1), xst_n (a := ag_named) (fun u => w u.1), xst_n (a := ag_named) (fun u => w u.1)]
  have K1 : xKeep m (I1, m.2) := ⟨fun b j q => fr1 b j (fun w => by subst w; revert q; unfold xscr; simp), rfl⟩
  have hco : F_X2_countOf (Int32.ofNat p) (I1, m.2) = some (Int32.ofNat (xct (fun f => decide (m.1 ag_facts_place f = Int32.ofNat p)) nf), (I1, m.2)) := by
    have := c_cn (m := (I1, m.2)) (H.keep K1) p nf 0 xfuel (by omega) (by rw [xfuel_eq]; omega)
    have er : (I1, m.2).1 ag_facts_place = m.1 ag_facts_place := funext fun j => fr1 _ j (by decide)
    rw [er, ← o_zero] at this
    exact this
  obtain ⟨pv, hpv⟩ : ∃ pv : Int32, pv = if m.1 ag_praised p = 0 then 0 else 1 := ⟨_, rfl⟩
  obtain ⟨I2, hI2⟩ : ∃ I2 : xI, I2 = xst (xst I1 ag_named 4 (Int32.ofNat (xct (fun f => decide (m.1 ag_facts_place f = Int32.ofNat p)) nf))) ag_named 5 pv := ⟨_, rfl⟩
  have fr2 : ∀ b j, b ≠ 86 → I2 b j = m.1 b j := by
    intro b j w
    rw [hI2, xst_n (a := ag_named) (fun u => w u.1), xst_n (a := ag_named) (fun u => w u.1), fr1 b j w]
  have hN : ∀ k, k < 6 → I2 86 k = nmv m.1 nf p k := by
    intro k hk
    have : k = 0 ∨ k = 1 ∨ k = 2 ∨ k = 3 ∨ k = 4 ∨ k = 5 := by omega
    rw [hI2, hI1]
    rcases this with e | e | e | e | e | e <;> subst e
    · unfold nmv; rw [← hr]; rfl
    · unfold nmv; rw [← hr]; rfl
    · unfold nmv; rw [← hr]; rfl
    · unfold nmv; rw [← hr]; rfl
    · rfl
    · unfold nmv; rw [← hpv]; rfl
  have hC2 : txC I2 41 42 43 44 ls := by
    refine ⟨(fr2 41 _ (by decide)).trans hC.1, fun i l hl => ?_⟩
    obtain ⟨a1, a2, a3⟩ := hC.2 i l hl
    exact ⟨(fr2 43 i (by decide)).trans a1, (fr2 44 i (by decide)).trans a2, fun j t ht => (fr2 42 _ (by decide)).trans (a3 j t ht)⟩
  obtain ⟨m', s1, s2, s3⟩ := c_sf (N := nmv m.1 nf p) hG ls.length 0 xfuel (I2, m.2) (by omega) (by rw [xfuel_eq]; have := hG.1; omega) hC2 hN
  refine ⟨m', ?_, s2, fun b j w1 w2 => (s3 b j w1).trans (fr2 b j w2)⟩
  have hsf : F_X6_starsFor (I2, m.2) = some (stv (nmv m.1 nf p) ls, m') := by
    unfold F_X6_starsFor
    rw [List.drop_zero, cAt_0] at s1
    exact s1
  have x4 : xin (4 : Int32) 6 = true := rfl
  have x5 : xin (5 : Int32) 6 = true := rfl
  have z4 : (4 : Int32).toNatClampNeg = 4 := rfl
  have z5 : (5 : Int32).toNatClampNeg = 5 := rfl
  have hpr : xst I1 ag_named 4 (Int32.ofNat (xct (fun f => decide (m.1 ag_facts_place f = Int32.ofNat p)) nf)) ag_praised p = m.1 ag_praised p := by
    rw [xst_f (b := ag_praised) (by decide)]
    exact fr1 _ p (by decide)
  unfold F_X9_starsOf
  rw [hde, Option.bind_some]
  dsimp only
  rw [hco, Option.bind_some]
  dsimp only
  rw [if_pos x4, if_pos i1, z4, z5, n1, hpr]
  by_cases w : m.1 ag_praised p = 0
  · rw [if_pos w] at hpv ⊢
    rw [hpv] at hI2
    rw [if_pos x5, ← hI2, hsf, Option.bind_some]
  · rw [if_neg w] at hpv ⊢
    rw [hpv] at hI2
    rw [if_pos x5, ← hI2, hsf, Option.bind_some]
theorem m_starsOf {m : xMem} (H : xRel t nf nw nl ne tp n m.1) {ls : List xLine} {h : Nat} (hh : h = 0 ∨ h = 1) (hho : m.1 87 15 = Int32.ofNat h) (hG : txG ls) (hM : txM m.1 h ls) {p : Nat} (hp : p < 10) : ∃ m', F_X10_starsOf (Int32.ofNat p) m = some (stv (nmv m.1 nf p) ls, m') ∧ m'.2 = m.2 ∧ ∀ b j, b ≠ 101 → b ≠ 102 → m'.1 b j = m.1 b j := by
  obtain ⟨h1, h2, h3, h4, h5, h6, h7, h8, h9, h10⟩ := id H
  have hb := h1.1
  obtain ⟨-, ⟨a1, a2⟩, ⟨b1, b2⟩, ⟨c1, c2⟩, ⟨d1, d2⟩, e1, e2⟩ := id h1
  have i1 : xin (Int32.ofNat p) 10 = true := o_in (by omega) (by omega)
  have n1 : (Int32.ofNat p).toNatClampNeg = p := o_nat (by omega)
  obtain ⟨r, hr⟩ : ∃ r, r = dsc (m.1 (19 + p)) (scl m.1 p) 5 0 0 0 100 0 := ⟨_, rfl⟩
  have hds := fun c => m_ds (m := m) h7 hp (c := c) 5 0 xfuel 0 0 100 0 0 0 (by omega) (by decide) (by omega) (Or.inl ⟨rfl, rfl, rfl, rfl, rfl⟩)
  rw [← hr] at hds
  have hr5 : r.1 ≤ 5 := (hds (fun _ _ _ _ _ => none)).2
  obtain ⟨I1, hI1⟩ : ∃ I1 : xI, I1 = xst (xst (xst (xst (xst m.1 am_known 0 (Int32.ofNat r.1)) am_known 1 (if r.1 = 0 then 0 else r.2.1 / Int32.ofNat r.1)) am_known 2 (if r.1 = 0 then 0 else r.2.2.1)) am_known 3 r.2.2.2) am_known 4 0 := ⟨_, rfl⟩
  have fr1 : ∀ b j, b ≠ 101 → I1 b j = m.1 b j := by
    intro b j w
    rw [hI1, xst_n (a := am_known) (fun u => w u.1), xst_n (a := am_known) (fun u => w u.1), xst_n (a := am_known) (fun u => w u.1), xst_n (a := am_known) (fun u => w u.1), xst_n (a := am_known) (fun u => w u.1)]
  obtain ⟨P, hP⟩ : ∃ P, P = m.1 ag_facts_place := ⟨_, rfl⟩
  obtain ⟨m2, s1, s2, s3, s4⟩ := m_cn (nf := nf) (P := P) (by omega) p (c := fun m_109 => (
        if xin (Int32.ofNat p) 10 = true then (
        if (m_109.1 am_isPaid (Int32.ofNat p).toNatClampNeg) = 0 then (
          if xin (5 : Int32) 6 = true then (
          L_X10_starsOf_251 xfuel ((16 : Int32) * ((xst m_109.1 am_known (5 : Int32).toNatClampNeg (0 : Int32)) am fGuideBookModel_holds)) (xst m_109.1 am_known (5 : Int32).toNatClampNeg (0 : Int32), m_109.2))
          else none)
        else (
          if xin (5 : Int32) 6 = true then (
          L_X10_starsOf_251 xfuel ((16 : Int32) * ((xst m_109.1 am_known (5 : Int32).toNatClampNeg (1 : Int32)) am fGuideBookModel_holds)) (xst m_109.1 am_known (5 : Int32).toNatClampNeg (1 : Int32), m_109.2))
          else none))
        else none)) nf 0 xfuel (I1, m.2) (by omega) (by rw [xfuel_eq]; omega) ((fr1 87 25 (by decide)).trans a2) (fun i hi => by
    show I1 am_placeOf i = _
    rw [fr1 am_placeOf i (by decide), hP]
    exact ((h2 i hi).2.1.1).symm) (by show I1 101 4 = _; rw [hI1]; exact xst_s)
  obtain ⟨pv, hpv⟩ : ∃ pv : Int32, pv = if m.1 ag_praised p = 0 then 0 else 1 := ⟨_, rfl⟩
  obtain ⟨I3, hI3⟩ : ∃ I3 : xI, I3 = xst m2.1 am_known 5 pv := ⟨_, rfl⟩
  have fr3 : ∀ b j, b ≠ 101 → I3 b j = m.1 b j := by
    intro b j w
    rw [hI3, xst_n (a := am_known) (fun u => w u.1), s3 b j (fun u => w u.1)]
    exact fr1 b j w
  have hN : ∀ k, k < 6 → I3 101 k = nmv m.1 nf p k := by
    intro k hk
    have : k = 0 ∨ k = 1 ∨ k = 2 ∨ k = 3 ∨ k = 4 ∨ k = 5 := by omega
    rcases this with e | e | e | e | e | e <;> subst e
    · rw [hI3, xst_n (by decide), s3 _ _ (by decide)]; show I1 101 0 = _; rw [hI1]; unfold nmv; rw [← hr]; rfl
    · rw [hI3, xst_n (by decide), s3 _ _ (by decide)]; show I1 101 1 = _; rw [hI1]; unfold nmv; rw [← hr]; rfl
    · rw [hI3, xst_n (by decide), s3 _ _ (by decide)]; show I1 101 2 = _; rw [hI1]; unfold nmv; rw [← hr]; rfl
    · rw [hI3, xst_n (by decide), s3 _ _ (by decide)]; show I1 101 3 = _; rw [hI1]; unfold nmv; rw [← hr]; rfl
    · rw [hI3, xst_n (by decide), s4, hP]; rfl
    · rw [hI3]; unfold nmv; rw [← hpv]; exact xst_s
  have hM2 : txM I3 h ls := by
    refine ⟨(fr3 93 _ (by decide)).trans hM.1, fun i l hl => ?_⟩
    obtain ⟨a1, a2, a3, a4⟩ := hM.2 i l hl
    exact ⟨(fr3 94 _ (by decide)).trans a1, (fr3 95 _ (by decide)).trans a2, fun j t ht => ⟨(fr3 96 _ (by decide)).trans (a3 j t ht).1, (fr3 97 _ (by decide)).trans (a3 j t ht).2⟩, (fr3 96 _ (by decide)).trans a4⟩
  obtain ⟨m', u1, u2, u3⟩ := m_sf (N := nmv m.1 nf p) hh hG ls.length 0 xfuel (I3, m2.2) (by omega) (by rw [xfuel_eq]; have := hG.1; omega) ((fr3 87 15 (by decide)).trans hho) hM2 hN
  rw [List.drop_zero, Nat.add_zero] at u1
  refine ⟨m', ?_, by rw [u2, s2], fun b j w1 w2 => (u3 b j w2).trans (fr3 b j w1)⟩
  have hpd : m2.1 am_isPaid p = m.1 ag_praised p := by
    rw [s3 _ _ (fun w => absurd w.1 (by decide))]
    show I1 am_isPaid p = _
    rw [fr1 am_isPaid p (by decide)]
    exact (h8 p hp).symm
  have hx : ∀ v, xst m2.1 am_known 5 v am fGuideBookModel_holds = Int32.ofNat h := by
    intro v
    rw [xst_f (b := am) (by decide), s3 _ _ (fun w => absurd w.1 (by decide))]
    show I1 87 15 = _
    rw [fr1 87 15 (by decide)]
    exact hho
  have x5 : xin (5 : Int32) 6 = true := rfl
  have z5 : (5 : Int32).toNatClampNeg = 5 := rfl
  have s1' : L_X10_starsOf_182 (Int32.ofNat p) (fun m_109 => (
        if xin (Int32.ofNat p) 10 = true then (
        if (m_109.1 am_isPaid (Int32.ofNat p).toNatClampNeg) = 0 then (
          if xin (5 : Int32) 6 = true then (
          L_X10_starsOf_251 xfuel ((16 : Int32) * ((xst m_109.1 am_known (5 : Int32).toNatClampNeg (0 : Int32)) am fGuideBookModel_holds)) (xst m_109.1 am_known (5 : Int32).toNatClampNeg (0 : Int32), m_109.2))
          else none)
        else (
          if xin (5 : Int32) 6 = true then (
          L_X10_starsOf_251 xfuel ((16 : Int32) * ((xst m_109.1 am_known (5 : Int32).toNatClampNeg (1 : Int32)) am fGuideBookModel_holds)) (xst m_109.1 am_known (5 : Int32).toNatClampNeg (1 : Int32), m_109.2))
          else none))
        else none)) xfuel 0 (I1, m.2) = some (stv (nmv m.1 nf p) ls, m') := by
    refine Eq.trans s1 ?_
    rw [if_pos i1, n1, hpd, z5]
    by_cases w : m.1 ag_praised p = 0
    · rw [if_pos w] at hpv ⊢
      rw [hpv] at hI3
      rw [if_pos x5, hx, o_16, ← hI3]
      exact u1
    · rw [if_neg w] at hpv ⊢
      rw [hpv] at hI3
      rw [if_pos x5, hx, o_16, ← hI3]
      exact u1
  have z0 : (0 : Int32).toNatClampNeg = 0 := rfl
  have z1 : (1 : Int32).toNatClampNeg = 1 := rfl
  have z2 : (2 : Int32).toNatClampNeg = 2 := rfl
  have z3 : (3 : Int32).toNatClampNeg = 3 := rfl
  have z4 : (4 : Int32).toNatClampNeg = 4 := rfl
  have x0 : xin (0 : Int32) 6 = true := rfl
  have x1 : xin (1 : Int32) 6 = true := rfl
  have x2 : xin (2 : Int32) 6 = true := rfl
  have x3 : xin (3 : Int32) 6 = true := rfl
  have x4 : xin (4 : Int32) 6 = true := rfl
  unfold F_X10_starsOf
  refine Eq.trans (hds _).1 ?_
  by_cases w : r.1 = 0
  · have w' : Int32.ofNat r.1 = 0 := by rw [w]; rfl
    rw [if_pos w, if_pos w] at hI1
    rw [if_pos x0, if_pos w', if_pos x1, if_pos x2, if_pos x3, if_pos x4, z0, z1, z2, z3, z4, if_pos w, ← hI1]
    exact s1'
  · have w' : ¬ Int32.ofNat r.1 = 0 := fun u => w ((o_eq (b := 0) (by omega) (by omega)).mp u)
    rw [if_neg w, if_neg w] at hI1
    rw [if_pos x0, if_neg w', if_neg w', if_pos x1, if_pos x2, if_pos x3, if_pos x4, z0, z1, z2, z3, z4, if_neg w, ← hI1]
    exact s1'
theorem nmv_cg {I J : xI} {nf : Nat} (h : ∀ a, a < 31 → J a = I a) (h85 : J 85 = I 85) {p : Nat} (hp : p < 10) : nmv J nf p = nmv I nf p := by
  have hsh : ∀ w k a s c, a + k ≤ 10 → sh J w k a s c = sh I w k a s c := by
    intro w k
    induction k with
    | zero => intro a s c _; rfl
    | succ k ih =>
      intro a s c ha
      unfold sh
      rw [h (19 + a) (by omega), ih _ _ _ (by omega), ih _ _ _ (by omega)]
  have hv : ∀ w, shv J w = shv I w := fun w => by unfold shv; rw [hsh w 10 0 0 0 (by omega)]
  have hs : scl J p = scl I p := funext fun w => by unfold scl; rw [h (19 + p) (by omega), hv]
  funext k
  unfold nmv
  rw [hs, h (19 + p) (by omega), h ag_facts_place (by decide), show ag_praised = 85 from rfl, h85]
theorem pr_stars {m : xMem} (ht : t ≤ 600) (H : xRel t nf nw nl ne tp n m.1) (T : xTxt m.1) (x : Int32) : xPair (F_X9_stars x) (F_X10_stars x) t m := by
  by_cases g : 0 ≤ x ∧ x ≤ 9
  · obtain ⟨p, hp, rfl⟩ := g_ixl (n := 9) g (by decide)
    obtain ⟨ls, hd, hh, hho, hG, hC, hM⟩ := T
    have gq : (0 ≤ Int32.ofNat p ∧ Int32.ofNat p ≤ 9) = True := eq_true g
    have d10 : ¬ ((1 : Int32) = 0) := by decide
    obtain ⟨m1, s1, s2, s3⟩ := c_starsOf H hG hC (show p < 10 by omega)
    have K1 : xKeep m m1 := ⟨fun b j q => s3 b j (fun w => by subst w; revert q; unfold xscr; simp) (fun w => by subst w; revert q; unfold xscr; simp), by rw [s2]⟩
    obtain ⟨mt, hmt⟩ : ∃ mt : xMem, mt = (xst m1.1 am fGuideBookModel_thrown 0, m1.2) := ⟨_, rfl⟩
    have Kt : xKeep m mt := by rw [hmt]; exact K1.trans (k_th m1 0)
    have frt : ∀ b j, b ≠ 45 → b ≠ 86 → ¬ (b = 87 ∧ j = 0) → mt.1 b j = m.1 b j := fun b j w1 w2 w3 => by rw [hmt]; exact (xst_n w3).trans (s3 b j w1 w2)
    have hMt : txM mt.1 hd ls := by
      refine ⟨(frt 93 _ (by decide) (by decide) (fun w => absurd w.1 (by decide))).trans hM.1, fun i l hl => ?_⟩
      obtain ⟨a1, a2, a3, a4⟩ := hM.2 i l hl
      exact ⟨(frt 94 _ (by decide) (by decide) (fun w => absurd w.1 (by decide))).trans a1, (frt 95 _ (by decide) (by decide) (fun w => absurd w.1 (by decide))).trans a2, fun j t ht => ⟨(frt 96 _ (by decide) (by decide) (fun w => absurd w.1 (by decide))).trans (a3 j t ht).1, (frt 97 _ (by decide) (by decide) (fun w => absurd w.1 (by decide))).trans (a3 j t ht).2⟩, (frt 96 _ (by decide) (by decide) (fun w => absurd w.1 (by decide))).trans a4⟩
    obtain ⟨m2, u1, u2, u3⟩ := m_starsOf (H.keep Kt) hh ((frt 87 15 (by decide) (by decide) (by decide)).trans hho) hG hMt (show p < 10 by omega)
    rw [nmv_cg (I := m.1) (fun a ha => kp_row Kt ha) (Kt.row (xsc_n (by decide))) (show p < 10 by omega)] at u1
    refine xPair.keep (v := stv (nmv m.1 nf p) ls) (m1 := m1) (m2 := m2) ht H ?_ K1 ?_ ?_
    · simp (decide := true) only [Option.bind_some, ↓reduceIte, xst_f, xst_k, xst_s, ne_eq, not_false_eq_true, not_true_eq_false, and_self, and_true, true_and, and_false, false_and, or_true, true_or, or_false, false_or, F_X9_stars, g_isPlace, gq, d10, s1]
    · unfold F_X10_stars
      rw [← hmt, g_mPlace, Option.bind_some]
      dsimp only
      rw [if_pos g, if_neg d10, u1, Option.bind_some]
    · refine ⟨fun b j q => ?_, by rw [u2, hmt]⟩
      rw [u3 b j (fun w => by subst w; revert q; unfold xscr; simp) (fun w => by subst w; revert q; unfold xscr; simp), hmt]
      exact (k_th m1 0).1 b j q
  · refine xPair.keep (m1 := m) (m2 := (xst m.1 am fGuideBookModel_thrown 0, m.2)) (v := -1) ht H ?_ (xKeep.refl m) ?_ (k_th m 0)
    · simp (decide := true) only [Option.bind_some, ↓reduceIte, xst_f, xst_k, xst_s, ne_eq, not_false_eq_true, not_true_eq_false, and_self, and_true, true_and, and_false, false_and, or_true, true_or, or_false, false_or, F_X9_stars, g_isPlace, g]
    · simp (decide := true) only [Option.bind_some, ↓reduceIte, xst_f, xst_k, xst_s, ne_eq, not_false_eq_true, not_true_eq_false, and_self, and_true, true_and, and_false, false_and, or_true, true_or, or_false, false_or, F_X10_stars, g_mPlace, g]
end SB
