/-! `text` answers alike -/
theorem xRel.txt {t nf nw nl ne tp : Nat} {n : Nat → Nat} {I J : xI} (h : ∀ a k, xscr a k = false → xtx a k = false → ¬ (a = 29 ∧ k = 1) → ¬ (a = 87 ∧ k = 2) → J a k = I a k) (h1' : J 29 1 = 0) (h2' : J 87 2 = 0) (H : xRel t nf nw nl ne tp n I) : xRel t nf nw nl ne 0 n J := by
  obtain ⟨h1, h2, h3, h4, h5, h6, h7, h8, h9, h10⟩ := H
  have R : ∀ a, (a < 29 ∨ a = 30 ∨ (46 ≤ a ∧ a < 81) ∨ (82 ≤ a ∧ a < 86) ∨ a = 88 ∨ (103 ≤ a ∧ a < 119) ∨ 122 ≤ a) → J a = I a := fun a ha => funext fun k => h a k (xsc_n (by omega) k) (by
    unfold xtx
    simp only [Bool.or_eq_false_iff, Bool.and_eq_false_iff, decide_eq_false_iff_not, beq_eq_false_iff_ne]
    omega) (by omega) (by omega)
  have Q : ∀ k, xscr am k = false → xtx am k = false → k ≠ 2 → J am k = I am k := fun k hk hx h2 => h am k hk hx (fun u => absurd u.1 (by decide)) (fun u => h2 u.2)
  refine ⟨?_, ?_, ?_, ?_, ?_, ?_, ?_, ?_, ?_, ?_⟩
  · unfold I_num
    rw [R ag_facts (by decide), R ag_letters (by decide), R ag_editions (by decide), Q fGuideBookModel_facts rfl rfl (by decide), Q fGuideBookModel_now rfl rfl (by decide), Q fGuideBookModel_letters rfl rfl (by decide), Q fGuideBookModel_editions rfl rfl (by decide)]
    obtain ⟨⟨b1, b2, b3, b4, b5⟩, c1, c2, c3, c4, c5⟩ := h1
    exact ⟨⟨b1, b2, b3, b4, Nat.zero_le _⟩, c1, c2, c3, c4, h1', h2'⟩
  · unfold I_fact
    rw [R ag_facts_kind (by decide), R ag_facts_place (by decide), R ag_facts_value (by decide), R ag_facts_year (by decide), R ag_facts_length (by decide), R ag_facts_worth (by decide), R am_kindOf (by decide), R am_placeOf (by decide), R am_worthNow (by decide), R am_checkedOn (by decide), R am_lengths (by decide), R am_worths (by decide)]
    exact h2
  · unfold I_kind
    rw [R ag_facts_kindYears (by decide), R ag_facts_kindChanges (by decide), R am_kindYears (by decide), R am_kindChanges (by decide)]
    exact h3
  · unfold I_days
    rw [R ag_daysOf (by decide), R am_takes (by decide)]
    exact h4
  · unfold I_let
    rw [R ag_letters_reader (by decide), R ag_letters_about (by decide), R ag_letters_said (by decide), R ag_letters_state (by decide), R am_readers (by decide), R am_about (by decide), R am_says (by decide), R am_proofs (by decide)]
    exact h5
  · unfold I_tal
    rw [R ag_letters_reader (by decide), R ag_letters_state (by decide), R ag_letters_rightOf (by decide), R ag_letters_wrongOf (by decide), R ag_letters (by decide)]
    exact h6
  · unfold I_mark
    rw [R am_marks (by decide)]
    exact P_mark.mv (fun p hp => R (19 + p) (by omega)) h7
  · unfold I_paid
    rw [R ag_praised (by decide), R am_isPaid (by decide)]
    exact h8
  · intro k hk
    omega
  · unfold I_ed
    rw [R ag_editions_facts (by decide), R am_asPrinted (by decide), R am_proved (by decide), R am_starred (by decide)]
    exact P_ed.mv (fun p hp => ⟨R _ (by omega), R _ (by omega), R _ (by omega)⟩) h1.1.2.2.2.1 h10
theorem pTx_f9 {K : Nat → Nat} {V : Nat → Int32} {N : Nat} (hK : ∀ i, i ≤ N → (K i = 0 ↔ i = N)) (hV : ∀ i, 0 ≤ V i) : ∀ k n i, i ≤ N → (pTx K V k n i).1 ≤ 9 ∧ (pTx K V k n i).2.1 ≤ N
  | 0, n, i, hi => ⟨Nat.zero_le _, hi⟩
  | k + 1, n, i, hi => by
    unfold pTx
    split
    · exact ⟨Nat.zero_le _, hi⟩
    · split
      · exact pTx_f9 hK hV k (n + 1) _ (pLn_g hK hV n i hi)
      · exact ⟨pLn_f9 n i, pLn_g hK hV n i hi⟩
theorem txM.mv {I J : xI} {h : Nat} {ls : List xLine} (g : txG ls) (e1 : J 93 h = I 93 h) (e2 : ∀ b j, b = 94 ∨ b = 95 → 16 * h ≤ j → j < 16 * h + 16 → J b j = I b j) (e3 : ∀ b j, b = 96 ∨ b = 97 → 660 * h ≤ j → j < 660 * h + 660 → J b j = I b j) (T : txM I h ls) : txM J h ls := by
  refine ⟨e1.trans T.1, fun i l hl => ?_⟩
  obtain ⟨a1, a2, a3, a4⟩ := T.2 i l hl
  obtain ⟨b1, b2, b3⟩ := cAt_end g hl
  refine ⟨(e2 94 _ (Or.inl rfl) (by omega) (by omega)).trans a1, (e2 95 _ (Or.inr rfl) (by omega) (by omega)).trans a2, fun j t ht => ?_, (e3 96 _ (Or.inl rfl) (by omega) (by omega)).trans a4⟩
  have hj : j < l.2.length := (List.getElem?_eq_some_iff.mp ht).1
  rw [e3 96 _ (Or.inl rfl) (by omega) (by omega), e3 97 _ (Or.inr rfl) (by omega) (by omega)]
  exact a3 j t ht
theorem pr_text : ∀ t m, t ≤ 600 → xInv t m → xPairX t m := by
  intro t m ht I
  obtain ⟨⟨nf, nw, nl, ne, tp, n, H⟩, ⟨ls0, h0, hh0, ho, G0, C0, M0⟩, W⟩ := id I
  have h6 : tp ≤ 600 := H.1.1.2.2.2.2
  have t1 : m.1 29 1 = Int32.ofNat tp := H.1.2.2.2.2.2.1
  have t2 : m.1 87 2 = Int32.ofNat tp := H.1.2.2.2.2.2.2
  have tt : ∀ k, k < tp → m.1 30 k = m.1 88 k ∧ (m.1 30 k = 10 ∨ xrg (m.1 30 k) 32 126) := H.2.2.2.2.2.2.2.2.1
  obtain ⟨c, hc⟩ : ∃ c : Nat → Nat, ∀ k, k < tp → m.1 30 k = Int32.ofNat (c k) ∧ c k ≤ 126 := by
    refine ⟨fun k => (m.1 30 k).toNatClampNeg, fun k hk => ?_⟩
    have hx : 0 ≤ m.1 30 k ∧ m.1 30 k ≤ Int32.ofNat 126 := by
      rcases (tt k hk).2 with u | u
      · rw [u]; decide
      · exact ⟨Int32.le_trans (by decide) u.1, u.2⟩
    obtain ⟨a, ha, he⟩ := g_ixl (n := 126) hx (by decide)
    have na : (m.1 30 k).toNatClampNeg = a := by rw [he]; exact o_nat (by omega)
    dsimp only
    rw [na]
    exact ⟨he, ha⟩
  have T : tpS c tp m.1 := ⟨t1, h6, hc⟩
  obtain ⟨K, V, Pl, hK, hV, hK9, hP, hT⟩ := tk_fun (c := c) (tp := tp) h6
  obtain ⟨N, hN⟩ : ∃ N, N = (tkl c tp tp 0).length := ⟨_, rfl⟩
  rw [← hN] at hK hK9 hP hT
  have hlen := tkl_len (c := c) (tp := tp) tp 0 (by omega)
  have hf9 := pTx_f9 (N := N) hK hV 17 0 0 (by omega)
  have hq : (pTx K V 17 0 0).1 ≠ 0 → ¬ Int32.ofNat ((pTx K V 17 0 0).1 + 16 * Pl (pTx K V 17 0 0).2.1) = 0 := fun z => (ft_ne (by omega) hf9.1 (hP _ hf9.2)).1
  -- the reference, from any memory that has its cells
  have R := fun (m1 : xMem) (e1 : m1.1 87 2 = Int32.ofNat tp) (e2 : ∀ k, k < tp → m1.1 88 k = Int32.ofNat (c k) ∧ c k ≤ 126) (e3 : m1.1 87 15 = Int32.ofNat h0) (e4 : m1.2 92 = xm0.2 92) => m_text (h := 1 - h0) e1 h6 e2 hh0 rfl e3 e4 hK hV hK9 hP hN hT
  have hg : (pTx K V 17 0 0).1 = 0 → (pTx K V 17 0 0).2.2.length ≤ 16 ∧ cAt (pTx K V 17 0 0).2.2 (pTx K V 17 0 0).2.2.length ≤ 600 := by
    intro z
    obtain ⟨m', -, -, -, q1, -⟩ := R m t2 (fun k hk => ⟨(tt k hk).1.symm.trans (hc k hk).1, (hc k hk).2⟩) ho W
    obtain ⟨-, a1, -, a2⟩ := q1 z
    exact ⟨a1, by omega⟩
  have hw := pTx_w (N := N) hK hV 17 0 0 (by omega)
  obtain ⟨m1, p1, p2, p3, p4, p5, p6⟩ := c_tx T hK hV hK9 hP hN hT hg hq
  obtain ⟨m2, q1, ⟨q2, q3⟩, q4, q5, q6⟩ := R m1 ((p4 87 2 (by omega) (by omega) (by omega)).trans t2) (fun k hk => ⟨(p4 88 k (by omega) (by omega) (by omega)).trans ((tt k hk).1.symm.trans (hc k hk).1), (hc k hk).2⟩) ((p4 87 15 (by omega) (by omega) (by omega)).trans ho) (by rw [p2]; exact W)
  refine ⟨_, m1, m2, p1, q1, ⟨nf, nw, nl, ne, 0, n, (xRel.txt (fun a k u1 u2 u3 u4 => ?_) ?_ q4 H).up ht⟩, ?_, ?_⟩
  · unfold xscr at u1
    unfold xtx at u2
    simp only [Bool.or_eq_false_iff, Bool.and_eq_false_iff, decide_eq_false_iff_not, beq_eq_false_iff_ne] at u1 u2
    rw [q3 a k (by omega) (by omega) (by omega) (by omega) (by omega) (by omega), p4 a k (by omega) (by omega) (by omega)]
  · exact (q3 29 1 (by omega) (by omega) (by omega) (by omega) (by omega) (by omega)).trans p3
  · by_cases z : (pTx K V 17 0 0).1 = 0
    · obtain ⟨a1, a2, a3, a4⟩ := q5 z
      have b1 := p5 z
      refine ⟨(pTx K V 17 0 0).2.2, 1 - h0, by omega, a1, ⟨a2, by omega, hw z⟩, ?_, a3⟩
      have F : ∀ b j, 41 ≤ b → b ≤ 44 → m2.1 b j = m1.1 b j := fun b j u1 u2 => q3 b j (by omega) (by omega) (by omega) (by omega) (by omega) (by omega)
      refine ⟨(F 41 5 (by omega) (by omega)).trans b1.1, fun i l hl => ?_⟩
      obtain ⟨c1, c2, c3⟩ := b1.2 i l hl
      exact ⟨(F 43 i (by omega) (by omega)).trans c1, (F 44 i (by omega) (by omega)).trans c2, fun j t ht => (F 42 _ (by omega) (by omega)).trans (c3 j t ht)⟩
    · have F : ∀ b j, 41 ≤ b → b ≤ 44 → m2.1 b j = m.1 b j := fun b j u1 u2 => (q3 b j (by omega) (by omega) (by omega) (by omega) (by omega) (by omega)).trans (p6 z b j u1 u2)
      refine ⟨ls0, h0, hh0, q6 z, G0, ⟨(F 41 5 (by omega) (by omega)).trans C0.1, fun i l hl => ?_⟩, ?_⟩
      · obtain ⟨c1, c2, c3⟩ := C0.2 i l hl
        exact ⟨(F 43 i (by omega) (by omega)).trans c1, (F 44 i (by omega) (by omega)).trans c2, fun j t ht => (F 42 _ (by omega) (by omega)).trans (c3 j t ht)⟩
      · refine txM.mv G0 ?_ (fun b j u1 u2 u3 => ?_) (fun b j u1 u2 u3 => ?_) M0
        · rw [q3 93 h0 (by omega) (by omega) (by omega) (by omega) (by omega) (by omega), p4 93 h0 (by omega) (by omega) (by omega)]
        · rw [q3 b j (by omega) (by omega) (by omega) (by omega) (by omega) (by omega), p4 b j (by omega) (by omega) (by omega)]
        · rw [q3 b j (by omega) (by omega) (by omega) (by omega) (by omega) (by omega), p4 b j (by omega) (by omega) (by omega)]
  · rw [q2 92 (by decide), p2]
    exact W
