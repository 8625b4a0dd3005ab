section ML
variable {K : Nat → Nat} {V : Nat → Int32} {Pl : Nat → Nat} {N h : Nat}
theorem mAt_mono {ls : List xLine} : ∀ {i j : Nat}, i ≤ j → mAt ls i ≤ mAt ls j := by
  intro i j h
  induction i generalizing ls j with
  | zero => simp [mAt]
  | succ i ih =>
    cases ls with
    | nil => simp [mAt]
    | cons l ls =>
      obtain ⟨j', rfl⟩ : ∃ j', j = j' + 1 := ⟨j - 1, by omega⟩
      have := ih (ls := ls) (j := j') (by omega)
      simp only [mAt]
      omega
theorem ls_last {ls : List xLine} {l x : xLine} {i : Nat} (h : (ls ++ [l])[i]? = some x) : (i < ls.length ∧ ls[i]? = some x) ∨ (i = ls.length ∧ x = l) := by
  rcases Nat.lt_or_ge i ls.length with u | u
  · exact Or.inl ⟨u, by rw [List.getElem?_append_left u] at h; exact h⟩
  · rw [List.getElem?_append_right u] at h
    have : i - ls.length = 0 := by
      rcases Nat.eq_zero_or_pos (i - ls.length) with z | z
      · exact z
      · obtain ⟨k, hk⟩ : ∃ k, i - ls.length = k + 1 := ⟨i - ls.length - 1, by omega⟩
        rw [hk] at h
        simp at h
    rw [this] at h
    exact Or.inr ⟨by omega, by simpa using h.symm⟩
/-- one line more -/
theorem txM_snoc {I I' : xI} {ls : List xLine} {l : xLine} (T : txM I h ls) (e1 : I' 93 h = Int32.ofNat (ls.length + 1)) (e2 : ∀ b j, b = 94 ∨ b = 95 → j < 16 * h + ls.length → I' b j = I b j) (e3 : ∀ b j, b = 96 ∨ b = 97 → j < 660 * h + mAt ls ls.length → I' b j = I b j)
    (n1 : I' 94 (16 * h + ls.length) = Int32.ofNat l.1) (n2 : I' 95 (16 * h + ls.length) = Int32.ofNat (660 * h + mAt ls ls.length)) (n3 : ∀ j t, l.2[j]? = some t → I' 96 (660 * h + mAt ls ls.length + j) = tkO t ∧ I' 97 (660 * h + mAt ls ls.length + j) = tkA t) (n4 : I' 96 (660 * h + mAt ls ls.length + l.2.length) = 0) : txM I' h (ls ++ [l]) := by
  refine ⟨by rw [List.length_append, List.length_singleton]; exact e1, fun i x hx => ?_⟩
  rcases ls_last hx with ⟨hi, hx'⟩ | ⟨hi, rfl⟩
  · obtain ⟨a1, a2, a3, a4⟩ := T.2 i x hx'
    have hm := (cAt_s hx').2
    have hm2 := mAt_mono (ls := ls) (show i + 1 ≤ ls.length by omega)
    rw [(cAt_ap ls l i (by omega)).2]
    refine ⟨by rw [e2 94 _ (Or.inl rfl) (by omega)]; exact a1, by rw [e2 95 _ (Or.inr rfl) (by omega)]; exact a2, fun j t ht => ?_, by rw [e3 96 _ (Or.inl rfl) (by omega)]; exact a4⟩
    have hj : j < x.2.length := (List.getElem?_eq_some_iff.mp ht).1
    rw [e3 96 _ (Or.inl rfl) (by omega), e3 97 _ (Or.inr rfl) (by omega)]
    exact a3 j t ht
  · subst hi
    rw [(cAt_ap ls x ls.length (Nat.le_refl _)).2]
    exact ⟨n1, n2, n3, n4⟩
theorem mAt_snoc (ls : List xLine) (l : xLine) : mAt (ls ++ [l]) (ls ++ [l]).length = mAt ls ls.length + l.2.length + 1 ∧ cAt (ls ++ [l]) (ls ++ [l]).length = cAt ls ls.length + l.2.length := by
  have := cAt_s (ls := ls ++ [l]) (i := ls.length) (l := l) (by rw [List.getElem?_append_right (Nat.le_refl _), Nat.sub_self]; rfl)
  rw [(cAt_ap ls l ls.length (Nat.le_refl _)).1, (cAt_ap ls l ls.length (Nat.le_refl _)).2] at this
  rw [List.length_append, List.length_singleton]
  exact ⟨this.2, this.1⟩
theorem tw_bad {m : xMem} (hf : ¬ m.1 87 8 = 0) : F_X10_takeWord 1 m = some (0, m) := by
  have hf' : ¬ m.1 am fGuideBookModel_fault = 0 := hf
  have hself : xst m.1 am fGuideBookModel_at (m.1 am fGuideBookModel_at + 0) = m.1 := by
    funext b j
    by_cases u : b = am ∧ j = fGuideBookModel_at
    · rw [u.1, u.2, Int32.add_zero]; exact xst_s
    · exact xst_n u
  have hself2 : ((xst m.1 am fGuideBookModel_at (m.1 am fGuideBookModel_at + 0), m.2) : xMem) = m := by rw [hself]
  have b0 : xbb 0 = true := by decide
  unfold F_X10_takeWord F_X10_hasWord F_X10_isWord F_X10_wrong
  simp only [hf', ↓reduceIte, Option.bind_some, b0, hself, hself2]
/-- the end of a line, no fault told -/
theorem cn_ok {m : xMem} {j c : Nat} (A : mAt0 K V Pl N m j) (hc : m.1 87 17 = Int32.ofNat c) (hc6 : c ≤ 640) (hn : m.1 87 16 = Int32.ofNat h) (hh : h = 0 ∨ h = 1) : ∃ m', cnL m = some (0, m') ∧ m'.2 = m.2 ∧ (∀ a b, ¬ (a = 87 ∧ (b = 7 ∨ b = 8 ∨ b = 17)) → ¬ ((a = 96 ∨ a = 97) ∧ b = 660 * h + c) → ¬ (a = 93 ∧ b = h) → m'.1 a b = m.1 a b) ∧ (K j = 59 → m'.1 87 8 = 0 ∧ m'.1 87 7 = Int32.ofNat (j + 1) ∧ m'.1 87 17 = Int32.ofNat (c + 1) ∧ m'.1 96 (660 * h + c) = 0 ∧ m'.1 93 h = m.1 93 h + 1) ∧ (K j ≠ 59 → m'.1 87 8 = Int32.ofNat (1 + 16 * Pl j)) := by
  obtain ⟨I, hI⟩ : ∃ I : xI, I = xst (xst (xst m.1 96 (660 * h + c) 0) 97 (660 * h + c) 0) 87 17 (Int32.ofNat (c + 1)) := ⟨_, rfl⟩
  have F : ∀ b j, ¬ (b = 87 ∧ j = 17) → ¬ ((b = 96 ∨ b = 97) ∧ j = 660 * h + c) → I b j = m.1 b j := fun b j u1 u2 => by
    rw [hI, xst_n u1, xst_n (by omega), xst_n (by omega)]
  have hd : mfr h 0 c m (I, m.2) := ⟨rfl, fun b j u1 u2 u3 => F b j (by omega) (by omega)⟩
  have A1 : mAt0 K V Pl N (I, m.2) j := ⟨A.1.mv hd, (F 87 8 (by omega) (by omega)).trans A.2.1, (F 87 7 (by omega) (by omega)).trans A.2.2.1, A.2.2.2⟩
  have n8 : ∀ v w, xst I 87 v w 87 16 = Int32.ofNat h ∨ v = 16 := fun v w => by
    by_cases u : v = 16
    · exact Or.inr u
    · exact Or.inl ((xst_n (by omega)).trans ((F 87 16 (by omega) (by omega)).trans hn))
  have i2 : xin (Int32.ofNat h) 2 = true := o_in (by omega) (by omega)
  have n2 : (Int32.ofNat h).toNatClampNeg = h := o_nat (by omega)
  have e17 : I 87 17 = Int32.ofNat (c + 1) := by rw [hI]; exact xst_s
  have e96 : I 96 (660 * h + c) = 0 := by rw [hI, xst_n (by omega), xst_n (by omega)]; exact xst_s
  have hl : ∀ v w, ¬ v = 16 → (let q : xMem := (xst I 87 v w, m.2); (if xin (q.1 am fGuideBookModel_next) 2 = true then (if xin (q.1 am fGuideBookModel_next) 2 = true then some ((0 : Int32), ((xst q.1 am_lines (q.1 am fGuideBookModel_next).toNatClampNeg ((q.1 am_lines (q.1 am fGuideBookModel_next).toNatClampNeg) + (1 : Int32)), q.2) : xMem)) else none) else none) = some (0, (xst (xst I 87 v w) 93 h (m.1 93 h + 1), m.2))) := fun v w hv => by
    have e : xst I 87 v w am fGuideBookModel_next = Int32.ofNat h := (n8 v w).resolve_right hv
    have e2 : xst I 87 v w am_lines h = m.1 93 h := (xst_n (fun u => absurd u.1 (by decide))).trans (F 93 h (by omega) (by omega))
    dsimp only
    simp only [e, n2, e2, i2, ↓reduceIte]
  by_cases w : K j = 59
  · refine ⟨(xst (xst I 87 7 (Int32.ofNat (j + 1))) 93 h (m.1 93 h + 1), m.2), ?_, rfl, fun a b u1 u2 u3 => ?_, fun _ => ⟨?_, ?_, ?_, ?_, ?_⟩, fun u => absurd w u⟩
    · have a7 : I am fGuideBookModel_at = Int32.ofNat j := A1.2.2.1
      unfold cnL F_X10_takeSign
      rw [m_emit hc hc6 hn hh, Option.bind_some, ← hI]
      dsimp only
      rw [show (59 : Int32) = Int32.ofNat 59 from rfl, m_isSign A1 (by unfold sgn; omega), Option.bind_some]
      dsimp only
      rw [if_pos w, if_neg (by decide), Option.bind_some]
      dsimp only
      rw [a7, o_succ]
      exact hl 7 _ (by decide)
    · show xst (xst I 87 7 (Int32.ofNat (j + 1))) 93 h (m.1 93 h + 1) a b = _
      rw [xst_n u3, xst_n (by omega)]
      exact F a b (by omega) u2
    · show xst (xst I 87 7 (Int32.ofNat (j + 1))) 93 h (m.1 93 h + 1) 87 8 = _
      rw [xst_n (by omega), xst_n (by omega)]
      exact A1.2.1
    · show xst (xst I 87 7 (Int32.ofNat (j + 1))) 93 h (m.1 93 h + 1) 87 7 = _
      rw [xst_n (by omega)]
      exact xst_s
    · show xst (xst I 87 7 (Int32.ofNat (j + 1))) 93 h (m.1 93 h + 1) 87 17 = _
      rw [xst_n (by omega), xst_n (by omega)]
      exact e17
    · show xst (xst I 87 7 (Int32.ofNat (j + 1))) 93 h (m.1 93 h + 1) 96 (660 * h + c) = _
      rw [xst_n (by omega), xst_n (by omega)]
      exact e96
    · show xst (xst I 87 7 (Int32.ofNat (j + 1))) 93 h (m.1 93 h + 1) 93 h = _
      exact xst_s
  · refine ⟨(xst (xst I 87 8 (Int32.ofNat (1 + 16 * Pl j))) 93 h (m.1 93 h + 1), m.2), ?_, rfl, fun a b u1 u2 u3 => ?_, fun u => absurd u w, fun _ => ?_⟩
    · unfold cnL F_X10_takeSign
      rw [m_emit hc hc6 hn hh, Option.bind_some, ← hI]
      dsimp only
      rw [show (59 : Int32) = Int32.ofNat 59 from rfl, m_isSign A1 (by unfold sgn; omega), Option.bind_some]
      dsimp only
      rw [if_neg w, if_pos rfl, show (1 : Int32) = Int32.ofNat 1 from rfl, m_wrong A1, Option.bind_some, Option.bind_some]
      exact hl 8 _ (by decide)
    · show xst (xst I 87 8 (Int32.ofNat (1 + 16 * Pl j))) 93 h (m.1 93 h + 1) a b = _
      rw [xst_n u3, xst_n (by omega)]
      exact F a b (by omega) u2
    · show xst (xst I 87 8 (Int32.ofNat (1 + 16 * Pl j))) 93 h (m.1 93 h + 1) 87 8 = _
      rw [xst_n (by omega)]
      exact xst_s
/-- a part's end at depth 0, no `and`: the line's end -/
theorem b218_o {C : xMem → Option (Int32 × xMem)} {m : xMem} {i c fk fk2 : Nat} {sw gw aw : Int32} (S : mS K V Pl N h m i c 0 sw gw aw) (h0 : K i ≠ 203) : B218 C fk fk2 m = C m := by
  obtain ⟨A, hc, hci, hd, -⟩ := S
  have hd' : m.1 am fGuideBookModel_deep = 0 := hd
  unfold B218 J_X10_goesOnBehind_218
  rw [show (2 : Int32) = Int32.ofNat 2 from rfl, m_isWord A (by omega), Option.bind_some]
  dsimp only
  rw [if_neg (show ¬ K i = 201 + 2 from h0), if_pos rfl, hd', if_pos rfl, Option.bind_some]
  unfold KT
  rw [if_pos rfl]
end ML
