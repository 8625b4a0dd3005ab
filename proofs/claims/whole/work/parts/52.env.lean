/-! what holds at the law's entry, as the X layer wants it -/
def xtm (i : Nat) : Term := .string (xsO i) (xsI i)
abbrev xgvn : List Cond := flatC (Jvm.Cond.and given_1 narrow_1)
theorem xs_ex : ∀ i : Nat, i < xsN → Cond.exactly (xtm i) "java/lang/String" ∈ xgvn := by decide +kernel
theorem xs_co : ∀ i : Nat, i < xsN → Cond.eq (.field (xtm i) "java/lang/String" "coder" "B") (.int 0) ∈ xgvn := by decide +kernel
theorem xs_ar : ∀ i : Nat, i < xsN → Cond.arrayOf (.field (xtm i) "java/lang/String" "value" "[B") .byte ∈ xgvn := by decide +kernel
theorem xs_le : ∀ i : Nat, i < xsN → Cond.eq (.length (.field (xtm i) "java/lang/String" "value" "[B")) (.int (Int32.ofNat (xsLen.getD i 0))) ∈ xgvn := by decide +kernel
theorem xs_el : ∀ i : Nat, i < xsN → ∀ j : Nat, j < xsLen.getD i 0 → Cond.eq (.elem (.field (xtm i) "java/lang/String" "value" "[B") (.int (Int32.ofNat j))) (.int ((xsByt.getD i []).getD j 0)) ∈ xgvn := by decide +kernel
theorem xs_ne : ∀ i : Nat, i < xsN → ∀ j : Nat, j < xsN → i ≠ j → Cond.not (Cond.eq (xtm i) (xtm j)) ∈ xgvn ∨ Cond.not (Cond.eq (xtm j) (xtm i)) ∈ xgvn := by decide +kernel
theorem xs_sr : ∀ i : Nat, i < xsN → Cond.stringRef (xsO i) (xsI i) (xsT i) ∈ lw_tbl := by decide +kernel
theorem xs_n : ∀ i : Nat, i < xsN → xsLen.getD i 0 < 2 ^ 31 := by decide +kernel
theorem x_str_of {E : xE} {b : Nat} (h : ∀ c ∈ xgvn, c.before #[Value.ref b] E.2.1 = true) (ht : ∀ w ∈ lw_tbl, w.before #[Value.ref b] E.2.1 = true) :
    (∀ k, k < xsN → vk_R (xsO k) (xsI k) (xsT k) (xsa E k) E.2.1) ∧ vk_S xsN xsLen xsByt (xsa E) (xsv E) (fun q => xB E ≤ q) E.2.1 E.2.1.heap := by
  have hA : ∀ a : Nat, a < E.2.1.heap.size → ¬ (fun q => xB E ≤ q) a := fun a ha hb => absurd ha (Nat.not_lt.mpr hb)
  have h0 : ∀ i, i < xsN → (xtm i).eval #[] E.2.1 none [] E.2.1 = some (.ref (xsa E i)) ∧ va_O "java/lang/String" (xsa E i) (fun q => xB E ≤ q) E.2.1 E.2.1.heap ∧ va_OF "java/lang/String" "coder" "B" (.int 0) (xsa E i) (fun q => xB E ≤ q) E.2.1 E.2.1.heap ∧ va_OF "java/lang/String" "value" "[B" (.ref (xsv E i)) (xsa E i) (fun q => xB E ≤ q) E.2.1 E.2.1.heap ∧ va_T .byte (xsv E i) (xsLen.getD i 0) (fun j => .int ((xsByt.getD i []).getD j 0)) (fun q => xB E ≤ q) E.2.1 E.2.1.heap := by
    intro i hi
    obtain ⟨a, c, cA, kA, q1, q2, q3, q4, q5, q6, -⟩ := Cond.exactly_spec (args := #[Value.ref b]) (first := E.2.1) (o := none) (s := E.2.1) (idx := []) (t := xtm i) (cls := "java/lang/String") (h _ (xs_ex i hi))
    obtain ⟨t, ht, hT⟩ := va_Tof (f := fun j => .int ((xsByt.getD i []).getD j 0)) (A := fun q => xB E ≤ q) (xs_n i hi) (h _ (xs_ar i hi)) (va_eqt (h _ (xs_le i hi))) (fun j hj => va_eqt (h _ (xs_el i hi j hj))) hA
    have q1' : (Term.string (xsO i) (xsI i)).eval #[] E.2.1 none [] E.2.1 = some (.ref a) := q1
    have ht' : (Term.field (Term.string (xsO i) (xsI i)) "java/lang/String" "value" "[B").eval #[] E.2.1 none [] E.2.1 = some (.ref t) := ht
    have ea : xsa E i = a := by unfold xsa; rw [q1']
    have ev : xsv E i = t := by unfold xsv; rw [ht']
    rw [ea, ev]
    exact ⟨q1', ⟨cA, q3, q5, by rw [q6]; exact q2, hA a (Array.getElem?_eq_some_iff.mp q3).1⟩, vk_OFof q1 (va_eqt (h _ (xs_co i hi))) hA, vk_OFof q1 ht hA, hT⟩
  refine ⟨fun k hk => vk_R.of (A := #[]) (ht _ (xs_sr k hk)) (h0 k hk).1, fun i hi => (h0 i hi).2, fun i j hi hj e => ?_⟩
  by_cases hij : i = j
  · exact hij
  · rcases xs_ne i hi j hj hij with g | g
    · exact absurd e (va_neR (args := #[Value.ref b]) (h _ g) (h0 i hi).1 (h0 j hj).1)
    · exact absurd e.symm (va_neR (args := #[Value.ref b]) (h _ g) (h0 j hj).1 (h0 i hi).1)
theorem x_words_of {s : State} {b : Nat} (ht : ∀ w ∈ lw_tbl, w.before #[Value.ref b] s = true) : ∀ w ∈ lw_tbl, xTr w = true → w.before #[] s = true := by
  intro w hw htr
  have h0 := ht w hw
  have hW := State.WarmedH.refl s
  unfold xTr at htr
  rw [Bool.or_eq_true] at htr
  rcases htr with hg | hn
  · exact word_at hW (good_of_word hg) h0
  · cases w <;> first | (exact Bool.noConfusion hn) | exact h0
theorem x_env {p : Program} {s : State} {m : MethodId} {meth : Method} {c : Code} {b L : Nat} {xs : Nat → Int32} (l : Launch) (hl : l.stackTraces = false) (ht : ∀ w ∈ lw_tbl, w.before #[Value.ref b] s = true) (h : ∀ c ∈ xgvn, c.before #[Value.ref b] s = true) :
    ∃ E : xE, E.1 = l ∧ E.2.1 = s ∧ xGH E ∧ xThr E ∧ xAO E := by
  obtain ⟨c0, i0, h0⟩ := u_known (n := 3) ht inX0 (ht _ (by decide +kernel))
  obtain ⟨c1, i1, h1⟩ := u_known (n := 5) ht inX1 (ht _ (by decide +kernel))
  obtain ⟨c2, i2, h2⟩ := u_known (n := 10) ht inX2 (ht _ (by decide +kernel))
  obtain ⟨c3, i3, h3⟩ := u_known (n := 8) ht inX3 (ht _ (by decide +kernel))
  obtain ⟨c4, i4, h4⟩ := u_known (n := 1) ht inX4 (ht _ (by decide +kernel))
  obtain ⟨c5, i5, h5⟩ := u_known (n := 4) ht inX5 (ht _ (by decide +kernel))
  obtain ⟨c6, i6, h6⟩ := u_known (n := 6) ht inX6 (ht _ (by decide +kernel))
  obtain ⟨c7, i7, h7⟩ := u_known (n := 2) ht inX7 (ht _ (by decide +kernel))
  obtain ⟨c8, i8, h8⟩ := u_known (n := 4) ht inX8 (ht _ (by decide +kernel))
  obtain ⟨c9, i9, h9⟩ := u_known (n := 11) ht inX9 (ht _ (by decide +kernel))
  obtain ⟨c10, i10, h10⟩ := u_known (n := 51) ht inX10 (ht _ (by decide +kernel))
  obtain ⟨a0, k0, p0, a01, a02, a03⟩ := Cond.arrayClass_spec (ht (.arrayClass .int) (by decide +kernel))
  obtain ⟨a1, k1, p1, a11, a12, a13⟩ := Cond.arrayClass_spec (ht (.arrayClass .byte) (by decide +kernel))
  obtain ⟨a2, k2, p2, a21, a22, a23⟩ := Cond.arrayClass_spec (ht (.arrayClass .boolean) (by decide +kernel))
  obtain ⟨a3, k3, p3, a31, a32, a33⟩ := Cond.arrayClass_spec (ht (.arrayClass .long) (by decide +kernel))
  have hao : (Cond.arrayOver (.array .int)).before #[Value.ref b] s = true := ht (.arrayOver (.array .int)) (by decide +kernel)
  obtain ⟨p4, a4, k4, a40, a41, a42, a43, a44⟩ := arrayOverA_spec hao
  have hA : ∀ a : Nat, a < s.heap.size → ¬ (fun q => s.heap.size ≤ q) a := fun a ha hb => absurd ha (Nat.not_lt.mpr hb)
  refine ⟨(l, s, ((fun k => [c0, c1, c2, c3, c4, c5, c6, c7, c8, c9, c10].getD k 0), (fun k => [i0, i1, i2, i3, i4, i5, i6, i7, i8, i9, i10].getD k (fun _ => 0))), (fun k => [a0, a1, a2, a3, a4].getD k 0)), rfl, rfl, ⟨x_words_of ht, ⟨?_, ?_⟩, ?_⟩, ⟨hl, ?_, ?_⟩, ?_⟩
  · intro k q hq
    match k, hq with
    | 0, hq => cases hq; exact h0
    | 1, hq => cases hq; exact h1
    | 2, hq => cases hq; exact h2
    | 3, hq => cases hq; exact h3
    | 4, hq => cases hq; exact h4
    | 5, hq => cases hq; exact h5
    | 6, hq => cases hq; exact h6
    | 7, hq => cases hq; exact h7
    | 8, hq => cases hq; exact h8
    | 9, hq => cases hq; exact h9
    | 10, hq => cases hq; exact h10
    | k + 11, hq => cases hq
  · intro k q hq
    match k, hq with
    | 0, hq => cases hq; exact ⟨fun N z => ⟨(fun k h => by cases h), k0, a02, p0, a03⟩, a01⟩
    | 1, hq => cases hq; exact ⟨fun N z => ⟨(fun k h => by cases h), k1, a12, p1, a13⟩, a11⟩
    | 2, hq => cases hq; exact ⟨fun N z => ⟨(fun k h => by cases h), k2, a22, p2, a23⟩, a21⟩
    | 3, hq => cases hq; exact ⟨fun N z => ⟨(fun k h => by cases h), k3, a32, p3, a33⟩, a31⟩
    | 4, hq => cases hq; exact ⟨fun N z => ⟨(fun k h => by cases h), k4, a42, p4, a43⟩, a44⟩
    | k + 5, hq => cases hq
  · have hs := x_str_of (E := (l, s, ((fun k => [c0, c1, c2, c3, c4, c5, c6, c7, c8, c9, c10].getD k 0), (fun k => [i0, i1, i2, i3, i4, i5, i6, i7, i8, i9, i10].getD k (fun _ => 0))), (fun k => [a0, a1, a2, a3, a4].getD k 0))) (b := b) h ht
    refine ⟨hs.1, hs.2, ?_, ?_⟩
    · exact va_Zof (args := #[Value.ref b]) (ht _ (by decide +kernel)) (ht _ (by decide +kernel)) (va_eqi (h (Cond.eq (.static "java/lang/String" "COMPACT_STRINGS" "Z") (.int 1)) (by decide +kernel))) hA
    · exact va_Zqof (args := #[Value.ref b]) (ht _ (by decide +kernel)) (ht _ (by decide +kernel)) (h _ (by decide +kernel)) hA
  · exact vx_Zqof (args := #[Value.ref b]) (ht _ (by decide +kernel)) (ht _ (by decide +kernel)) (h _ (by decide +kernel)) hA
  · exact vx_Zqof (args := #[Value.ref b]) (ht _ (by decide +kernel)) (ht _ (by decide +kernel)) (h _ (by decide +kernel)) hA
  · exact hao
