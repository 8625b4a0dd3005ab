/-! heaps as lists, for the constructors: P stands, Q is what is made behind it -/
def xlh (l : List va_E) : Nat → va_E := fun a => l.getD a (.inl (0, 0, .inl fun _ => 0))
def xq (n0 : Nat) (P Q : List va_E) : xS := (true, n0 + Q.length, xlh (P ++ Q))
theorem xlh_at {P Q : List va_E} {n0 i : Nat} {e : va_E} (hP : P.length = n0) (h : Q[i]? = some e) : xlh (P ++ Q) (n0 + i) = e := by
  unfold xlh
  rw [List.getD_eq_getElem?_getD, List.getElem?_append_right (by omega), ← hP, Nat.add_sub_cancel_left, h]
  rfl
theorem xlh_push {P Q : List va_E} {n0 : Nat} (e : va_E) (hP : P.length = n0) : ∀ a, a < n0 + Q.length + 1 → va_up (xlh (P ++ Q)) (n0 + Q.length) e a = xlh (P ++ (Q ++ [e])) a := by
  intro a ha
  unfold va_up xlh
  rw [← List.append_assoc]
  by_cases h : a = n0 + Q.length
  · rw [if_pos h, List.getD_eq_getElem?_getD, List.getElem?_append_right (by rw [List.length_append]; omega), List.length_append, hP, h, Nat.sub_self]
    rfl
  · rw [if_neg h, List.getD_eq_getElem?_getD, List.getD_eq_getElem?_getD, List.getElem?_append_left (l₁ := P ++ Q) (by rw [List.length_append]; omega)]
theorem xlh_set {P Q : List va_E} {n0 i : Nat} (e : va_E) (hP : P.length = n0) (hi : i < Q.length) : ∀ a, va_up (xlh (P ++ Q)) (n0 + i) e a = xlh (P ++ Q.set i e) a := by
  intro a
  unfold va_up xlh
  by_cases h : a = n0 + i
  · rw [if_pos h, List.getD_eq_getElem?_getD, List.getElem?_append_right (by omega), h, hP, Nat.add_sub_cancel_left, List.getElem?_set_self hi]
    rfl
  · rw [if_neg h, List.getD_eq_getElem?_getD, List.getD_eq_getElem?_getD]
    by_cases h2 : a < P.length
    · rw [List.getElem?_append_left h2, List.getElem?_append_left h2]
    · rw [List.getElem?_append_right (by omega), List.getElem?_append_right (by omega), List.getElem?_set_ne (by omega)]
theorem xq_lt {P Q : List va_E} {n0 i : Nat} {e : va_E} (h : Q[i]? = some e) : n0 + i < (xq n0 P Q).2.1 := by
  have := (List.getElem?_eq_some_iff.mp h).1
  show n0 + i < n0 + Q.length
  omega
theorem xq_mv {n0 k : Nat} {P Q R : List va_E} (hk : Q.length = k) : xq n0 P (Q ++ R) = xq (n0 + k) (P ++ Q) R := by
  unfold xq
  rw [List.append_assoc, List.length_append, hk, Nat.add_assoc]
section LH
variable {E : xE} {M : xM} {d mc ms rc rs : Nat} {Z : Option Value → xS → Prop} {pc : Nat} {lv : List (Nat × Value)} {st : List Value} {P Q : List va_E} {n0 : Nat}
theorem l_new {idx ci N : Nat} {C : String} {T : u_T} {ty : Nat → FieldType} (fs : List Value) (a : Nat) (hP : P.length = n0) (hd : decode M.2.1 pc = .ok (.new idx, 3)) (hcl : xCl ci C T N ty) (h1 : xw (.classLink M.1.cls idx C)) (h2 : xw (.instantiable C N)) (h3 : xw (.initialized C)) (hfs : ∀ j, j < N → defaultValue (ty j) = vp_V fs j) (hrc : 1 ≤ rc) (hrs : N ≤ rs) (ha : n0 + Q.length = a)
    (kk : xX E M d mc ms (rc - 1) (rs - N) Z (pc + 3) lv (.ref (xB E + a) :: st) (xq n0 P (Q ++ [.inr (ci, fs)]))) : xX E M d mc ms rc rs Z pc lv st (xq n0 P Q) := by
  subst ha
  refine x_new hd hcl h1 h2 h3 hfs hrc hrs (x_heq (xlh_push (.inr (ci, fs)) hP) ?_)
  have e : xq n0 P (Q ++ [.inr (ci, fs)]) = (true, n0 + Q.length + 1, xlh (P ++ (Q ++ [.inr (ci, fs)]))) := by unfold xq; rw [List.length_append]; rfl
  rw [e] at kk
  exact kk
theorem l_newa {atype : ArrayType} (t : Nat) {N : Nat} (z : vp_A) {k : Int32} (a : Nat) (hP : P.length = n0) (hd : decode M.2.1 pc = .ok (.newarray atype, 2)) (hw : xw (.arrayClass (newarray.typeOf atype))) (ht : (xTys E)[t]? = some (E.2.2.2 t, newarray.typeOf atype)) (hz : ∀ cA : ClassId, vp_cell cA z = arrV cA N (fun _ => defaultValue (newarray.typeOf atype))) (hk : ¬ k < 0) (hN : k.toNatClampNeg = N) (hby : N * componentBytes (newarray.typeOf atype) ≤ 536870912) (hrc : 1 ≤ rc) (hrs : N ≤ rs) (ha : n0 + Q.length = a)
    (kk : xX E M d mc ms (rc - 1) (rs - N) Z (pc + 2) lv (.ref (xB E + a) :: st) (xq n0 P (Q ++ [.inl (E.2.2.2 t, z)]))) : xX E M d mc ms rc rs Z pc lv (.int k :: st) (xq n0 P Q) := by
  subst ha
  refine x_newa hd hw ht hz hk hN hby hrc hrs (x_heq (xlh_push (.inl (E.2.2.2 t, z)) hP) ?_)
  have e : xq n0 P (Q ++ [.inl (E.2.2.2 t, z)]) = (true, n0 + Q.length + 1, xlh (P ++ (Q ++ [.inl (E.2.2.2 t, z)]))) := by unfold xq; rw [List.length_append]; rfl
  rw [e] at kk
  exact kk
theorem l_set {i a : Nat} {e : va_E} (hP : P.length = n0) (hi : i < Q.length) (ha : n0 + i = a) (kk : xX E M d mc ms rc rs Z pc lv st (xq n0 P (Q.set i e))) : xX E M d mc ms rc rs Z pc lv st ((xq n0 P Q).1, (xq n0 P Q).2.1, va_up (xq n0 P Q).2.2 a e) := by
  subst ha
  refine x_heq (fun b _ => xlh_set e hP hi b) ?_
  have e1 : xq n0 P (Q.set i e) = (true, n0 + Q.length, xlh (P ++ Q.set i e)) := by unfold xq; rw [List.length_set]
  rw [e1] at kk
  exact kk
theorem l_putF {idx ci k N : Nat} {C : String} {T : u_T} {ty : Nat → FieldType} {fs : List Value} {v : Value} (i a : Nat) (hP : P.length = n0) (hd : decode M.2.1 pc = .ok (.putfield idx, 3)) (hcl : xCl ci C T N ty) (hk : k < N) (hl : xw (.fieldLink M.1.cls idx (T k).1 (T k).2.1 (T k).2.2.1)) (hfin : (T k).2.2.2 = true) (hnm0 : M.1.name = "<init>") (hdecl : (T k).1 = M.1.cls) (hn : narrow (ty k) v = v) (hfit : fits (ty k) v = true) (ha : n0 + i = a) (hc : Q[i]? = some (.inr (ci, fs))) (hkl : k < fs.length)
    (kk : xX E M d mc ms rc rs Z (pc + 3) lv st (xq n0 P (Q.set i (.inr (ci, fs.set k v))))) : xX E M d mc ms rc rs Z pc lv (v :: .ref (xB E + a) :: st) (xq n0 P Q) := by
  have hi := (List.getElem?_eq_some_iff.mp hc).1
  exact x_putF (S := xq n0 P Q) hd hcl hk hl hfin hnm0 hdecl hn hfit (by rw [← ha]; exact xq_lt hc) (by show xlh (P ++ Q) a = _; rw [← ha]; exact xlh_at hP hc) hkl (l_set hP hi ha kk)
theorem l_get {idx ci k N : Nat} {C : String} {T : u_T} {ty : Nat → FieldType} {fs : List Value} {v : Value} (i a : Nat) (hP : P.length = n0) (hd : decode M.2.1 pc = .ok (.getfield idx, 3)) (hcl : xCl ci C T N ty) (hk : k < N) (hl : xFl M.1.cls idx T k) (ha : n0 + i = a) (hc : Q[i]? = some (.inr (ci, fs))) (hv : fs[k]? = some v)
    (kk : xX E M d mc ms rc rs Z (pc + 3) lv (v :: st) (xq n0 P Q)) : xX E M d mc ms rc rs Z pc lv (.ref (xB E + a) :: st) (xq n0 P Q) :=
  x_get (S := xq n0 P Q) hd hcl hk hl (by rw [← ha]; exact xq_lt hc) (by show xlh (P ++ Q) a = _; rw [← ha]; exact xlh_at hP hc) hv kk
theorem l_iast {n : Nat} {f : Nat → Int32} {j x : Int32} (i a : Nat) (hP : P.length = n0) (hd : decode M.2.1 pc = .ok (.iastore, 1)) (ha : n0 + i = a) (hc : Q[i]? = some (.inl (E.2.2.2 0, n, .inl f))) (hin : xin j n = true)
    (kk : xX E M d mc ms rc rs Z (pc + 1) lv st (xq n0 P (Q.set i (.inl (E.2.2.2 0, n, .inl (upd f j.toNatClampNeg x)))))) : xX E M d mc ms rc rs Z pc lv (.int x :: .int j :: .ref (xB E + a) :: st) (xq n0 P Q) := by
  have hi := (List.getElem?_eq_some_iff.mp hc).1
  exact x_iast (S := xq n0 P Q) hd (by rw [← ha]; exact xq_lt hc) (by show xlh (P ++ Q) a = _; rw [← ha]; exact xlh_at hP hc) (xin_vp hin) (l_set hP hi ha kk)
theorem l_last {n : Nat} {f : Nat → Int64} {j : Int32} {x : Int64} (i a : Nat) (hP : P.length = n0) (hd : decode M.2.1 pc = .ok (.lastore, 1)) (ha : n0 + i = a) (hc : Q[i]? = some (.inl (E.2.2.2 3, n, .inr (.inl f)))) (hin : xin j n = true)
    (kk : xX E M d mc ms rc rs Z (pc + 1) lv st (xq n0 P (Q.set i (.inl (E.2.2.2 3, n, .inr (.inl (vp_updL f j.toNatClampNeg x))))))) : xX E M d mc ms rc rs Z pc lv (.long x :: .int j :: .ref (xB E + a) :: st) (xq n0 P Q) := by
  have hi := (List.getElem?_eq_some_iff.mp hc).1
  exact x_last (S := xq n0 P Q) hd (by rw [← ha]; exact xq_lt hc) (by show xlh (P ++ Q) a = _; rw [← ha]; exact xlh_at hP hc) (xin_vp hin) (l_set hP hi ha kk)
theorem l_aald {n b : Nat} {f : Nat → Option Nat} {j : Int32} (i a : Nat) (hP : P.length = n0) (hd : decode M.2.1 pc = .ok (.aaload, 1)) (ha : n0 + i = a) (hc : Q[i]? = some (.inl (E.2.2.2 4, n, .inr (.inr (.inr (.inr f)))))) (hin : xin j n = true) (hb : f j.toNatClampNeg = some (xB E + b))
    (kk : xX E M d mc ms rc rs Z (pc + 1) lv (.ref (xB E + b) :: st) (xq n0 P Q)) : xX E M d mc ms rc rs Z pc lv (.int j :: .ref (xB E + a) :: st) (xq n0 P Q) :=
  x_aald (S := xq n0 P Q) hd (by rw [← ha]; exact xq_lt hc) (by show xlh (P ++ Q) a = _; rw [← ha]; exact xlh_at hP hc) (xin_vp hin) hb kk
theorem l_alen {n : Nat} {f : Nat → Int32} {v : Int32} (i a : Nat) (hP : P.length = n0) (hd : decode M.2.1 pc = .ok (.arraylength, 1)) (ha : n0 + i = a) (hc : Q[i]? = some (.inl (E.2.2.2 0, n, .inl f))) (hv : Int32.ofNat n = v)
    (kk : xX E M d mc ms rc rs Z (pc + 1) lv (.int v :: st) (xq n0 P Q)) : xX E M d mc ms rc rs Z pc lv (.ref (xB E + a) :: st) (xq n0 P Q) :=
  x_alen (S := xq n0 P Q) (z := (n, .inl f)) (t := 0) (ty := .int) hd (by rw [← ha]; exact xq_lt hc) (by show xlh (P ++ Q) a = _; rw [← ha]; exact xlh_at hP hc) rfl hv kk
end LH
theorem l_same {α : Type} {Q : List α} {i : Nat} {e : α} (h : Q[i]? = some e) : Q.set i e = Q := by
  apply List.ext_getElem?
  intro j
  by_cases hj : i = j
  · subst hj
    rw [List.getElem?_set_self (List.getElem?_eq_some_iff.mp h).1, h]
  · rw [List.getElem?_set_ne hj]
/-- Arrays.fill of ints -/
def xfl (f : Nat → Int32) (n : Nat) (v : Int32) : Nat → Int32 := fun k => if k < n then v else f k
theorem xfl_step {f : Nat → Int32} {j : Nat} {v : Int32} : upd (xfl f j v) j v = xfl f (j + 1) v := by
  funext k
  unfold upd xfl
  by_cases h : k = j
  · subst h; simp
  · rw [if_neg h]
    by_cases h2 : k < j
    · rw [if_pos h2, if_pos (by omega)]
    · rw [if_neg h2, if_neg (by omega)]
set_option maxHeartbeats 4000000 in
theorem l_fill {E : xE} {d n0 n : Nat} {P Q : List va_E} {f : Nat → Int32} (v : Int32) (i a : Nat) (hP : P.length = n0) (hn : n < 2 ^ 31) (ha : n0 + i = a) (hc : Q[i]? = some (.inl (E.2.2.2 0, n, .inl f))) :
    xC E mJ7_fill_53178 d 0 0 [.ref (xB E + a), .int v] (xq n0 P Q) (fun r S => r = none ∧ S = xq n0 P (Q.set i (.inl (E.2.2.2 0, n, .inl (xfl f n v))))) := by
  refine x_enter (by decide +kernel) (Nat.le_of_ble_eq_true rfl) ?_
  refine x_iconst (v := 0) dJ7_fill_53178_0 (by decide) ?_
  refine x_istore_n (lv' := [(0, .ref (xB E + a)), (1, .int v), (2, .int 0)]) dJ7_fill_53178_1 [1, 2, 0] (by decide) rfl ?_
  refine x_aload_n dJ7_fill_53178_2 rfl ?_
  refine l_alen (v := nI n) i a hP dJ7_fill_53178_3 ha hc rfl ?_
  refine x_istore_n (lv' := [(0, .ref (xB E + a)), (1, .int v), (2, .int 0), (3, .int (nI n))]) dJ7_fill_53178_4 [1, 2, 3, 0] (by decide) rfl ?_
  have hi := (List.getElem?_eq_some_iff.mp hc).1
  have loop : ∀ (k j : Nat), j + k = n → xX E mJ7_fill_53178 d 0 0 0 0 (fun r S => r = none ∧ S = xq n0 P (Q.set i (.inl (E.2.2.2 0, n, .inl (xfl f n v))))) 5 [(0, .ref (xB E + a)), (1, .int v), (2, .int (nI j)), (3, .int (nI n))] [] (xq n0 P (Q.set i (.inl (E.2.2.2 0, n, .inl (xfl f j v))))) := by
    intro k
    induction k with
    | zero =>
      intro j hj
      have hj : j = n := by omega
      subst hj
      refine x_iload_n dJ7_fill_53178_5 rfl ?_
      refine x_iload_n dJ7_fill_53178_6 rfl ?_
      refine x_icmp_ge 20 dJ7_fill_53178_7 (by decide) (fun _ => ?_) (fun hc => absurd (nI_le (Nat.le_refl j) hn) hc)
      exact x_vret dJ7_fill_53178_20 rfl ⟨rfl, rfl⟩
    | succ k ih =>
      intro j hj
      refine x_iload_n dJ7_fill_53178_5 rfl ?_
      refine x_iload_n dJ7_fill_53178_6 rfl ?_
      refine x_icmp_ge 20 dJ7_fill_53178_7 (by decide) (fun hc => absurd hc (nI_ge (by omega) hn)) (fun _ => ?_)
      refine x_aload_n dJ7_fill_53178_10 rfl ?_
      refine x_iload_n dJ7_fill_53178_11 rfl ?_
      refine x_iload_n dJ7_fill_53178_12 rfl ?_
      refine l_iast (n := n) (f := xfl f j v) i a hP dJ7_fill_53178_13 ha (List.getElem?_set_self hi) ?_ ?_
      · unfold xin
        rw [nI_clamp (by omega)]
        simp only [Bool.and_eq_true, Bool.not_eq_true', decide_eq_false_iff_not, decide_eq_true_eq]
        exact ⟨nI_pos (by omega), by omega⟩
      · rw [List.set_set, nI_clamp (by omega), xfl_step]
        refine x_iinc (v := nI (j + 1)) (lv' := [(0, .ref (xB E + a)), (1, .int v), (2, .int (nI (j + 1))), (3, .int (nI n))]) dJ7_fill_53178_14 2 [1, 2, 0, 3] rfl (nI_1 j) (by decide) rfl ?_
        refine x_goto 5 dJ7_fill_53178_17 (by decide) ?_
        exact ih (j + 1) (by omega)
  have h0 := loop n 0 (by omega)
  have e0 : xfl f 0 v = f := by funext k; simp [xfl]
  rw [e0, l_same hc] at h0
  exact h0
