/-! flat memory: the cells by a table of their shapes (xsh), the ints by place and number, the longs likewise -/
abbrev xI : Type := Nat → Nat → Int32
abbrev xL : Type := Nat → Nat → Int64
abbrev xMem : Type := xI × xL
def xmkF (E : xE) (I : xI) (a : Nat) : Nat → List Nat → List Value
  | _, [] => []
  | k, c :: t => (match c with | 0 => .int (I a k) | b + 1 => .ref (xB E + b)) :: xmkF E I a (k + 1) t
def xcell (E : xE) (m : xMem) (a : Nat) (q : Nat × Nat × List Nat) : va_E := match q.1 with
  | 0 => .inl (E.2.2.2 0, q.2.1, .inl (m.1 a))
  | 1 => .inl (E.2.2.2 1, q.2.1, .inl (m.1 a))
  | 2 => .inl (E.2.2.2 2, q.2.1, .inl (m.1 a))
  | 3 => .inl (E.2.2.2 3, q.2.1, .inr (.inl (m.2 a)))
  | 4 => .inl (E.2.2.2 4, q.2.1, .inr (.inr (.inr (.inr (fun i => if i < q.2.1 then some (xB E + (q.2.2.headD 0 + i)) else none)))))
  | _ => .inr (q.2.1, xmkF E m.1 a 0 q.2.2)
def xhp (E : xE) (m : xMem) : Nat → va_E := fun a => xcell E m a (xsh a)
def xf (E : xE) (m : xMem) : xS := (false, xnn, xhp E m)
def xst (I : xI) (a k : Nat) (v : Int32) : xI := fun b j => if b = a ∧ j = k then v else I b j
def xsl (L : xL) (a k : Nat) (v : Int64) : xL := fun b j => if b = a ∧ j = k then v else L b j
def xin (i : Int32) (n : Nat) : Bool := !(decide (i < 0)) && decide (i.toNatClampNeg < n)
theorem xin_vp {i : Int32} {n : Nat} (h : xin i n = true) : vp_in i n := by
  unfold xin at h
  simp only [Bool.and_eq_true, Bool.not_eq_true', decide_eq_false_iff_not, decide_eq_true_eq] at h
  exact fun q => q.elim h.1 (fun q => by omega)
theorem x_gd {α : Type} {b : Bool} {k : Option α} {out : α} (h : (if b = true then k else none) = some out) : b = true ∧ k = some out := by
  cases b with
  | true => exact ⟨rfl, by simpa using h⟩
  | false => simp at h
theorem x_gp {α : Type} {c : Prop} {_ : Decidable c} {k : Option α} {out : α} (h : (if c then none else k) = some out) : ¬ c ∧ k = some out := by
  by_cases hc : c
  · rw [if_pos hc] at h; cases h
  · rw [if_neg hc] at h; exact ⟨hc, h⟩
theorem xmkF_get {E : xE} {I : xI} {a : Nat} : ∀ (fl : List Nat) (j k : Nat), (xmkF E I a j fl)[k]? = (fl[k]?).map (fun c => match c with | 0 => Value.int (I a (j + k)) | b + 1 => Value.ref (xB E + b))
  | [], j, k => by simp [xmkF]
  | c :: t, j, 0 => by simp [xmkF]
  | c :: t, j, k + 1 => by
    simp only [xmkF, List.getElem?_cons_succ]
    rw [xmkF_get t (j + 1) k, show j + 1 + k = j + (k + 1) by omega]
theorem xmkF_len {E : xE} {I : xI} {a : Nat} : ∀ (fl : List Nat) (j : Nat), (xmkF E I a j fl).length = fl.length
  | [], j => rfl
  | c :: t, j => by simp [xmkF, xmkF_len t (j + 1)]
theorem xmkF_set {E : xE} {I : xI} {a k : Nat} {v : Int32} {fl : List Nat} (hk : fl[k]? = some 0) : (xmkF E I a 0 fl).set k (.int v) = xmkF E (xst I a k v) a 0 fl := by
  apply List.ext_getElem?
  intro i
  rw [xmkF_get, List.getElem?_set]
  by_cases hi : k = i
  · subst hi
    rw [if_pos rfl, hk, if_pos (by rw [xmkF_len]; exact (List.getElem?_eq_some_iff.mp hk).1)]
    simp [xst]
  · rw [if_neg hi, xmkF_get]
    cases hf : fl[i]? with
    | none => rfl
    | some c =>
      cases c with
      | zero => simp [xst, Ne.symm hi]
      | succ b => rfl
theorem xcell_ne {E : xE} {I : xI} {L : xL} {a k b : Nat} {v : Int32} (h : b ≠ a) (q : Nat × Nat × List Nat) : xcell E (xst I a k v, L) b q = xcell E (I, L) b q := by
  have e : ∀ j, xst I a k v b j = I b j := fun j => by simp [xst, h]
  have e1 : xst I a k v b = I b := funext e
  have e2 : ∀ (fl : List Nat) (i : Nat), xmkF E (xst I a k v) b i fl = xmkF E I b i fl := by
    intro fl
    induction fl with
    | nil => intro i; rfl
    | cons c t ih =>
      intro i
      simp only [xmkF, ih, e]
  unfold xcell
  simp only [e1, e2]
theorem xcell_neL {E : xE} {I : xI} {L : xL} {a k b : Nat} {v : Int64} (h : b ≠ a) (q : Nat × Nat × List Nat) : xcell E (I, xsl L a k v) b q = xcell E (I, L) b q := by
  have e1 : xsl L a k v b = L b := funext fun j => by simp [xsl, h]
  unfold xcell
  simp only [e1]
theorem xhp_up {E : xE} {m : xMem} {a k : Nat} {v : Int32} {e : va_E} (he : e = xcell E (xst m.1 a k v, m.2) a (xsh a)) : ∀ b, b < xnn → va_up (xhp E m) a e b = xhp E (xst m.1 a k v, m.2) b := by
  intro b _
  unfold va_up
  by_cases hb : b = a
  · subst hb
    rw [if_pos rfl, he]
    rfl
  · rw [if_neg hb]
    exact (xcell_ne hb _).symm
theorem xhp_upL {E : xE} {m : xMem} {a k : Nat} {v : Int64} {e : va_E} (he : e = xcell E (m.1, xsl m.2 a k v) a (xsh a)) : ∀ b, b < xnn → va_up (xhp E m) a e b = xhp E (m.1, xsl m.2 a k v) b := by
  intro b _
  unfold va_up
  by_cases hb : b = a
  · subst hb
    rw [if_pos rfl, he]
    rfl
  · rw [if_neg hb]
    exact (xcell_neL hb _).symm
section XFR
variable {E : xE} {M : xM} {d mc ms rc rs : Nat} {Q : Option Value → xS → Prop} {pc : Nat} {lv : List (Nat × Value)} {st : List Value} {m : xMem}
theorem f_getI {idx ci k a N : Nat} {C : String} {T : u_T} {ty : Nat → FieldType} {fl : List Nat} (hd : decode M.2.1 pc = .ok (.getfield idx, 3)) (hcl : xCl ci C T N ty) (hk : k < N) (hl : xFl M.1.cls idx T k) (ha : a < xnn) (hsh : xsh a = (5, ci, fl)) (hf : fl[k]? = some 0)
    (kk : xX E M d mc ms rc rs Q (pc + 3) lv (.int (m.1 a k) :: st) (xf E m)) : xX E M d mc ms rc rs Q pc lv (.ref (xB E + a) :: st) (xf E m) :=
  x_get (S := xf E m) (fs := xmkF E m.1 a 0 fl) hd hcl hk hl ha (by show xcell E m a (xsh a) = _; rw [hsh]; rfl) (by rw [xmkF_get, hf]; simp) kk
theorem f_getR {idx ci k a b N : Nat} {C : String} {T : u_T} {ty : Nat → FieldType} {fl : List Nat} (hd : decode M.2.1 pc = .ok (.getfield idx, 3)) (hcl : xCl ci C T N ty) (hk : k < N) (hl : xFl M.1.cls idx T k) (ha : a < xnn) (hsh : xsh a = (5, ci, fl)) (hf : fl[k]? = some (b + 1))
    (kk : xX E M d mc ms rc rs Q (pc + 3) lv (.ref (xB E + b) :: st) (xf E m)) : xX E M d mc ms rc rs Q pc lv (.ref (xB E + a) :: st) (xf E m) :=
  x_get (S := xf E m) (fs := xmkF E m.1 a 0 fl) hd hcl hk hl ha (by show xcell E m a (xsh a) = _; rw [hsh]; rfl) (by rw [xmkF_get, hf]; rfl) kk
theorem f_putI {idx ci k a N : Nat} {C : String} {T : u_T} {ty : Nat → FieldType} {fl : List Nat} {v : Int32} (hd : decode M.2.1 pc = .ok (.putfield idx, 3)) (hcl : xCl ci C T N ty) (hk : k < N) (hl : xFl M.1.cls idx T k) (hfin : (T k).2.2.2 = false) (hty : ty k = .int) (ha : a < xnn) (hsh : xsh a = (5, ci, fl)) (hf : fl[k]? = some 0)
    (kk : xX E M d mc ms rc rs Q (pc + 3) lv st (xf E (xst m.1 a k v, m.2))) : xX E M d mc ms rc rs Q pc lv (.int v :: .ref (xB E + a) :: st) (xf E m) :=
  x_put (S := xf E m) (fs := xmkF E m.1 a 0 fl) hd hcl hk hl hfin (by rw [hty]; exact vp_nar_int v) (by rw [hty]; rfl) ha (by show xcell E m a (xsh a) = _; rw [hsh]; rfl) (by rw [xmkF_len]; exact (List.getElem?_eq_some_iff.mp hf).1)
    (x_heq (xhp_up (k := k) (v := v) (by rw [hsh, xmkF_set hf]; rfl)) kk)
theorem f_iald {a n : Nat} {l : List Nat} {i : Int32} (hd : decode M.2.1 pc = .ok (.iaload, 1)) (ha : a < xnn) (hsh : xsh a = (0, n, l)) (hin : xin i n = true)
    (kk : xX E M d mc ms rc rs Q (pc + 1) lv (.int (m.1 a i.toNatClampNeg) :: st) (xf E m)) : xX E M d mc ms rc rs Q pc lv (.int i :: .ref (xB E + a) :: st) (xf E m) :=
  x_iald (S := xf E m) (f := m.1 a) hd ha (by show xcell E m a (xsh a) = _; rw [hsh]; rfl) (xin_vp hin) kk
theorem f_bald {a n : Nat} {l : List Nat} {i : Int32} (hd : decode M.2.1 pc = .ok (.baload, 1)) (ha : a < xnn) (hsh : xsh a = (1, n, l)) (hin : xin i n = true)
    (kk : xX E M d mc ms rc rs Q (pc + 1) lv (.int (m.1 a i.toNatClampNeg) :: st) (xf E m)) : xX E M d mc ms rc rs Q pc lv (.int i :: .ref (xB E + a) :: st) (xf E m) :=
  x_bald (S := xf E m) (f := m.1 a) hd ha (by show xcell E m a (xsh a) = _; rw [hsh]; rfl) (xin_vp hin) kk
theorem f_zald {a n : Nat} {l : List Nat} {i : Int32} (hd : decode M.2.1 pc = .ok (.baload, 1)) (ha : a < xnn) (hsh : xsh a = (2, n, l)) (hin : xin i n = true)
    (kk : xX E M d mc ms rc rs Q (pc + 1) lv (.int (m.1 a i.toNatClampNeg) :: st) (xf E m)) : xX E M d mc ms rc rs Q pc lv (.int i :: .ref (xB E + a) :: st) (xf E m) :=
  x_zald (S := xf E m) (f := m.1 a) hd ha (by show xcell E m a (xsh a) = _; rw [hsh]; rfl) (xin_vp hin) kk
theorem f_lald {a n : Nat} {l : List Nat} {i : Int32} (hd : decode M.2.1 pc = .ok (.laload, 1)) (ha : a < xnn) (hsh : xsh a = (3, n, l)) (hin : xin i n = true)
    (kk : xX E M d mc ms rc rs Q (pc + 1) lv (.long (m.2 a i.toNatClampNeg) :: st) (xf E m)) : xX E M d mc ms rc rs Q pc lv (.int i :: .ref (xB E + a) :: st) (xf E m) :=
  x_lald (S := xf E m) (f := m.2 a) hd ha (by show xcell E m a (xsh a) = _; rw [hsh]; rfl) (xin_vp hin) kk
theorem f_aald {a n r0 : Nat} {i : Int32} (hd : decode M.2.1 pc = .ok (.aaload, 1)) (ha : a < xnn) (hsh : xsh a = (4, n, [r0])) (hin : xin i n = true)
    (kk : xX E M d mc ms rc rs Q (pc + 1) lv (.ref (xB E + (r0 + i.toNatClampNeg)) :: st) (xf E m)) : xX E M d mc ms rc rs Q pc lv (.int i :: .ref (xB E + a) :: st) (xf E m) :=
  x_aald (S := xf E m) (f := fun i => if i < n then some (xB E + (r0 + i)) else none) hd ha (by show xcell E m a (xsh a) = _; rw [hsh]; rfl) (xin_vp hin) (if_pos (Nat.not_le.mp fun q => xin_vp hin (Or.inr q))) kk
theorem f_iast {a n : Nat} {l : List Nat} {i x : Int32} (hd : decode M.2.1 pc = .ok (.iastore, 1)) (ha : a < xnn) (hsh : xsh a = (0, n, l)) (hin : xin i n = true)
    (kk : xX E M d mc ms rc rs Q (pc + 1) lv st (xf E (xst m.1 a i.toNatClampNeg x, m.2))) : xX E M d mc ms rc rs Q pc lv (.int x :: .int i :: .ref (xB E + a) :: st) (xf E m) :=
  x_iast (S := xf E m) (f := m.1 a) hd ha (by show xcell E m a (xsh a) = _; rw [hsh]; rfl) (xin_vp hin) (x_heq (xhp_up (k := i.toNatClampNeg) (v := x) (by rw [hsh]; show _ = Sum.inl _; congr 3; refine congrArg Sum.inl (funext fun j => ?_); simp [xst, upd])) kk)
theorem f_bast {a n : Nat} {l : List Nat} {i x : Int32} (hd : decode M.2.1 pc = .ok (.bastore, 1)) (ha : a < xnn) (hsh : xsh a = (1, n, l)) (hin : xin i n = true)
    (kk : xX E M d mc ms rc rs Q (pc + 1) lv st (xf E (xst m.1 a i.toNatClampNeg (vp_nar .byte x), m.2))) : xX E M d mc ms rc rs Q pc lv (.int x :: .int i :: .ref (xB E + a) :: st) (xf E m) :=
  x_bast (S := xf E m) (f := m.1 a) hd ha (by show xcell E m a (xsh a) = _; rw [hsh]; rfl) (xin_vp hin) (x_heq (xhp_up (k := i.toNatClampNeg) (v := vp_nar .byte x) (by rw [hsh]; show _ = Sum.inl _; congr 3; refine congrArg Sum.inl (funext fun j => ?_); simp [xst, upd])) kk)
theorem f_zast {a n : Nat} {l : List Nat} {i x : Int32} (hd : decode M.2.1 pc = .ok (.bastore, 1)) (ha : a < xnn) (hsh : xsh a = (2, n, l)) (hin : xin i n = true)
    (kk : xX E M d mc ms rc rs Q (pc + 1) lv st (xf E (xst m.1 a i.toNatClampNeg (vp_nar .boolean x), m.2))) : xX E M d mc ms rc rs Q pc lv (.int x :: .int i :: .ref (xB E + a) :: st) (xf E m) :=
  x_zast (S := xf E m) (f := m.1 a) hd ha (by show xcell E m a (xsh a) = _; rw [hsh]; rfl) (xin_vp hin) (x_heq (xhp_up (k := i.toNatClampNeg) (v := vp_nar .boolean x) (by rw [hsh]; show _ = Sum.inl _; congr 3; refine congrArg Sum.inl (funext fun j => ?_); simp [xst, upd])) kk)
theorem f_last {a n : Nat} {l : List Nat} {i : Int32} {x : Int64} (hd : decode M.2.1 pc = .ok (.lastore, 1)) (ha : a < xnn) (hsh : xsh a = (3, n, l)) (hin : xin i n = true)
    (kk : xX E M d mc ms rc rs Q (pc + 1) lv st (xf E (m.1, xsl m.2 a i.toNatClampNeg x))) : xX E M d mc ms rc rs Q pc lv (.long x :: .int i :: .ref (xB E + a) :: st) (xf E m) :=
  x_last (S := xf E m) (f := m.2 a) hd ha (by show xcell E m a (xsh a) = _; rw [hsh]; rfl) (xin_vp hin) (x_heq (xhp_upL (k := i.toNatClampNeg) (v := x) (by rw [hsh]; show _ = Sum.inl _; congr 4; refine congrArg Sum.inl (funext fun j => ?_); simp [xsl, vp_updL])) kk)
theorem f_alen {a n t : Nat} {l : List Nat} {ty : FieldType} {v : Int32} (hd : decode M.2.1 pc = .ok (.arraylength, 1)) (ha : a < xnn) (hsh : xsh a = (t, n, l)) (ht : (xTys E)[t]? = some (E.2.2.2 t, ty)) (ht4 : t < 4) (hv : Int32.ofNat n = v)
    (kk : xX E M d mc ms rc rs Q (pc + 1) lv (.int v :: st) (xf E m)) : xX E M d mc ms rc rs Q pc lv (.ref (xB E + a) :: st) (xf E m) := by
  rcases (show t = 0 ∨ t = 1 ∨ t = 2 ∨ t = 3 by omega) with rfl | rfl | rfl | rfl
  · exact x_alen (S := xf E m) (z := (n, .inl (m.1 a))) hd ha (by show xcell E m a (xsh a) = _; rw [hsh]; rfl) ht hv kk
  · exact x_alen (S := xf E m) (z := (n, .inl (m.1 a))) hd ha (by show xcell E m a (xsh a) = _; rw [hsh]; rfl) ht hv kk
  · exact x_alen (S := xf E m) (z := (n, .inl (m.1 a))) hd ha (by show xcell E m a (xsh a) = _; rw [hsh]; rfl) ht hv kk
  · exact x_alen (S := xf E m) (z := (n, .inr (.inl (m.2 a)))) hd ha (by show xcell E m a (xsh a) = _; rw [hsh]; rfl) ht hv kk
/-- a method's contract over the flat memory: what it answers, the memory behind it -/
def xCi (E : xE) (M : xM) (d : Nat) (av : List Value) (m : xMem) (v : Int32) (m' : xMem) : Prop := xC E M d 0 0 av (xf E m) (fun r S => r = some (.int v) ∧ S = xf E m')
def xCl' (E : xE) (M : xM) (d : Nat) (av : List Value) (m : xMem) (v : Int64) (m' : xMem) : Prop := xC E M d 0 0 av (xf E m) (fun r S => r = some (.long v) ∧ S = xf E m')
def xCv (E : xE) (M : xM) (d : Nat) (av : List Value) (m : xMem) (m' : xMem) : Prop := xC E M d 0 0 av (xf E m) (fun r S => r = none ∧ S = xf E m')
variable {m' : xMem}
theorem f_cVi {idx n b ci N : Nat} {C : String} {T : u_T} {fl : List Nat} (M' : xM) {d' : Nat} (As : List Value) (rest : List Value) {v : Int32} (hd : decode M.2.1 pc = .ok (.invokevirtual idx, 3)) (hw : xCw M.1.cls idx M' n) (hi : xw (.instanceMethod M'.1) ∧ xw (.selects C M'.1 M'.1)) (hci : vwCl[ci]? = some (C, T, N)) (hb : b < xnn) (hsh : xsh b = (5, ci, fl))
    (hst : st = As.reverse ++ .ref (xB E + b) :: rest) (hn : As.length = n) (hcat : (rest.map fun v => v.category).sum ≤ 8) (hdd : d' < d) (hC' : xCi E M' d' (.ref (xB E + b) :: As) m v m')
    (kk : xX E M d mc ms rc rs Q (pc + 3) lv (.int v :: rest) (xf E m')) : xX E M d mc ms rc rs Q pc lv st (xf E m) :=
  x_callV (S := xf E m) M' As rest hd hw hi.1 hi.2 hci hb (by show xcell E m b (xsh b) = _; rw [hsh]; rfl) hst hn hcat hdd (Nat.zero_le _) (Nat.zero_le _) hC' (fun r S' hQ => by obtain ⟨rfl, rfl⟩ := hQ; exact kk)
theorem f_cVl {idx n b ci N : Nat} {C : String} {T : u_T} {fl : List Nat} (M' : xM) {d' : Nat} (As : List Value) (rest : List Value) {v : Int64} (hd : decode M.2.1 pc = .ok (.invokevirtual idx, 3)) (hw : xCw M.1.cls idx M' n) (hi : xw (.instanceMethod M'.1) ∧ xw (.selects C M'.1 M'.1)) (hci : vwCl[ci]? = some (C, T, N)) (hb : b < xnn) (hsh : xsh b = (5, ci, fl))
    (hst : st = As.reverse ++ .ref (xB E + b) :: rest) (hn : As.length = n) (hcat : (rest.map fun v => v.category).sum ≤ 8) (hdd : d' < d) (hC' : xCl' E M' d' (.ref (xB E + b) :: As) m v m')
    (kk : xX E M d mc ms rc rs Q (pc + 3) lv (.long v :: rest) (xf E m')) : xX E M d mc ms rc rs Q pc lv st (xf E m) :=
  x_callV (S := xf E m) M' As rest hd hw hi.1 hi.2 hci hb (by show xcell E m b (xsh b) = _; rw [hsh]; rfl) hst hn hcat hdd (Nat.zero_le _) (Nat.zero_le _) hC' (fun r S' hQ => by obtain ⟨rfl, rfl⟩ := hQ; exact kk)
theorem f_cVv {idx n b ci N : Nat} {C : String} {T : u_T} {fl : List Nat} (M' : xM) {d' : Nat} (As : List Value) (rest : List Value) (hd : decode M.2.1 pc = .ok (.invokevirtual idx, 3)) (hw : xCw M.1.cls idx M' n) (hi : xw (.instanceMethod M'.1) ∧ xw (.selects C M'.1 M'.1)) (hci : vwCl[ci]? = some (C, T, N)) (hb : b < xnn) (hsh : xsh b = (5, ci, fl))
    (hst : st = As.reverse ++ .ref (xB E + b) :: rest) (hn : As.length = n) (hcat : (rest.map fun v => v.category).sum ≤ 8) (hdd : d' < d) (hC' : xCv E M' d' (.ref (xB E + b) :: As) m m')
    (kk : xX E M d mc ms rc rs Q (pc + 3) lv rest (xf E m')) : xX E M d mc ms rc rs Q pc lv st (xf E m) :=
  x_callV (S := xf E m) M' As rest hd hw hi.1 hi.2 hci hb (by show xcell E m b (xsh b) = _; rw [hsh]; rfl) hst hn hcat hdd (Nat.zero_le _) (Nat.zero_le _) hC' (fun r S' hQ => by obtain ⟨rfl, rfl⟩ := hQ; exact kk)
theorem f_cSi {idx n : Nat} (M' : xM) {d' : Nat} (As : List Value) (rest : List Value) {v : Int32} (hd : decode M.2.1 pc = .ok (.invokestatic idx, 3)) (hw : xCw M.1.cls idx M' n) (hi : xw (.static M'.1))
    (hst : st = As.reverse ++ rest) (hn : As.length = n) (hcat : (rest.map fun v => v.category).sum ≤ 8) (hdd : d' < d) (hC' : xCi E M' d' As m v m')
    (kk : xX E M d mc ms rc rs Q (pc + 3) lv (.int v :: rest) (xf E m')) : xX E M d mc ms rc rs Q pc lv st (xf E m) :=
  x_callS (S := xf E m) M' As rest hd hw hi hst hn hcat hdd (Nat.zero_le _) (Nat.zero_le _) hC' (fun r S' hQ => by obtain ⟨rfl, rfl⟩ := hQ; exact kk)
theorem f_cSv {idx n : Nat} (M' : xM) {d' : Nat} (As : List Value) (rest : List Value) (hd : decode M.2.1 pc = .ok (.invokestatic idx, 3)) (hw : xCw M.1.cls idx M' n) (hi : xw (.static M'.1))
    (hst : st = As.reverse ++ rest) (hn : As.length = n) (hcat : (rest.map fun v => v.category).sum ≤ 8) (hdd : d' < d) (hC' : xCv E M' d' As m m')
    (kk : xX E M d mc ms rc rs Q (pc + 3) lv rest (xf E m')) : xX E M d mc ms rc rs Q pc lv st (xf E m) :=
  x_callS (S := xf E m) M' As rest hd hw hi hst hn hcat hdd (Nat.zero_le _) (Nat.zero_le _) hC' (fun r S' hQ => by obtain ⟨rfl, rfl⟩ := hQ; exact kk)
end XFR
def xfuel : Nat := 2000
theorem x_ift {α : Type} {c : Prop} {_ : Decidable c} {a b : Option α} {out : α} (hc : c) (h : (if c then a else b) = some out) : a = some out := by rw [if_pos hc] at h; exact h
theorem x_iff {α : Type} {c : Prop} {_ : Decidable c} {a b : Option α} {out : α} (hc : ¬ c) (h : (if c then a else b) = some out) : b = some out := by rw [if_neg hc] at h; exact h
def xbb (v : Int32) : Bool := decide (v = 0) || decide (v = 1)
theorem xbb_n {v : Int32} (h : xbb v = true) : narrow .boolean (.int v) = .int v := by
  unfold xbb at h
  simp only [Bool.or_eq_true, decide_eq_true_eq] at h
  rcases h with rfl | rfl <;> decide
theorem xin_lt {i : Int32} {n : Nat} (h : xin i n = true) : i.toNatClampNeg < n := Nat.not_le.mp fun q => xin_vp h (Or.inr q)
theorem xtab_out {x : Int32} (lo hi : Int) (ks : List Int32) (hk : (List.range ((hi - lo).toNat + 1)).all (fun i => ks.contains (Int32.ofInt (lo + i))) = true) (h : ∀ z ∈ ks, ¬ x = z) : x.toInt < lo ∨ hi < x.toInt := by
  by_cases h1 : x.toInt < lo
  · exact Or.inl h1
  · by_cases h2 : hi < x.toInt
    · exact Or.inr h2
    · have h3 := List.all_eq_true.mp hk (x.toInt - lo).toNat (List.mem_range.mpr (by omega))
      have h4 : lo + ((x.toInt - lo).toNat : Nat) = x.toInt := by omega
      rw [h4, Int32.ofInt_toInt] at h3
      exact absurd rfl (h x (by simpa using h3))
section XLW
variable {E : xE} {M : xM} {d mc ms rc rs : Nat} {Q : Option Value → xS → Prop} {pc : Nat} {lv : List (Nat × Value)} {st : List Value} {S : xS}
theorem x_ldcw {idx : Nat} {v : Int32} (hd : decode M.2.1 pc = .ok (.ldc_w idx, 3)) (hw : xw (.constant M.1.cls idx v)) (kk : xX E M d mc ms rc rs Q (pc + 3) lv (.int v :: st) S) : xX E M d mc ms rc rs Q pc lv st S := by
  intro hG p e s m args below meth c H locs cells slots ls hC hs hH hlo hlv hc1 hs1
  exact lv_ldcw hC.1 hC.2.1 hC.2.2.2.1 (x_word hG hC.2.2.2.2.2.2.2.1 hw args) hd (kk hG p e s m args below meth c H locs cells slots ls hC hs hH hlo hlv hc1 hs1)
end XLW
