/-! the X layer: fields, arrays, returns, calls -/
/-- a class of the tables: number, name, fields, their types -/
def xCl (ci : Nat) (C : String) (T : u_T) (N : Nat) (ty : Nat → FieldType) : Prop :=
  vwCl[ci]? = some (C, T, N) ∧ (∀ w ∈ u_ws C T N, xw w) ∧ (∀ k, k < N → parseFieldDescriptor (T k).2.2.1 = some (ty k)) ∧ ∀ a, a < N → ∀ b, b < N → a ≠ b → (T a).2.1 ≠ (T b).2.1
/-- a field's row of the pool: of the own class, or a nest mate's -/
def xFl (own : String) (idx : Nat) (T : u_T) (k : Nat) : Prop :=
  xw (.fieldLink own idx (T k).1 (T k).2.1 (T k).2.2.1) ∨ ∃ host, xw (.fieldLinkNest own idx (T k).1 (T k).2.1 (T k).2.2.1 host)
theorem x_one {D : va_G} {a : Nat} {e : va_E} {H : Heap} (h : va_at D vwCl (a, e) H) : va_P D vwCl [(a, e)] H := fun k q hq => by
  have hz : k < 1 := (List.getElem?_eq_some_iff.mp hq).1
  rw [show k = 0 by omega] at hq
  cases hq
  exact h
theorem x_cell {E : xE} {S : xS} {H : Heap} (hH : xH E S H) {a : Nat} {e : va_E} (ha : a < S.2.1) (hc : S.2.2 a = e) : va_at E.2.2.1 vwCl (xB E + a, e) H := by
  have h := hH.2.2.1 a ha
  rw [hc] at h
  exact h
theorem x_upd {E : xE} {S : xS} {H H' : Heap} (hH : xH E S H) {a : Nat} {e : va_E} (hz : H'.size = H.size) (ho : ∀ q, q ≠ xB E + a → H'[q]? = H[q]?) (he : va_at E.2.2.1 vwCl (xB E + a, e) H') : xH E (S.1, S.2.1, va_up S.2.2 a e) H' := by
  obtain ⟨h1, h2, h3, h4⟩ := hH
  refine ⟨by rw [hz]; exact h1, fun h => by rw [hz]; exact h2 h, fun b hb => ?_, fun q hq => by rw [ho q (by omega)]; exact h4 q hq⟩
  by_cases hba : b = a
  · subst hba
    show va_at E.2.2.1 vwCl (xB E + b, va_up S.2.2 b e b) H'
    rw [show va_up _ _ e b = e from if_pos rfl]
    exact he
  · show va_at E.2.2.1 vwCl (xB E + b, va_up S.2.2 a e b) H'
    rw [show va_up _ _ e b = _ from if_neg hba]
    exact (h3 b hb).kept (ho _ (by show xB E + b ≠ xB E + a; omega))
theorem x_push {E : xE} {n : Nat} {h : Nat → va_E} {H H' : Heap} (hH : xH E (true, n, h) H) {e : va_E} (hz : H'.size = xB E + n + 1) (ho : ∀ q, q < xB E + n → H'[q]? = H[q]?) (he : va_at E.2.2.1 vwCl (xB E + n, e) H') : xH E (true, n + 1, va_up h n e) H' := by
  obtain ⟨h1, h2, h3, h4⟩ := hH
  refine ⟨by rw [hz]; exact Nat.le_refl _, fun _ => hz, fun b hb => ?_, fun q hq => by rw [ho q (by omega)]; exact h4 q hq⟩
  have hb : b < n + 1 := hb
  by_cases hba : b = n
  · subst hba
    show va_at E.2.2.1 vwCl (xB E + b, va_up h b e b) H'
    rw [show va_up _ _ e b = e from if_pos rfl]
    exact he
  · show va_at E.2.2.1 vwCl (xB E + b, va_up h n e b) H'
    rw [show va_up _ _ e b = _ from if_neg hba]
    exact (h3 b (by show b < n; omega)).kept (ho _ (by show xB E + b < xB E + n; omega))
theorem x_locs {E : xE} {locs : List Loc} {a k : Nat} (h : ∀ q ∈ locs, xB E ≤ q.base) : ∀ q ∈ locs ++ [(⟨xB E + a, k⟩ : Loc)], xB E ≤ q.base := by
  intro q hq
  rcases List.mem_append.mp hq with h1 | h1
  · exact h q h1
  · rw [List.mem_singleton.mp h1]
    exact Nat.le_add_right _ _
section XHR
variable {E : xE} {M : xM} {d mc ms rc rs : Nat} {Q : Option Value → xS → Prop} {pc : Nat} {lv : List (Nat × Value)} {st : List Value} {S : xS}
/-- the same cells, told otherwise -/
theorem x_heq {x : Bool} {n : Nat} {h h' : Nat → va_E} (he : ∀ a, a < n → h a = h' a) (kk : xX E M d mc ms rc rs Q pc lv st (x, n, h')) : xX E M d mc ms rc rs Q pc lv st (x, n, h) := by
  intro hG p e s m args below meth c H locs cells slots ls hC hs hH hlo hlv hc1 hs1
  refine kk hG p e s m args below meth c H locs cells slots ls hC hs ⟨hH.1, hH.2.1, fun a ha => ?_, hH.2.2.2⟩ hlo hlv hc1 hs1
  show va_at _ _ (_, h' a) _
  rw [← he a ha]
  exact hH.2.2.1 a ha
theorem x_Q {Q' : Option Value → xS → Prop} (hQ : ∀ v S, Q' v S → Q v S) (kk : xX E M d mc ms rc rs Q' pc lv st S) : xX E M d mc ms rc rs Q pc lv st S := by
  intro hG p e s m args below meth c H locs cells slots ls hC hs hH hlo hlv hc1 hs1 T hT X
  obtain ⟨t, a1, o, b1, b2, ⟨v, S', c1, c2, c3, c4⟩, b4⟩ := kk hG p e s m args below meth c H locs cells slots ls hC hs hH hlo hlv hc1 hs1 T hT X
  exact ⟨t, a1, o, b1, b2, ⟨v, S', c1, c2, c3, hQ _ _ c4⟩, b4⟩
theorem x_get {idx ci k a N : Nat} {C : String} {T : u_T} {ty : Nat → FieldType} {fs : List Value} {v : Value} (hd : decode M.2.1 pc = .ok (.getfield idx, 3)) (hcl : xCl ci C T N ty) (hk : k < N) (hl : xFl M.1.cls idx T k) (ha : a < S.2.1) (hc : S.2.2 a = .inr (ci, fs)) (hv : fs[k]? = some v)
    (kk : xX E M d mc ms rc rs Q (pc + 3) lv (v :: st) S) : xX E M d mc ms rc rs Q pc lv (.ref (xB E + a) :: st) S := by
  intro hG p e s m args below meth c H locs cells slots ls hC hs hH hlo hlv hc1 hs1
  obtain ⟨q1, q2, q3, q4, q5, q6, q7, q8, q9, q10⟩ := id hC
  have hts : ∀ w ∈ u_ws C T N, w.before args s = true := fun w hw => x_word hG q8 (hcl.2.1 w hw) args
  have hP := x_one (x_cell hH ha hc)
  have k1 := kk hG p e s m args below meth c H locs cells slots ls hC hs hH hlo hlv hc1 hs1
  rcases hl with h4 | ⟨host, h4⟩
  · exact va_get q1 q2 hts (fun _ h => h) q4 (x_K hG q8) hP 0 rfl hcl.1 k hk (x_word hG q8 h4 args) (fun _ h => h) hv hd k1
  · exact va_getN q1 q2 hts (fun _ h => h) q4 (x_K hG q8) hP 0 rfl hcl.1 k hk (x_word hG q8 h4 args) (fun _ h => h) hv hd k1
theorem x_put {idx ci k a N : Nat} {C : String} {T : u_T} {ty : Nat → FieldType} {fs : List Value} {v : Value} (hd : decode M.2.1 pc = .ok (.putfield idx, 3)) (hcl : xCl ci C T N ty) (hk : k < N) (hl : xFl M.1.cls idx T k) (hfin : (T k).2.2.2 = false) (hn : narrow (ty k) v = v) (hfit : fits (ty k) v = true) (ha : a < S.2.1) (hc : S.2.2 a = .inr (ci, fs)) (hkl : k < fs.length)
    (kk : xX E M d mc ms rc rs Q (pc + 3) lv st (S.1, S.2.1, va_up S.2.2 a (.inr (ci, fs.set k v)))) : xX E M d mc ms rc rs Q pc lv (v :: .ref (xB E + a) :: st) S := by
  intro hG p e s m args below meth c H locs cells slots ls hC hs hH hlo hlv hc1 hs1
  obtain ⟨q1, q2, q3, q4, q5, q6, q7, q8, q9, q10⟩ := id hC
  obtain ⟨hci, hws, hty, hnm⟩ := hcl
  have hts : ∀ w ∈ u_ws C T N, w.before args s = true := fun w hw => x_word hG q8 (hws w hw) args
  have hK := x_K hG q8
  have hap := va_apart (own := M.1.cls) hts (fun _ h => h) ty hty hnm hK hci
  obtain ⟨r, h1, cell, z1, z2, z3, z4⟩ := x_cell hH ha hc
  have hr : r = (C, T, N) := Option.some.inj (h1.symm.trans hci)
  subst hr
  obtain ⟨hS, hfc, kC, hkC, hkind⟩ := hK.1 ci _ hci
  obtain ⟨cf, kf, fi, f, hi, hsl⟩ := hS k hk
  have hlay := hts _ (u_in_lay hk)
  unfold u_lay at hlay
  rw [if_neg (by rw [hfin]; decide)] at hlay
  have hst := (u_facts hfc hkC (u_lays hts (fun _ h => h) hk) hi).1
  have h6 := u_store hfc hkC hkind hlay hi (hty k hk) hn hfit
  have fin : ∀ H' : Heap, H'[xB E + a]? = some (cell.setSlot f.slot v) → H'.size = H.size → (∀ q, q ≠ xB E + a → H'[q]? = H[q]?) → W p E.1 e (xR d mc ms) s m args below meth c H' (locs ++ [⟨xB E + a, f.slot⟩]) cells slots (MQ below (xQc E Q) args s mc ms (fun q => xB E ≤ q)) (F0 m (pc + 3) ls st) := by
    intro H' e1 e2 e3
    rw [hsl] at e1
    refine kk hG p e s m args below meth c H' _ cells slots ls hC (by rw [e2]; exact hs) (x_upd hH e2 e3 ?_) (x_locs hlo) hlv hc1 hs1
    exact ⟨_, hci, t_OB.to (V := updV (vp_V fs) k v) ⟨_, e1, z2, z3, t_set z4 hap hk v⟩ (fun j _ => vp_updV_set hkl v j)⟩
  rcases hl with h4 | ⟨host, h4⟩
  · exact W.putK q1 q2 (f := f) ⟨q4, x_word hG q8 h4 args, ⟨_, _, _, hi⟩, hst⟩ (by rw [z2]; exact h6) z1 z3 (by rw [hsl]; exact k2_hasslot (z4 k hk)) rfl rfl hd fin
  · exact va_WputK q1 q2 (f := f) q4 (x_word hG q8 h4 args) hi hst (by rw [z2]; exact h6) z1 z3 (by rw [hsl]; exact k2_hasslot (z4 k hk)) rfl rfl hd fin
theorem x_putF {idx ci k a N : Nat} {C : String} {T : u_T} {ty : Nat → FieldType} {fs : List Value} {v : Value} (hd : decode M.2.1 pc = .ok (.putfield idx, 3)) (hcl : xCl ci C T N ty) (hk : k < N) (hl : xw (.fieldLink M.1.cls idx (T k).1 (T k).2.1 (T k).2.2.1)) (hfin : (T k).2.2.2 = true) (hnm0 : M.1.name = "<init>") (hdecl : (T k).1 = M.1.cls) (hn : narrow (ty k) v = v) (hfit : fits (ty k) v = true) (ha : a < S.2.1) (hc : S.2.2 a = .inr (ci, fs)) (hkl : k < fs.length)
    (kk : xX E M d mc ms rc rs Q (pc + 3) lv st (S.1, S.2.1, va_up S.2.2 a (.inr (ci, fs.set k v)))) : xX E M d mc ms rc rs Q pc lv (v :: .ref (xB E + a) :: st) S := by
  intro hG p e s m args below meth c H locs cells slots ls hC hs hH hlo hlv hc1 hs1
  obtain ⟨q1, q2, q3, q4, q5, q6, q7, q8, q9, q10⟩ := id hC
  obtain ⟨hci, hws, hty, hnm⟩ := hcl
  have hts : ∀ w ∈ u_ws C T N, w.before args s = true := fun w hw => x_word hG q8 (hws w hw) args
  have hK := x_K hG q8
  have hap := va_apart (own := M.1.cls) hts (fun _ h => h) ty hty hnm hK hci
  obtain ⟨r, h1, cell, z1, z2, z3, z4⟩ := x_cell hH ha hc
  have hr : r = (C, T, N) := Option.some.inj (h1.symm.trans hci)
  subst hr
  obtain ⟨hS, hfc, kC, hkC, hkind⟩ := hK.1 ci _ hci
  obtain ⟨cf, kf, fi, f, hi, hsl⟩ := hS k hk
  have hlay := hts _ (u_in_lay hk)
  unfold u_lay at hlay
  rw [if_pos hfin] at hlay
  have hst := (u_facts hfc hkC (u_lays hts (fun _ h => h) hk) hi).1
  have hcf : m.cls = cf := by
    obtain ⟨_, _, c', _, _, _, -, -, hf', -, -, -, hown2, -⟩ := Cond.laysFinal_spec hlay
    have e1 : c' = cf := by have := hi.symm.trans hf'; simp at this; exact this.1.symm
    rw [hdecl] at hown2
    rw [← e1]; exact Option.some.inj (q4.symm.trans hown2)
  have h6 := u_fits hfc hkC hkind (Or.inr hlay) hi (hty k hk) hn hfit
  refine W.putFinK q1 q2 q4 (x_word hG q8 hl args) hi hst hcf (by rw [q7]; exact hnm0) (by rw [z2]; exact h6) z1 z3 (by rw [hsl]; exact k2_hasslot (z4 k hk)) rfl rfl hd fun H' e1 e2 e3 => ?_
  rw [hsl] at e1
  refine kk hG p e s m args below meth c H' _ cells slots ls hC (by rw [e2]; exact hs) (x_upd hH e2 e3 ?_) (x_locs hlo) hlv hc1 hs1
  exact ⟨_, hci, t_OB.to (V := updV (vp_V fs) k v) ⟨_, e1, z2, z3, t_set z4 hap hk v⟩ (fun j _ => vp_updV_set hkl v j)⟩
theorem x_iald {a n : Nat} {f : Nat → Int32} {i : Int32} (hd : decode M.2.1 pc = .ok (.iaload, 1)) (ha : a < S.2.1) (hc : S.2.2 a = .inl (E.2.2.2 0, n, .inl f)) (hin : vp_in i n)
    (kk : xX E M d mc ms rc rs Q (pc + 1) lv (.int (f i.toNatClampNeg) :: st) S) : xX E M d mc ms rc rs Q pc lv (.int i :: .ref (xB E + a) :: st) S := by
  intro hG p e s m args below meth c H locs cells slots ls hC hs hH hlo hlv hc1 hs1
  exact va_iald hC.1 hC.2.1 (x_K hG hC.2.2.2.2.2.2.2.1) (x_one (x_cell hH ha hc)) 0 0 rfl rfl hin hd (kk hG p e s m args below meth c H locs cells slots ls hC hs hH hlo hlv hc1 hs1)
theorem x_bald {a n : Nat} {f : Nat → Int32} {i : Int32} (hd : decode M.2.1 pc = .ok (.baload, 1)) (ha : a < S.2.1) (hc : S.2.2 a = .inl (E.2.2.2 1, n, .inl f)) (hin : vp_in i n)
    (kk : xX E M d mc ms rc rs Q (pc + 1) lv (.int (f i.toNatClampNeg) :: st) S) : xX E M d mc ms rc rs Q pc lv (.int i :: .ref (xB E + a) :: st) S := by
  intro hG p e s m args below meth c H locs cells slots ls hC hs hH hlo hlv hc1 hs1
  exact va_bald hC.1 hC.2.1 (x_K hG hC.2.2.2.2.2.2.2.1) (x_one (x_cell hH ha hc)) 0 1 rfl rfl hin hd (kk hG p e s m args below meth c H locs cells slots ls hC hs hH hlo hlv hc1 hs1)
theorem x_zald {a n : Nat} {f : Nat → Int32} {i : Int32} (hd : decode M.2.1 pc = .ok (.baload, 1)) (ha : a < S.2.1) (hc : S.2.2 a = .inl (E.2.2.2 2, n, .inl f)) (hin : vp_in i n)
    (kk : xX E M d mc ms rc rs Q (pc + 1) lv (.int (f i.toNatClampNeg) :: st) S) : xX E M d mc ms rc rs Q pc lv (.int i :: .ref (xB E + a) :: st) S := by
  intro hG p e s m args below meth c H locs cells slots ls hC hs hH hlo hlv hc1 hs1
  exact va_zald hC.1 hC.2.1 (x_K hG hC.2.2.2.2.2.2.2.1) (x_one (x_cell hH ha hc)) 0 2 rfl rfl hin hd (kk hG p e s m args below meth c H locs cells slots ls hC hs hH hlo hlv hc1 hs1)
theorem x_lald {a n : Nat} {f : Nat → Int64} {i : Int32} (hd : decode M.2.1 pc = .ok (.laload, 1)) (ha : a < S.2.1) (hc : S.2.2 a = .inl (E.2.2.2 3, n, .inr (.inl f))) (hin : vp_in i n)
    (kk : xX E M d mc ms rc rs Q (pc + 1) lv (.long (f i.toNatClampNeg) :: st) S) : xX E M d mc ms rc rs Q pc lv (.int i :: .ref (xB E + a) :: st) S := by
  intro hG p e s m args below meth c H locs cells slots ls hC hs hH hlo hlv hc1 hs1
  exact va_lald hC.1 hC.2.1 (x_K hG hC.2.2.2.2.2.2.2.1) (x_one (x_cell hH ha hc)) 0 3 rfl rfl hin hd (kk hG p e s m args below meth c H locs cells slots ls hC hs hH hlo hlv hc1 hs1)
theorem x_aald {a n b : Nat} {f : Nat → Option Nat} {i : Int32} (hd : decode M.2.1 pc = .ok (.aaload, 1)) (ha : a < S.2.1) (hc : S.2.2 a = .inl (E.2.2.2 4, n, .inr (.inr (.inr (.inr f))))) (hin : vp_in i n) (hb : f i.toNatClampNeg = some b)
    (kk : xX E M d mc ms rc rs Q (pc + 1) lv (.ref b :: st) S) : xX E M d mc ms rc rs Q pc lv (.int i :: .ref (xB E + a) :: st) S := by
  intro hG p e s m args below meth c H locs cells slots ls hC hs hH hlo hlv hc1 hs1
  have hlt : i.toNatClampNeg < n := Nat.not_le.mp fun q => hin (Or.inr q)
  have hK := x_K hG hC.2.2.2.2.2.2.2.1
  exact W.aald (v := .ref b) (ty := .array .int) hC.1 hC.2.1 (x_cell hH ha hc) ((hK.2 4 _ rfl).1 n (fun j => va_rf (f j))) rfl (fun q => by cases q) (by show ¬ (i < 0 ∨ (arrV _ _ _).slots.size ≤ _); rw [arrV_size]; exact hin) (by show (arrV _ _ _).slots[_]? = _; rw [arrV_read _ _ hlt, hb]; rfl) rfl rfl hd (kk hG p e s m args below meth c H locs cells slots ls hC hs hH hlo hlv hc1 hs1)
theorem x_alen {a t : Nat} {z : vp_A} {ty : FieldType} {v : Int32} (hd : decode M.2.1 pc = .ok (.arraylength, 1)) (ha : a < S.2.1) (hc : S.2.2 a = .inl (E.2.2.2 t, z)) (ht : (xTys E)[t]? = some (E.2.2.2 t, ty)) (hv : Int32.ofNat z.1 = v)
    (kk : xX E M d mc ms rc rs Q (pc + 1) lv (.int v :: st) S) : xX E M d mc ms rc rs Q pc lv (.ref (xB E + a) :: st) S := by
  intro hG p e s m args below meth c H locs cells slots ls hC hs hH hlo hlv hc1 hs1
  exact va_alen hC.1 hC.2.1 (x_K hG hC.2.2.2.2.2.2.2.1) (x_one (x_cell hH ha hc)) 0 t rfl ht hv hd (kk hG p e s m args below meth c H locs cells slots ls hC hs hH hlo hlv hc1 hs1)
theorem x_iast {a n : Nat} {f : Nat → Int32} {i x : Int32} (hd : decode M.2.1 pc = .ok (.iastore, 1)) (ha : a < S.2.1) (hc : S.2.2 a = .inl (E.2.2.2 0, n, .inl f)) (hin : vp_in i n)
    (kk : xX E M d mc ms rc rs Q (pc + 1) lv st (S.1, S.2.1, va_up S.2.2 a (.inl (E.2.2.2 0, n, .inl (upd f i.toNatClampNeg x))))) : xX E M d mc ms rc rs Q pc lv (.int x :: .int i :: .ref (xB E + a) :: st) S := by
  intro hG p e s m args below meth c H locs cells slots ls hC hs hH hlo hlv hc1 hs1
  have hK := x_K hG hC.2.2.2.2.2.2.2.1
  refine W.iast hC.1 hC.2.1 (x_cell hH ha hc) ((hK.2 0 _ rfl).1 n (fun j => .int (f j))) (fun q => by cases q) (by show ¬ (i < 0 ∨ (arrV _ _ _).slots.size ≤ _); rw [arrV_size]; exact hin) rfl rfl hd fun H1 e1 z oq => ?_
  refine kk hG p e s m args below meth c H1 _ cells slots ls hC (by rw [z]; exact hs) (x_upd hH z oq ?_) (x_locs hlo) hlv hc1 hs1
  show H1[_]? = some (vp_cell _ _)
  rw [e1, vp_cell_i, vp_cell_i, arrV_store]
  congr 2
  funext q
  by_cases hq : q = i.toNatClampNeg
  · subst hq
    simp [updV, upd]
  · simp [updV, upd, hq]
theorem x_bast {a n : Nat} {f : Nat → Int32} {i x : Int32} (hd : decode M.2.1 pc = .ok (.bastore, 1)) (ha : a < S.2.1) (hc : S.2.2 a = .inl (E.2.2.2 1, n, .inl f)) (hin : vp_in i n)
    (kk : xX E M d mc ms rc rs Q (pc + 1) lv st (S.1, S.2.1, va_up S.2.2 a (.inl (E.2.2.2 1, n, .inl (upd f i.toNatClampNeg (vp_nar .byte x)))))) : xX E M d mc ms rc rs Q pc lv (.int x :: .int i :: .ref (xB E + a) :: st) S := by
  intro hG p e s m args below meth c H locs cells slots ls hC hs hH hlo hlv hc1 hs1
  have hK := x_K hG hC.2.2.2.2.2.2.2.1
  refine W.bast hC.1 hC.2.1 (x_cell hH ha hc) ((hK.2 1 _ rfl).1 n (fun j => .int (f j))) (fun q => by cases q) (by show ¬ (i < 0 ∨ (arrV _ _ _).slots.size ≤ _); rw [arrV_size]; exact hin) rfl rfl hd fun H1 e1 z oq => ?_
  refine kk hG p e s m args below meth c H1 _ cells slots ls hC (by rw [z]; exact hs) (x_upd hH z oq ?_) (x_locs hlo) hlv hc1 hs1
  show H1[_]? = some (vp_cell _ _)
  rw [e1, vp_cell_i, vp_cell_i, arrV_store]
  congr 2
  funext q
  by_cases hq : q = i.toNatClampNeg
  · subst hq
    simp [updV, upd, vp_nar]
    try rfl
  · simp [updV, upd, hq]
theorem x_zast {a n : Nat} {f : Nat → Int32} {i x : Int32} (hd : decode M.2.1 pc = .ok (.bastore, 1)) (ha : a < S.2.1) (hc : S.2.2 a = .inl (E.2.2.2 2, n, .inl f)) (hin : vp_in i n)
    (kk : xX E M d mc ms rc rs Q (pc + 1) lv st (S.1, S.2.1, va_up S.2.2 a (.inl (E.2.2.2 2, n, .inl (upd f i.toNatClampNeg (vp_nar .boolean x)))))) : xX E M d mc ms rc rs Q pc lv (.int x :: .int i :: .ref (xB E + a) :: st) S := by
  intro hG p e s m args below meth c H locs cells slots ls hC hs hH hlo hlv hc1 hs1
  have hK := x_K hG hC.2.2.2.2.2.2.2.1
  refine W.zast hC.1 hC.2.1 (x_cell hH ha hc) ((hK.2 2 _ rfl).1 n (fun j => .int (f j))) (fun q => by cases q) (by show ¬ (i < 0 ∨ (arrV _ _ _).slots.size ≤ _); rw [arrV_size]; exact hin) rfl rfl hd fun H1 e1 z oq => ?_
  refine kk hG p e s m args below meth c H1 _ cells slots ls hC (by rw [z]; exact hs) (x_upd hH z oq ?_) (x_locs hlo) hlv hc1 hs1
  show H1[_]? = some (vp_cell _ _)
  rw [e1, vp_cell_i, vp_cell_i, arrV_store]
  congr 2
  funext q
  by_cases hq : q = i.toNatClampNeg
  · subst hq
    simp [updV, upd, vp_nar]
    try rfl
  · simp [updV, upd, hq]
theorem x_last {a n : Nat} {f : Nat → Int64} {i : Int32} {x : Int64} (hd : decode M.2.1 pc = .ok (.lastore, 1)) (ha : a < S.2.1) (hc : S.2.2 a = .inl (E.2.2.2 3, n, .inr (.inl f))) (hin : vp_in i n)
    (kk : xX E M d mc ms rc rs Q (pc + 1) lv st (S.1, S.2.1, va_up S.2.2 a (.inl (E.2.2.2 3, n, .inr (.inl (vp_updL f i.toNatClampNeg x)))))) : xX E M d mc ms rc rs Q pc lv (.long x :: .int i :: .ref (xB E + a) :: st) S := by
  intro hG p e s m args below meth c H locs cells slots ls hC hs hH hlo hlv hc1 hs1
  have hK := x_K hG hC.2.2.2.2.2.2.2.1
  refine W.last hC.1 hC.2.1 (x_cell hH ha hc) ((hK.2 3 _ rfl).1 n (fun j => .long (f j))) (fun q => by cases q) (by show ¬ (i < 0 ∨ (arrV _ _ _).slots.size ≤ _); rw [arrV_size]; exact hin) rfl rfl hd fun H1 e1 z oq => ?_
  refine kk hG p e s m args below meth c H1 _ cells slots ls hC (by rw [z]; exact hs) (x_upd hH z oq ?_) (x_locs hlo) hlv hc1 hs1
  show H1[_]? = some (vp_cell _ _)
  rw [e1, vp_cell_l, vp_cell_l, arrV_store]
  congr 2
  funext q
  by_cases hq : q = i.toNatClampNeg
  · subst hq
    simp [updV, vp_updL]
  · simp [updV, vp_updL, hq]
theorem x_ldc {idx : Nat} {v : Int32} (hd : decode M.2.1 pc = .ok (.ldc idx, 2)) (hw : xw (.constant M.1.cls idx v)) (kk : xX E M d mc ms rc rs Q (pc + 2) lv (.int v :: st) S) : xX E M d mc ms rc rs Q pc lv st S := by
  intro hG p e s m args below meth c H locs cells slots ls hC hs hH hlo hlv hc1 hs1
  exact W.ldc hC.1 hC.2.1 hC.2.2.2.1 (x_word hG hC.2.2.2.2.2.2.2.1 hw args) (g := F0 m pc ls st) rfl hd (kk hG p e s m args below meth c H locs cells slots ls hC hs hH hlo hlv hc1 hs1)
theorem x_ldc2 {idx : Nat} {v : Int64} (hd : decode M.2.1 pc = .ok (.ldc2_w idx, 3)) (hw : xw (.constantLong M.1.cls idx v)) (kk : xX E M d mc ms rc rs Q (pc + 3) lv (.long v :: st) S) : xX E M d mc ms rc rs Q pc lv st S := by
  intro hG p e s m args below meth c H locs cells slots ls hC hs hH hlo hlv hc1 hs1
  exact W.ldc2 hC.1 hC.2.1 hC.2.2.2.1 (x_word hG hC.2.2.2.2.2.2.2.1 hw args) (g := F0 m pc ls st) rfl hd (kk hG p e s m args below meth c H locs cells slots ls hC hs hH hlo hlv hc1 hs1)
theorem x_done {E : xE} {Q : Option Value → xS → Prop} {v : Option Value} {S : xS} (hQ : Q v S) {s t : State} {H : Heap} {args : Array Value} (hH : xH E S H) (hW : E.2.1.WarmedH s.vm) (ht : t.heap = H) (hw : s.WarmedH t.vm) : xQc E Q args s (.returned v) t :=
  ⟨v, S, rfl, State.WarmedH.trans hW hw, by rw [ht]; exact hH, hQ⟩
theorem x_iret {v : Int32} (hd : decode M.2.1 pc = .ok (.ireturn, 1)) (hr : M.2.2.2 = some .int) (hQ : Q (some (.int v)) S) : xX E M d mc ms rc rs Q pc lv [.int v] S := by
  intro hG p e s m args below meth c H locs cells slots ls hC hs hH hlo hlv hc1 hs1
  obtain ⟨q1, q2, q3, q4, q5, q6, q7, q8, q9, q10⟩ := id hC
  refine W.widen (k := mc) (n := ms) (by omega) (by omega) ?_
  exact W.iret q1 q2 (by rw [q5]; exact hr) (fun t ht hw => x_done hQ hH q8 ht hw) hlo hd q6
theorem x_zret {v : Int32} {ty : FieldType} (hd : decode M.2.1 pc = .ok (.ireturn, 1)) (hr : M.2.2.2 = some ty) (hn : narrow ty (.int v) = .int v) (hQ : Q (some (.int v)) S) : xX E M d mc ms rc rs Q pc lv [.int v] S := by
  intro hG p e s m args below meth c H locs cells slots ls hC hs hH hlo hlv hc1 hs1
  obtain ⟨q1, q2, q3, q4, q5, q6, q7, q8, q9, q10⟩ := id hC
  refine W.widen (k := mc) (n := ms) (by omega) (by omega) ?_
  exact W.zret q1 q2 (by rw [q5]; exact hr) hn (fun t ht hw => x_done hQ hH q8 ht hw) hlo hd q6
theorem x_lret {v : Int64} (hd : decode M.2.1 pc = .ok (.lreturn, 1)) (hr : M.2.2.2 = some .long) (hQ : Q (some (.long v)) S) : xX E M d mc ms rc rs Q pc lv [.long v] S := by
  intro hG p e s m args below meth c H locs cells slots ls hC hs hH hlo hlv hc1 hs1
  obtain ⟨q1, q2, q3, q4, q5, q6, q7, q8, q9, q10⟩ := id hC
  refine W.widen (k := mc) (n := ms) (by omega) (by omega) ?_
  exact W.lret q1 q2 (by rw [q5]; exact hr) (fun t ht hw => x_done hQ hH q8 ht hw) hlo hd q6
theorem x_vret (hd : decode M.2.1 pc = .ok (.return_, 1)) (hr : M.2.2.2 = none) (hQ : Q none S) : xX E M d mc ms rc rs Q pc lv [] S := by
  intro hG p e s m args below meth c H locs cells slots ls hC hs hH hlo hlv hc1 hs1
  obtain ⟨q1, q2, q3, q4, q5, q6, q7, q8, q9, q10⟩ := id hC
  refine W.widen (k := mc) (n := ms) (by omega) (by omega) ?_
  exact W.vret q1 q2 (by rw [q5]; exact hr) (fun t ht hw => x_done hQ hH q8 ht hw) hlo hd q6
end XHR
