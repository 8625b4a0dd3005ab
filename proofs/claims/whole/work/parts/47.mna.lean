def xAO (E : xE) : Prop := (Cond.arrayOver (.array .int)).before #[] E.2.1 = true
theorem x_ao {E : xE} (h : xAO E) {U : State} (hW : E.2.1.WarmedH U.vm) (args : Array Value) : (Cond.arrayOver (.array .int)).before args U = true := by
  have hvm := hW.alike
  obtain ⟨comp, c, k, h1, h2, h3, h4, h5⟩ := arrayOverA_spec h
  obtain ⟨k', hk', he⟩ := hvm.2.2 _ _ h3
  have hi : (U.vm.classes.findIdx? fun (x : Class) => match x.kind with | .array component _ => component == comp | _ => false) = some c := by
    have e1 := va_idx_bare U.vm comp
    have e2 := va_idx_bare E.2.1.vm comp
    have e3 : U.vm.bare = E.2.1.vm.bare := by first | exact hvm.bare_eq | exact hvm.bare_eq.symm
    rw [e3] at e1
    exact e1.symm.trans (e2.trans h2)
  have hkind : k'.kind = .array comp (.array .int) := by rw [he]; exact h4
  have f1 : U.vm.findClass (FieldType.array FieldType.int).toString = some comp := by rw [hvm.findClass]; exact h1
  have f2 : U.vm.findClass ("[" ++ (FieldType.array FieldType.int).toString) = some c := by rw [hvm.findClass]; exact h5
  unfold Cond.before Cond.holds
  simp only [Cond.value]
  rw [f1, Option.bind_some]
  refine (congrArg (fun o : Option Nat => (o.bind (fun c => (U.vm.classes[c]?).map fun (k : Class) => match k.kind with | .array _ ty => decide (ty = FieldType.array FieldType.int) && decide (U.vm.findClass ("[" ++ (FieldType.array FieldType.int).toString) = some c) | _ => false) == some true)) hi).trans ?_
  simp [hk', hkind, f2]
/-! new int[n][k] -/
theorem xlh_app {P Q Rs : List va_E} {n0 : Nat} (hP : P.length = n0) : ∀ a, xlh (P ++ (Q ++ Rs)) a = if a < n0 + Q.length then xlh (P ++ Q) a else Rs.getD (a - (n0 + Q.length)) (.inl (0, 0, .inl fun _ => 0)) := by
  intro a
  unfold xlh
  rw [← List.append_assoc]
  by_cases h : a < n0 + Q.length
  · rw [if_pos h, List.getD_eq_getElem?_getD, List.getD_eq_getElem?_getD, List.getElem?_append_left (l₁ := P ++ Q) (by rw [List.length_append]; omega)]
  · rw [if_neg h, List.getD_eq_getElem?_getD, List.getD_eq_getElem?_getD, List.getElem?_append_right (l₁ := P ++ Q) (by rw [List.length_append]; omega), List.length_append, hP]
section MNA
variable {E : xE} {M : xM} {d mc ms rc rs : Nat} {Z : Option Value → xS → Prop} {pc : Nat} {lv : List (Nat × Value)} {st : List Value} {P Q : List va_E} {n0 : Nat}
set_option maxHeartbeats 4000000 in
theorem l_mna {idx N' K' : Nat} {n k : Int32} (a : Nat) (hP : P.length = n0) (hd : decode M.2.1 pc = .ok (.multianewarray idx 2, 4)) (h1 : xw (.classLink M.1.cls idx ("[" ++ (FieldType.array FieldType.int).toString))) (h2 : xAO E) (h3 : xw (.arrayClass .int)) (hn : ¬ n < 0) (hk : ¬ k < 0) (hN : n.toNatClampNeg = N') (hM : k.toNatClampNeg = K') (hb1 : N' * 4 ≤ 536870912) (hb2 : K' * 4 ≤ 536870912) (hrc : 1 + N' ≤ rc) (hrs : N' + N' * K' ≤ rs) (ha : n0 + Q.length = a)
    (kk : xX E M d mc ms (rc - (1 + N')) (rs - (N' + N' * K')) Z (pc + 4) lv (.ref (xB E + a) :: st) (xq n0 P (Q ++ ((.inl (E.2.2.2 4, N', .inr (.inr (.inr (.inr (fun i => if i < N' then some (xB E + (a + 1 + i)) else none))))) : va_E) :: List.replicate N' (.inl (E.2.2.2 0, K', .inl fun _ => 0)))))) : xX E M d mc ms rc rs Z pc lv (.int k :: .int n :: st) (xq n0 P Q) := by
  intro hG p e s m args below meth c H locs cells slots ls hC hs hH hlo hlv hc1 hs1
  obtain ⟨q1, q2, q3, q4, q5, q6, q7, q8, q9, q10⟩ := id hC
  subst hN
  subst hM
  have hsz : H.size = xB E + (n0 + Q.length) := hH.2.1 rfl
  have hK := x_K hG q8
  have hR4 : s.vm.findClass ("[" ++ (FieldType.array FieldType.int).toString) = some (E.2.2.2 4) := (hK.2 4 _ rfl).2
  have hR0 : s.vm.findClass ("[" ++ FieldType.int.toString) = some (E.2.2.2 0) := (hK.2 0 _ rfl).2
  intro T hT X
  obtain ⟨vm₁, cA, comp, -, fA, fC, hO, -, X', step⟩ := X.multianewarray2F q1 q4 (x_word hG q8 h1 args) (x_ao h2 q8 args) (x_word hG q8 h3 args) (g := F0 m pc ls (.int k :: .int n :: st)) rfl (by rw [q2]; exact hd) rfl hn hk hb1 hb2 (by omega) rfl rfl (by show cells + _ ≤ mc; omega) (by show slots + _ ≤ ms; omega)
  have e0 : comp = E.2.2.2 0 := Option.some.inj (fC.symm.trans hR0)
  have e4 : cA = E.2.2.2 4 := Option.some.inj (fA.symm.trans hR4)
  subst e0
  subst e4
  generalize hF : Jvm.Free.Multi.fill (T.setVm vm₁) (E.2.2.2 4) (E.2.2.2 0) n.toNatClampNeg k.toNatClampNeg (defaultValue .int) n.toNatClampNeg = F at X' step
  have hTh : (T.setVm vm₁).heap = H := hT
  obtain ⟨f1, f2, -, -⟩ := Jvm.Free.Multi.fill_facts (T.setVm vm₁) (E.2.2.2 4) (E.2.2.2 0) n.toNatClampNeg k.toNatClampNeg (defaultValue .int) n.toNatClampNeg
  rw [hF, hTh] at f1 f2
  have hold : ∀ x : Nat, x < H.size → F.heap[x]? = H[x]? := fun x hx => by
    have := Jvm.Free.Multi.fill_old (T.setVm vm₁) (E.2.2.2 4) (E.2.2.2 0) n.toNatClampNeg k.toNatClampNeg (defaultValue .int) (a := x) (by rw [hTh]; exact hx) n.toNatClampNeg
    rw [hF, hTh] at this
    exact this
  have hrow : ∀ j : Nat, j < n.toNatClampNeg → F.heap[H.size + 1 + j]? = some (arrV (E.2.2.2 0) k.toNatClampNeg (fun _ => .int 0)) := fun j hj => by
    have := Jvm.Free.Multi.fill_inner (T.setVm vm₁) (E.2.2.2 4) (E.2.2.2 0) n.toNatClampNeg k.toNatClampNeg (defaultValue .int) n.toNatClampNeg j hj
    rw [hF, hTh] at this
    rw [this]
    show some ({ cls := _, slots := Array.replicate _ _, vm := .none } : Cell) = _
    rw [arrV_new]
    rfl
  have hout : ∀ (c : ClassId) (N h0 i : Nat), Jvm.Free.Multi.outerC c N h0 i = arrV c N (fun j => va_rf (if j < i then some (h0 + 1 + j) else none)) := by
    intro c N h0 i
    induction i with
    | zero =>
      show ({ cls := c, slots := Array.replicate N .null, vm := .none } : Cell) = _
      rw [arrV_new]
      refine congrArg (arrV c N) (funext fun j => ?_)
      simp [va_rf]
    | succ i ih =>
      show (Jvm.Free.Multi.outerC c N h0 i).setSlot i (.ref (h0 + 1 + i)) = _
      rw [ih, arrV_store]
      refine congrArg (arrV c N) (funext fun j => ?_)
      by_cases e : j = i
      · subst e
        simp [updV, va_rf]
      · by_cases h : j < i
        · simp [updV, e, h, Nat.lt_succ_of_lt h]
        · simp [updV, e, h, show ¬ j < i + 1 by omega]
  rw [hout] at f2
  have hxH : xH E (xq n0 P (Q ++ ((.inl (E.2.2.2 4, n.toNatClampNeg, .inr (.inr (.inr (.inr (fun i => if i < n.toNatClampNeg then some (xB E + (a + 1 + i)) else none))))) : va_E) :: List.replicate n.toNatClampNeg (.inl (E.2.2.2 0, k.toNatClampNeg, .inl fun _ => 0))))) F.heap := by
    have hlen : (Q ++ ((.inl (E.2.2.2 4, n.toNatClampNeg, .inr (.inr (.inr (.inr (fun i => if i < n.toNatClampNeg then some (xB E + (a + 1 + i)) else none))))) : va_E) :: List.replicate n.toNatClampNeg (.inl (E.2.2.2 0, k.toNatClampNeg, .inl fun _ => 0)))).length = Q.length + (n.toNatClampNeg + 1) := by simp
    have hFs : F.heap.size = xB E + (n0 + (Q.length + (n.toNatClampNeg + 1))) := by rw [f1, hsz]; omega
    refine ⟨?_, ?_, ?_, ?_⟩
    · show xB E + (n0 + _) ≤ _
      rw [hlen, hFs]
      exact Nat.le_refl _
    · intro _
      show _ = xB E + (n0 + _)
      rw [hlen, hFs]
    · intro b hb
      have hb : b < n0 + (Q.length + (n.toNatClampNeg + 1)) := by rw [← hlen]; exact hb
      show va_at _ _ (_, xlh (P ++ (Q ++ _)) b) _
      rw [xlh_app hP]
      by_cases h9 : b < n0 + Q.length
      · rw [if_pos h9]
        exact (hH.2.2.1 b h9).kept (hold _ (by rw [hsz]; show xB E + b < _; omega))
      · rw [if_neg h9]
        obtain ⟨j, hj⟩ : ∃ j, b - (n0 + Q.length) = j := ⟨_, rfl⟩
        rw [hj]
        cases j with
        | zero =>
          have hb0 : b = n0 + Q.length := by omega
          rw [hb0]
          show F.heap[xB E + (n0 + Q.length)]? = some (vp_cell _ (n.toNatClampNeg, .inr (.inr (.inr (.inr _)))))
          rw [← hsz, f2, vp_cell_q]
          refine congrArg (fun z => some (arrV (E.2.2.2 4) n.toNatClampNeg z)) (funext fun j => ?_)
          by_cases h8 : j < n.toNatClampNeg
          · simp only [h8, if_true]
            rw [hsz, ← ha]
            show Value.ref (xB E + (n0 + Q.length) + 1 + j) = Value.ref (xB E + (n0 + Q.length + 1 + j))
            rw [show xB E + (n0 + Q.length) + 1 + j = xB E + (n0 + Q.length + 1 + j) by omega]
          · simp only [h8, if_false]
        | succ j =>
          have hj2 : j < n.toNatClampNeg := by omega
          have hb1 : xB E + b = H.size + 1 + j := by omega
          have e9 : (((.inl (E.2.2.2 4, n.toNatClampNeg, .inr (.inr (.inr (.inr (fun i => if i < n.toNatClampNeg then some (xB E + (a + 1 + i)) else none))))) : va_E) :: List.replicate n.toNatClampNeg (.inl (E.2.2.2 0, k.toNatClampNeg, .inl fun _ => 0))) : List va_E).getD (j + 1) (.inl (0, 0, .inl fun _ => 0)) = .inl (E.2.2.2 0, k.toNatClampNeg, .inl fun _ => 0) := by
            rw [List.getD_eq_getElem?_getD, List.getElem?_cons_succ, List.getElem?_replicate, if_pos hj2]
            rfl
          rw [e9, hb1]
          exact hrow j hj2
    · intro q hq
      rw [hold q (by omega)]
      exact hH.2.2.2 q hq
  obtain ⟨t, a1, b1⟩ := kk hG p e s m args below meth c F.heap locs (cells + (1 + n.toNatClampNeg)) (slots + (n.toNatClampNeg + n.toNatClampNeg * k.toNatClampNeg)) ls hC (by rw [f1]; omega) hxH hlo hlv (by omega) (by omega) F rfl (by first | exact X' | (rw [← Nat.add_assoc, ← Nat.add_assoc]; exact X'))
  refine ⟨t, step t ?_, b1⟩
  have e : T.heap.size = xB E + a := by rw [hT, hsz, ha]
  rw [e]
  exact a1
end MNA
