/-! the X layer: calls, makings -/
/-- what a call's place needs of the tables -/
def xCw (own : String) (idx : Nat) (M' : xM) (n : Nat) : Prop :=
  (xw (.methodLink own idx M'.1) ∨ ∃ host, xw (.methodLinkNest own idx M'.1 host)) ∧ xw (.code M'.1 M'.2.1 M'.2.2.1 M'.2.2.2) ∧ xw (.initialized M'.1.cls) ∧
  (M'.1.cls ≠ "java/lang/invoke/MethodHandle" ∧ M'.1.cls ≠ "java/lang/invoke/VarHandle" ∧ (parseMethodDescriptor M'.1.desc).map (fun d => d.parameters.length) = some n) ∧ M'.2.2.1 ≤ 40
section XCR
variable {E : xE} {M : xM} {d mc ms rc rs : Nat} {Q : Option Value → xS → Prop} {pc : Nat} {lv : List (Nat × Value)} {st : List Value} {S : xS}
theorem x_run {M' : xM} {mc' ms' : Nat} {rest : List Value} {Q' : Option Value → xS → Prop} {a : Array Value} (hG : xGH E) {p : Program} {e : Env} {s : State} {m : MethodId} {args : Array Value} {below : List Frame} {meth : Method} {c : Code} {H : Heap} {locs : List Loc} {cells slots : Nat} {ls : Array Slot}
    (hr : va_Run p E.1 e (xR d mc ms) s m args below meth c H locs cells slots mc' ms' (F0 m pc ls st) rest (xQc E Q' a) (fun q => xB E ≤ q))
    (hC : xCx E M p s m meth c) (hlo : ∀ q ∈ locs, xB E ≤ q.base) (hlv : lv_has ls M.2.2.1 lv) (hc1 : cells + rc = mc) (hs1 : slots + rs = ms) (hmc : mc' ≤ rc) (hms : ms' ≤ rs)
    (kk : ∀ (v : Option Value) (S' : xS), Q' v S' → xX E M d mc ms (rc - mc') (rs - ms') Q (pc + 3) lv (v.toList ++ rest) S') :
    W p E.1 e (xR d mc ms) s m args below meth c H locs cells slots (MQ below (xQc E Q) args s mc ms (fun q => xB E ≤ q)) (F0 m pc ls st) := by
  intro T hT X
  obtain ⟨v, st₀, t, T', L, h0, X', hL, e1, e2, ⟨v', S', hv, hW, hH', hq⟩, stp⟩ := hr T hT X
  cases hv
  obtain ⟨t2, a1, b1⟩ := kk v S' hq hG p e s m args below meth c T'.heap (locs ++ L) (cells + mc') (slots + ms') ls hC X'.same.2.1 (by rw [e1]; exact hH')
    (fun q hq => by
      rcases List.mem_append.mp hq with h | h
      · exact hlo q h
      · exact hL q h) hlv (by omega) (by omega) T' rfl X'
  exact ⟨t2, stp t2 a1, b1⟩
theorem x_cb {own : String} {idx n : Nat} {M' : xM} {d' mc' ms' : Nat} (hG : xGH E) {s : State} (hW : E.2.1.WarmedH s.vm) (args : Array Value) (hw : xCw own idx M' n) (hdd : d' < d) :
    (xR d' mc' ms').cells = mc' ∧ (xR d' mc' ms').slots = ms' ∧ (xR d' mc' ms').frames + 1 ≤ (xR d mc ms).frames ∧ 8 + (M'.2.2.1 + 11) + (xR d' mc' ms').locals ≤ (xR d mc ms).locals ∧ (∀ w ∈ [Cond.code M'.1 M'.2.1 M'.2.2.1 M'.2.2.2], ∀ (a' : Array Value) (U : State), s.WarmedH U.vm → w.before a' U = true) ∧ Cond.code M'.1 M'.2.1 M'.2.2.1 M'.2.2.2 ∈ [Cond.code M'.1 M'.2.1 M'.2.2.1 M'.2.2.2] := by
  refine ⟨rfl, rfl, ?_, ?_, fun w hw' a' U hU => ?_, List.mem_singleton.mpr rfl⟩
  · show d' + 1 + 1 ≤ d + 1
    omega
  · have := hw.2.2.2.2
    show 8 + (M'.2.2.1 + 11) + 64 * (d' + 1) ≤ 64 * (d + 1)
    omega
  · rw [List.mem_singleton.mp hw']
    exact x_word hG (State.WarmedH.trans hW hU) hw.2.1 a'
theorem x_len {own : String} {idx n : Nat} {M' : xM} (hw : xCw own idx M' n) : ∀ sig, parseMethodDescriptor M'.1.desc = some sig → n = sig.parameters.length := by
  intro sig h
  have h2 := hw.2.2.2.1.2.2
  rw [h] at h2
  exact (Option.some.inj h2).symm
theorem x_pre {H : Heap} {s : State} {av : List Value} (hW : E.2.1.WarmedH s.vm) (hH : xH E S H) : ∀ U : State, U.heap = H → s.WarmedH U.vm → xPc E av S av.toArray U := fun U hU hw => ⟨rfl, State.WarmedH.trans hW hw, by rw [hU]; exact hH⟩
theorem x_callV {idx n b ci N : Nat} {C : String} {T : u_T} {fs : List Value} (M' : xM) {d' mc' ms' : Nat} (As : List Value) (rest : List Value) {Q' : Option Value → xS → Prop} (hd : decode M.2.1 pc = .ok (.invokevirtual idx, 3)) (hw : xCw M.1.cls idx M' n) (hi : xw (.instanceMethod M'.1)) (hsel : xw (.selects C M'.1 M'.1)) (hci : vwCl[ci]? = some (C, T, N)) (hb : b < S.2.1) (hcell : S.2.2 b = .inr (ci, fs))
    (hst : st = As.reverse ++ .ref (xB E + b) :: rest) (hn : As.length = n) (hcat : (rest.map fun v => v.category).sum ≤ 8) (hdd : d' < d) (hmc : mc' ≤ rc) (hms : ms' ≤ rs) (hC' : xC E M' d' mc' ms' (.ref (xB E + b) :: As) S Q')
    (kk : ∀ (v : Option Value) (S' : xS), Q' v S' → xX E M d mc ms (rc - mc') (rs - ms') Q (pc + 3) lv (v.toList ++ rest) S') : xX E M d mc ms rc rs Q pc lv st S := by
  intro hG p e s m args below meth c H locs cells slots ls hC hs hH hlo hlv hc1 hs1
  obtain ⟨q1, q2, q3, q4, q5, q6, q7, q8, q9, q10⟩ := id hC
  have hcb := x_cb (d := d) (mc := mc) (ms := ms) (d' := d') (mc' := mc') (ms' := ms') hG q8 args hw hdd
  have hcode := x_word hG q8 hw.2.1 args
  have hini := x_word hG q8 hw.2.2.1 args
  have hrecv := va_recv (a := xB E + b) (q0 := 0) (fs := fs) (x_K hG q8) (x_one (x_cell hH hb hcell)) hci rfl
  have hcap : cells + mc' ≤ (xR d mc ms).cells ∧ slots + ms' ≤ (xR d mc ms).slots := ⟨by show cells + mc' ≤ mc; omega, by show slots + ms' ≤ ms; omega⟩
  have hpre : PreV s H C (xB E + b) (xPc E (.ref (xB E + b) :: As) S) As := ⟨x_blind, hrecv, x_pre q8 hH⟩
  have hW8 : 2 * (F0 m pc ls st).monitorRoom + (rest.map fun v => v.category).sum ≤ 8 := by show 2 * 0 + _ ≤ 8; omega
  have hMH := hw.2.2.2.1
  rcases hw.1 with hl | ⟨host, hl⟩
  · exact x_run (M' := M') hG (va_runV (C := C) (b := xB E + b) (As := As) (rest := rest) (Ts := []) ⟨q1, q2, q3, q4, fun _ h => by cases h⟩ (hC' hG) ⟨⟨hcb.1, hcb.2.1, hcb.2.2.1, hcb.2.2.2.1, hcb.2.2.2.2.1, hcb.2.2.2.2.2, hcode, hini, ⟨hMH.1, hMH.2.1⟩, x_len hw, x_word hG q8 hl args⟩, x_word hG q8 hi args, x_word hG q8 hsel args⟩ hpre rfl hn hlv.1 hst hW8 hd hcap) hC hlo hlv hc1 hs1 hmc hms kk
  · exact x_run (M' := M') hG (va_runVN (C := C) (b := xB E + b) (As := As) (rest := rest) (Ts := []) ⟨q1, q2, q3, q4, fun _ h => by cases h⟩ (hC' hG) ⟨⟨hcb, hcode, hini, ⟨hMH.1, hMH.2.1⟩, x_len hw, x_word hG q8 hl args⟩, x_word hG q8 hi args, x_word hG q8 hsel args⟩ hpre rfl hn hlv.1 hst hW8 hd hcap) hC hlo hlv hc1 hs1 hmc hms kk
theorem x_callS {idx n : Nat} (M' : xM) {d' mc' ms' : Nat} (As : List Value) (rest : List Value) {Q' : Option Value → xS → Prop} (hd : decode M.2.1 pc = .ok (.invokestatic idx, 3)) (hw : xCw M.1.cls idx M' n) (hi : xw (.static M'.1))
    (hst : st = As.reverse ++ rest) (hn : As.length = n) (hcat : (rest.map fun v => v.category).sum ≤ 8) (hdd : d' < d) (hmc : mc' ≤ rc) (hms : ms' ≤ rs) (hC' : xC E M' d' mc' ms' As S Q')
    (kk : ∀ (v : Option Value) (S' : xS), Q' v S' → xX E M d mc ms (rc - mc') (rs - ms') Q (pc + 3) lv (v.toList ++ rest) S') : xX E M d mc ms rc rs Q pc lv st S := by
  intro hG p e s m args below meth c H locs cells slots ls hC hs hH hlo hlv hc1 hs1
  obtain ⟨q1, q2, q3, q4, q5, q6, q7, q8, q9, q10⟩ := id hC
  have hcb := x_cb (d := d) (mc := mc) (ms := ms) (d' := d') (mc' := mc') (ms' := ms') hG q8 args hw hdd
  have hcode := x_word hG q8 hw.2.1 args
  have hini := x_word hG q8 hw.2.2.1 args
  have hcap : cells + mc' ≤ (xR d mc ms).cells ∧ slots + ms' ≤ (xR d mc ms).slots := ⟨by show cells + mc' ≤ mc; omega, by show slots + ms' ≤ ms; omega⟩
  have hpre : PreS s H (xPc E As S) As := ⟨x_blind, x_pre q8 hH⟩
  have hW8 : 2 * (F0 m pc ls st).monitorRoom + (rest.map fun v => v.category).sum ≤ 8 := by show 2 * 0 + _ ≤ 8; omega
  have hMH := hw.2.2.2.1
  rcases hw.1 with hl | ⟨host, hl⟩
  · exact x_run (M' := M') hG (va_runS (As := As) (rest := rest) (Ts := []) ⟨q1, q2, q3, q4, fun _ h => by cases h⟩ (hC' hG) ⟨⟨hcb.1, hcb.2.1, hcb.2.2.1, hcb.2.2.2.1, hcb.2.2.2.2.1, hcb.2.2.2.2.2, hcode, hini, ⟨hMH.1, hMH.2.1⟩, x_len hw, x_word hG q8 hl args⟩, x_word hG q8 hi args⟩ hpre rfl hn hlv.1 hst hW8 hd hcap) hC hlo hlv hc1 hs1 hmc hms kk
  · exact x_run (M' := M') hG (va_runSN (As := As) (rest := rest) (Ts := []) ⟨q1, q2, q3, q4, fun _ h => by cases h⟩ (hC' hG) ⟨⟨hcb, hcode, hini, ⟨hMH.1, hMH.2.1⟩, x_len hw, x_word hG q8 hl args⟩, x_word hG q8 hi args, trivial⟩ hpre rfl hn hlv.1 hst hW8 hd hcap) hC hlo hlv hc1 hs1 hmc hms kk
theorem x_callI {idx n b : Nat} (M' : xM) {d' mc' ms' : Nat} (As : List Value) (rest : List Value) {Q' : Option Value → xS → Prop} (hd : decode M.2.1 pc = .ok (.invokespecial idx, 3)) (hw : xCw M.1.cls idx M' n) (hi : xw (.instanceMethod M'.1)) (hini0 : M'.1.name = "<init>") (hret : M'.2.2.2 = none)
    (hst : st = As.reverse ++ .ref (xB E + b) :: rest) (hn : As.length = n) (hcat : (rest.map fun v => v.category).sum ≤ 8) (hdd : d' < d) (hmc : mc' ≤ rc) (hms : ms' ≤ rs) (hC' : xC E M' d' mc' ms' (.ref (xB E + b) :: As) S Q')
    (kk : ∀ (v : Option Value) (S' : xS), Q' v S' → xX E M d mc ms (rc - mc') (rs - ms') Q (pc + 3) lv (v.toList ++ rest) S') : xX E M d mc ms rc rs Q pc lv st S := by
  intro hG p e s m args below meth c H locs cells slots ls hC hs hH hlo hlv hc1 hs1
  obtain ⟨q1, q2, q3, q4, q5, q6, q7, q8, q9, q10⟩ := id hC
  have hcb := x_cb (d := d) (mc := mc) (ms := ms) (d' := d') (mc' := mc') (ms' := ms') hG q8 args hw hdd
  have hcode := x_word hG q8 hw.2.1 args
  have hini := x_word hG q8 hw.2.2.1 args
  have hcap : cells + mc' ≤ (xR d mc ms).cells ∧ slots + ms' ≤ (xR d mc ms).slots := ⟨by show cells + mc' ≤ mc; omega, by show slots + ms' ≤ ms; omega⟩
  have hpre : PreS s H (xPc E (.ref (xB E + b) :: As) S) (.ref (xB E + b) :: As) := ⟨x_blind, x_pre q8 hH⟩
  have hW8 : 2 * (F0 m pc ls st).monitorRoom + (rest.map fun v => v.category).sum ≤ 8 := by show 2 * 0 + _ ≤ 8; omega
  have hMH := hw.2.2.2.1
  have hM := hC' hG
  obtain ⟨y, cc, nl, ret⟩ := M'
  dsimp only at hret hini0 hcb hcode hini hMH hM
  subst hret
  rcases hw.1 with hl | ⟨host, hl⟩
  · exact x_run (M' := (y, cc, nl, none)) hG (va_runI (b := xB E + b) (As := As) (rest := rest) (Ts := []) ⟨q1, q2, q3, q4, fun _ h => by cases h⟩ hM ⟨⟨hcb.1, hcb.2.1, hcb.2.2.1, hcb.2.2.2.1, hcb.2.2.2.2.1, hcb.2.2.2.2.2, hcode, hini, ⟨hMH.1, hMH.2.1⟩, x_len hw, x_word hG q8 hl args⟩, hini0, x_word hG q8 hi args⟩ hpre rfl hn hlv.1 hst hW8 hd hcap) hC hlo hlv hc1 hs1 hmc hms kk
  · exact x_run (M' := (y, cc, nl, none)) hG (va_runIN (b := xB E + b) (As := As) (rest := rest) (Ts := []) ⟨q1, q2, q3, q4, fun _ h => by cases h⟩ hM ⟨⟨hcb, hcode, hini, ⟨hMH.1, hMH.2.1⟩, x_len hw, x_word hG q8 hl args⟩, hini0, x_word hG q8 hi args⟩ hpre rfl hn hlv.1 hst hW8 hd hcap) hC hlo hlv hc1 hs1 hmc hms kk
theorem x_obj {idx b : Nat} {rest : List Value} (hd : decode M.2.1 pc = .ok (.invokespecial idx, 3)) (h1 : xw (.methodLink M.1.cls idx Lib.objectInit)) (h2 : xw (.instanceMethod Lib.objectInit)) (h3 : xw (.code Lib.objectInit ⟨#[0xb1]⟩ 1 none)) (hcat : (rest.map fun v => v.category).sum ≤ 8)
    (kk : xX E M d mc ms rc rs Q (pc + 3) lv rest S) : xX E M d mc ms rc rs Q pc lv (.ref b :: rest) S := by
  intro hG p e s m args below meth c H locs cells slots ls hC hs hH hlo hlv hc1 hs1
  obtain ⟨q1, q2, q3, q4, q5, q6, q7, q8, q9, q10⟩ := id hC
  exact W.objInit q1 q2 q4 (x_word hG q8 h1 args) (x_word hG q8 h2 args) (x_word hG q8 h3 args) (g := F0 m pc ls (.ref b :: rest)) rfl (by rw [q3]; exact hlv.1) rfl hd (by show 1 ≤ d + 1; omega) (by show 2 * 0 + _ + 12 ≤ 64 * (d + 1); omega) (kk hG p e s m args below meth c H locs cells slots ls hC hs hH hlo hlv hc1 hs1)
theorem x_new {idx ci N n : Nat} {C : String} {T : u_T} {ty : Nat → FieldType} {fs : List Value} {h : Nat → va_E} (hd : decode M.2.1 pc = .ok (.new idx, 3)) (hcl : xCl ci C T N ty) (h1 : xw (.classLink M.1.cls idx C)) (h2 : xw (.instantiable C N)) (h3 : xw (.initialized C)) (hfs : ∀ j, j < N → defaultValue (ty j) = vp_V fs j) (hrc : 1 ≤ rc) (hrs : N ≤ rs)
    (kk : xX E M d mc ms (rc - 1) (rs - N) Q (pc + 3) lv (.ref (xB E + n) :: st) (true, n + 1, va_up h n (.inr (ci, fs)))) : xX E M d mc ms rc rs Q pc lv st (true, n, h) := by
  intro hG p e s m args below meth c H locs cells slots ls hC hs hH hlo hlv hc1 hs1
  obtain ⟨q1, q2, q3, q4, q5, q6, q7, q8, q9, q10⟩ := id hC
  have hts : ∀ w ∈ u_ws C T N, w.before args s = true := fun w hw => x_word hG q8 (hcl.2.1 w hw) args
  have hKn := (x_K hG q8).1 ci _ hcl.1
  have hsz : H.size = xB E + n := hH.2.1 rfl
  refine W.newcK q1 q2 q4 (x_word hG q8 h1 args) (x_word hG q8 h2 args) (x_word hG q8 h3 args) (g := F0 m pc ls st) rfl hd (by show cells + 1 ≤ mc; omega) (by show slots + N ≤ ms; omega) hKn.2.1 hsz fun H1 kC hkC e1 z1 o1 => ?_
  refine kk hG p e s m args below meth c H1 locs (cells + 1) (slots + N) ls hC (by rw [z1]; omega) (x_push hH z1 o1 ?_) hlo hlv (by omega) (by omega)
  exact ⟨_, hcl.1, (u_born ty hts (fun _ h => h) hKn hkC e1 hcl.2.2.1).to hfs⟩
theorem x_newa {atype : ArrayType} {t n N : Nat} {z : vp_A} {k : Int32} {h : Nat → va_E} (hd : decode M.2.1 pc = .ok (.newarray atype, 2)) (hw : xw (.arrayClass (newarray.typeOf atype))) (ht : (xTys E)[t]? = some (E.2.2.2 t, newarray.typeOf atype)) (hz : ∀ cA : ClassId, vp_cell cA z = arrV cA N (fun _ => defaultValue (newarray.typeOf atype))) (hk : ¬ k < 0) (hN : k.toNatClampNeg = N) (hby : N * componentBytes (newarray.typeOf atype) ≤ 536870912) (hrc : 1 ≤ rc) (hrs : N ≤ rs)
    (kk : xX E M d mc ms (rc - 1) (rs - N) Q (pc + 2) lv (.ref (xB E + n) :: st) (true, n + 1, va_up h n (.inl (E.2.2.2 t, z)))) : xX E M d mc ms rc rs Q pc lv (.int k :: st) (true, n, h) := by
  intro hG p e s m args below meth c H locs cells slots ls hC hs hH hlo hlv hc1 hs1
  obtain ⟨q1, q2, q3, q4, q5, q6, q7, q8, q9, q10⟩ := id hC
  have hsz : H.size = xB E + n := hH.2.1 rfl
  have hRA := ((x_K hG q8).2 t _ ht).2
  refine va_newaK q1 q2 (x_word hG q8 hw args) (g := F0 m pc ls (.int k :: st)) rfl hd rfl hk hN hby (by show cells + 1 ≤ mc; omega) (by show slots + N ≤ ms; omega) hsz fun H1 cA e1 z1 o1 hAr hNm => ?_
  have hcA : cA = E.2.2.2 t := by
    have h9 : s.vm.findClass ("[" ++ (newarray.typeOf atype).toString) = some (E.2.2.2 t) := by cases atype <;> exact hRA
    exact Option.some.inj (hNm.symm.trans h9)
  refine kk hG p e s m args below meth c H1 locs (cells + 1) (slots + N) ls hC (by rw [z1]; omega) (x_push hH z1 o1 ?_) hlo hlv (by omega) (by omega)
  show H1[_]? = some (vp_cell _ _)
  rw [hz, ← hcA]
  exact e1
end XCR
