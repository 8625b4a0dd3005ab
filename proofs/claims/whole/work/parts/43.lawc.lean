/-! GuideBookLaw.shift and look: their contracts, and their calls in the law -/
def F_L_shift (x1 : Int32) (m : xMem) : Option (Int32 × xMem) := if x1 < 0 ∨ 4 < x1 then some (1, m) else (F_X9_shift x1 m).bind fun q => some (0, (q.2.1, xsl q.2.2 aout 0 q.1.toInt64))
def F_L_look (x1 x2 : Int32) (m : xMem) : Option (Int32 × xMem) := if x1 < 0 ∨ m.1 ag_facts fFacts_size ≤ x1 ∨ x2 < 0 ∨ 5 < x2 then some (1, m) else (F_X9_look x1 x2 m).bind fun q => some (0, (q.2.1, xsl q.2.2 aout 0 q.1.toInt64))
def xCW (E : xE) (M : xM) (hh : List (Nat × Nat × Nat × Nat)) (d mc ms : Nat) (av : List Value) (S : xS) (Q : Option Value → xS → Prop) : Prop :=
  Met E.1 M.1 [.codeWith M.1 M.2.1 M.2.2.1 M.2.2.2 hh] (xR d mc ms) (xPc E av S) (xQc E Q) mc ms (fun q => xB E ≤ q)
theorem x_enterW {E : xE} {M : xM} {hh : List (Nat × Nat × Nat × Nat)} {d mc ms : Nat} {av : List Value} {S : xS} {Q : Option Value → xS → Prop} (hG : xGH E) (hy : plainName M.1.cls = true) (hl : (lg_sl av).length ≤ M.2.2.1)
    (h : xX E M d mc ms mc ms Q 0 (lv_args 0 av) [] S) : xCW E M hh d mc ms av S Q := by
  refine va_MetW (cc := M.2.1) (maxL := M.2.2.1) (ret := M.2.2.2) (hh := hh) hy rfl ?_
  intro p e s m args below meth c s₁ B hml hv
  obtain ⟨rfl, hW, hH⟩ := hv
  have hlv := lv_entry av (n := M.2.2.1) hl
  rw [lg_entry_eq]
  have hown : s.vm.findClass M.1.cls = some m.cls := findClass_of_methodNamed B.named
  have hin : meth.name = M.1.name := (name_of_methodNamed B.named B.method).1
  exact h hG p e s m _ below meth c s.heap [] 0 0 _ ⟨B.exec, B.bytes, hml, hown, B.returns, B.notSynchronized, hin, hW, Nat.le_trans (Nat.le_add_right _ _) hH.1, hH.2.2.2⟩ (Nat.le_refl _) hH (fun _ h => by cases h) hlv (Nat.zero_add _) (Nat.zero_add _)
section YC
variable {E : xE} {M : xM} {p : Program} {e : Env} {s : State} {m : MethodId} {args : Array Value} {below : List Frame} {meth : Method} {c : Code} {H : Heap} {d : Nat} {ls : Array Slot} {pc : Nat} {st rest : List Value} {Z : State → Prop} {mm : xMem}
/-- a call that throws, caught in this method -/
theorem y_caught {idx n b ci N hp h0 h1 : Nat} {C : String} {T : u_T} {fl : List Nat} (M' : xM) {d' : Nat} (As : List Value) (rest : List Value) (hG : xGH E) (hT0 : xThr E) (hC : xCx E M p s m meth c) (hown9 : M.1.cls = RL) (hH : xH E (xf E mm) H) (hsz : ls.size = M.2.2.1) (hd : decode M.2.1 pc = .ok (.invokevirtual idx, 3)) (hw : xCw M.1.cls idx M' n) (hlk : xw (.methodLink M.1.cls idx M'.1)) (hi : xw (.instanceMethod M'.1)) (hsel : xw (.selects C M'.1 M'.1)) (hci : vwCl[ci]? = some (C, T, N)) (hb : b < xnn) (hsh : xsh b = (5, ci, fl))
    (hst : st = As.reverse ++ .ref (xB E + b) :: rest) (hn : As.length = n) (hcat : (rest.map fun v => v.category).sum ≤ 8) (hdd : d' < d) (hC' : xT E M' d' (.ref (xB E + b) :: As) mm)
    (htab : c.exceptionTable.toList = tableOf [(h0, h1, hp, 13)]) (hcov : covers ⟨h0, h1, hp, 13⟩ pc = true)
    (kk : ∀ (q : Addr) (H' : Heap) (locs' : List Loc), xH E (xf E mm) H' → (∀ z ∈ locs', xB E ≤ z.base) → W p E.1 e (xR d 1 6) s m args below meth c H' locs' 1 6 Z (F0 m hp ls [.ref q])) :
    W p E.1 e (xR d 1 6) s m args below meth c H [] 0 0 Z (F0 m pc ls st) := by
  obtain ⟨q1, q2, q3, q4, q5, q6, q7, q8, q9, q10⟩ := id hC
  have hcb := x_cb (d := d) (mc := 1) (ms := 6) (d' := d') (mc' := 1) (ms' := 6) hG q8 args hw hdd
  have hcode := x_word hG q8 hw.2.1 args
  have hini := x_word hG q8 hw.2.2.1 args
  have hcell : (xf E mm).2.2 b = .inr (ci, xmkF E mm.1 b 0 fl) := by show xcell E mm b (xsh b) = _; rw [hsh]; rfl
  have hrecv := va_recv (a := xB E + b) (q0 := 0) (x_K hG q8) (x_one (x_cell hH hb hcell)) hci rfl
  have hpre : PreV s H C (xB E + b) (xPc E (.ref (xB E + b) :: As) (xf E mm)) As := ⟨x_blind, hrecv, x_pre q8 hH⟩
  have hW8 : 2 * (F0 m pc ls st).monitorRoom + (rest.map fun v => v.category).sum ≤ 8 := by show 2 * 0 + _ ≤ 8; omega
  have hMH := hw.2.2.2.1
  have hr := vx_runV (H := H) (locs := []) (cells := 0) (slots := 0) (e := e) (below := below) (meth := meth) (C := C) (b := xB E + b) (As := As) (rest := rest) (Ts := []) (g := F0 m pc ls st) ⟨q1, q2, q3, q4, fun _ h => by cases h⟩ (hC' hG hT0) ⟨⟨hcb.1, hcb.2.1, hcb.2.2.1, hcb.2.2.2.1, hcb.2.2.2.2.1, hcb.2.2.2.2.2, hcode, hini, ⟨hMH.1, hMH.2.1⟩, x_len hw, x_word hG q8 hlk args⟩, x_word hG q8 hi args, x_word hG q8 hsel args⟩ hpre rfl hn hsz hst hW8 hd ⟨Nat.le_refl _, Nat.le_refl _⟩
  intro T hT X
  rcases hr T hT X with ⟨v, st₀, t, T', L, h9, X', hL, e1, e2, hq, stp⟩ | ⟨q, st₀, t, T', L, En, ce, h9, X', hL, e1, e2, ⟨hEn, hxH⟩, hce, hcv, hcl, stp⟩
  · exact hq.elim
  · subst hEn
    obtain ⟨t2, a1, b1⟩ := vx_catch (p := p) (l := E.1) (e := e) (R := xR d 1 6) (s := s) (m := m) (args := args) (below := below) (meth := meth) (c := c) (pc := pc) (ls := ls) (rest := rest) (own := RL) (name := nseN) (E := nseN) (by rw [← hown9]; exact q4) ⟨h0, h1, hp, 13⟩ (by rw [htab]; rfl) hcov (show (13 : Nat) ≠ 0 by decide) (x_word hG q8 wt_6 args) (x_word hG q8 wt_7 args) (H := T'.heap) (by rw [e1]; exact hce) hcv hcl
      (kk q T'.heap ([] ++ L) (by rw [e1]; exact hxH) (fun z hz => hL z (by simpa using hz))) T' rfl X'
    exact ⟨t2, stp.trans a1, b1⟩
end YC
set_option maxHeartbeats 4000000 in
theorem c_L_shift {E : xE} {d : Nat} (hG : xGH E) (hT0 : xThr E) (hdd : 10 ≤ d) {x1 : Int32} {m : xMem} {q : Int32 × xMem} (h : F_L_shift x1 m = some q) :
    xCW E mL_shift [(0, 9, 12, 13)] d 1 6 [.ref (xB E + 0), .int x1, .ref (xB E + 125)] (xf E m) (fun r S => r = some (.int q.1) ∧ S = xf E q.2) := by
  unfold F_L_shift at h
  by_cases hx : x1 < 0 ∨ 4 < x1
  · rw [if_pos hx] at h
    cases h
    refine va_MetW (cc := cL_shift) (maxL := 4) (ret := some .int) (hh := [(0, 9, 12, 13)]) (by decide +kernel) rfl ?_
    intro p e s m₀ args below meth c s₁ B hml hv
    obtain ⟨rfl, hW, hH⟩ := hv
    have hlv := lv_entry [.ref (xB E + 0), .int x1, .ref (xB E + 125)] (n := 4) (Nat.le_of_ble_eq_true rfl)
    rw [lg_entry_eq]
    have hC : xCx E mL_shift p s m₀ meth c := x_ctx B hml hW hH
    have htab : c.exceptionTable.toList = tableOf [(0, 9, 12, 13)] := vx_table (x := yL_shift) B (x_word hG hW wt_8 _)
    refine lv_aload_n hC.1 hC.2.1 dL_shift_0 rfl (x_at hlv rfl) ?_
    refine lv_iconst (v := 0) hC.1 hC.2.1 dL_shift_1 (by decide) ?_
    refine lv_aload_n hC.1 hC.2.1 dL_shift_2 rfl (x_at hlv rfl) ?_
    refine lv_iload_n hC.1 hC.2.1 dL_shift_3 rfl (x_at hlv rfl) ?_
    refine y_caught (M := mL_shift) (d := d) (d' := d - 1) (b := 0) mX9_shift [.int x1] [.int 0, .ref (xB E + 125)] hG hT0 hC rfl hH hlv.1 dL_shift_4 ct_shift (by exact ⟨by decide +kernel, by decide +kernel⟩) wt_15 wt_16 xcl_9.1 (by decide) sh_0 rfl rfl (Nat.le_of_ble_eq_true rfl) (by omega) (t_shift (by omega) hx m) htab (by decide) (fun a H' locs' hH' hlo' => ?_)
    refine lv_astore_n hC.1 hC.2.1 dL_shift_12 rfl hlv (by decide) rfl (fun ls' hl' => ?_)
    refine lv_iconst (v := 1) hC.1 hC.2.1 dL_shift_13 (by decide) ?_
    exact W.iret hC.1 hC.2.1 (by rw [hC.2.2.2.2.1]) (fun t ht hw => x_done (S := xf E m) ⟨rfl, rfl⟩ hH' hW ht hw) hlo' dL_shift_14 hC.2.2.2.2.2.1
  · rw [if_neg hx] at h
    obtain ⟨q1, hq1, h⟩ := Option.bind_eq_some_iff.mp h
    cases h
    refine x_enterW hG (by decide +kernel) (Nat.le_of_ble_eq_true rfl) ?_
    refine x_aload_n dL_shift_0 rfl ?_
    refine x_iconst (v := 0) dL_shift_1 (by decide) ?_
    refine x_aload_n dL_shift_2 rfl ?_
    refine x_iload_n dL_shift_3 rfl ?_
    refine f_cVi mX9_shift [.int x1] [.int 0, .ref (xB E + 125)] dL_shift_4 ct_shift ⟨wt_15, wt_16⟩ (ci := 9) rfl (by decide) sh_0 rfl rfl (Nat.le_of_ble_eq_true rfl) (d' := d - 1) (by omega) (c_X9_shift (d := d - 1) (by omega) x1 m q1 hq1) ?_
    refine x_i2l dL_shift_7 ?_
    refine f_last dL_shift_8 (by decide) sh_125 (by decide) ?_
    refine x_goto 15 dL_shift_9 (by decide) ?_
    refine x_iconst (v := 0) dL_shift_15 (by decide) ?_
    exact x_iret dL_shift_16 rfl ⟨rfl, rfl⟩
set_option maxHeartbeats 4000000 in
theorem c_L_look {E : xE} {d : Nat} (hG : xGH E) (hT0 : xThr E) (hdd : 10 ≤ d) {x1 x2 : Int32} {m : xMem} {q : Int32 × xMem} (h : F_L_look x1 x2 m = some q) :
    xCW E mL_look [(0, 10, 13, 13)] d 1 6 [.ref (xB E + 0), .int x1, .int x2, .ref (xB E + 125)] (xf E m) (fun r S => r = some (.int q.1) ∧ S = xf E q.2) := by
  unfold F_L_look at h
  by_cases hx : x1 < 0 ∨ m.1 ag_facts fFacts_size ≤ x1 ∨ x2 < 0 ∨ 5 < x2
  · rw [if_pos hx] at h
    cases h
    refine va_MetW (cc := cL_look) (maxL := 5) (ret := some .int) (hh := [(0, 10, 13, 13)]) (by decide +kernel) rfl ?_
    intro p e s m₀ args below meth c s₁ B hml hv
    obtain ⟨rfl, hW, hH⟩ := hv
    have hlv := lv_entry [.ref (xB E + 0), .int x1, .int x2, .ref (xB E + 125)] (n := 5) (Nat.le_of_ble_eq_true rfl)
    rw [lg_entry_eq]
    have hC : xCx E mL_look p s m₀ meth c := x_ctx B hml hW hH
    have htab : c.exceptionTable.toList = tableOf [(0, 10, 13, 13)] := vx_table (x := yL_look) B (x_word hG hW wt_9 _)
    refine lv_aload_n hC.1 hC.2.1 dL_look_0 rfl (x_at hlv rfl) ?_
    refine lv_iconst (v := 0) hC.1 hC.2.1 dL_look_1 (by decide) ?_
    refine lv_aload_n hC.1 hC.2.1 dL_look_2 rfl (x_at hlv rfl) ?_
    refine lv_iload_n hC.1 hC.2.1 dL_look_3 rfl (x_at hlv rfl) ?_
    refine lv_iload_n hC.1 hC.2.1 dL_look_4 rfl (x_at hlv rfl) ?_
    refine y_caught (M := mL_look) (d := d) (d' := d - 1) (b := 0) mX9_look [.int x1, .int x2] [.int 0, .ref (xB E + 125)] hG hT0 hC rfl hH hlv.1 dL_look_5 ct_look (by exact ⟨by decide +kernel, by decide +kernel⟩) wt_17 wt_18 xcl_9.1 (by decide) sh_0 rfl rfl (Nat.le_of_ble_eq_true rfl) (by omega) (t_look (by omega) hx) htab (by decide) (fun a H' locs' hH' hlo' => ?_)
    refine lv_astore hC.1 hC.2.1 dL_look_13 hlv (by decide) rfl (fun ls' hl' => ?_)
    refine lv_iconst (v := 1) hC.1 hC.2.1 dL_look_15 (by decide) ?_
    exact W.iret hC.1 hC.2.1 (by rw [hC.2.2.2.2.1]) (fun t ht hw => x_done (S := xf E m) ⟨rfl, rfl⟩ hH' hW ht hw) hlo' dL_look_16 hC.2.2.2.2.2.1
  · rw [if_neg hx] at h
    obtain ⟨q1, hq1, h⟩ := Option.bind_eq_some_iff.mp h
    cases h
    refine x_enterW hG (by decide +kernel) (Nat.le_of_ble_eq_true rfl) ?_
    refine x_aload_n dL_look_0 rfl ?_
    refine x_iconst (v := 0) dL_look_1 (by decide) ?_
    refine x_aload_n dL_look_2 rfl ?_
    refine x_iload_n dL_look_3 rfl ?_
    refine x_iload_n dL_look_4 rfl ?_
    refine f_cVi mX9_look [.int x1, .int x2] [.int 0, .ref (xB E + 125)] dL_look_5 ct_look ⟨wt_17, wt_18⟩ (ci := 9) rfl (by decide) sh_0 rfl rfl (Nat.le_of_ble_eq_true rfl) (d' := d - 1) (by omega) (c_X9_look (d := d - 1) (by omega) x1 x2 m q1 hq1) ?_
    refine x_i2l dL_look_8 ?_
    refine f_last dL_look_9 (by decide) sh_125 (by decide) ?_
    refine x_goto 17 dL_look_10 (by decide) ?_
    refine x_iconst (v := 0) dL_look_17 (by decide) ?_
    exact x_iret dL_look_18 rfl ⟨rfl, rfl⟩
