/-! methods that throw, over the X layer -/
def xXC (E : xE) (m : xMem) : String → State → State → Prop := fun cls _ t => cls = nseN ∧ xH E (xf E m) t.heap
/-- the contract of a call that throws NoSuchElementException and changes nothing -/
def xT (E : xE) (M : xM) (d : Nat) (av : List Value) (m : xMem) : Prop :=
  xGH E → xThr E → vx_Met E.1 M.1 [.code M.1 M.2.1 M.2.2.1 M.2.2.2] (xR d 1 6) (xPc E av (xf E m)) (fun _ _ _ _ => False) (xXC E m) 1 6 (fun q => xB E ≤ q)
section YR
variable {E : xE} {M : xM} {p : Program} {e : Env} {R : Room} {s : State} {m : MethodId} {args : Array Value} {below : List Frame} {meth : Method} {c : Code} {H : Heap} {locs : List Loc} {cells slots d mc ms : Nat} {ls : Array Slot} {pc : Nat} {st rest : List Value} {Z : State → Prop} {S : xS}
theorem y_run {mc' ms' : Nat} {Q' : Option Value → xS → Prop} {a : Array Value}
    (hr : va_Run p E.1 e R s m args below meth c H locs cells slots mc' ms' (F0 m pc ls st) rest (xQc E Q' a) (fun q => xB E ≤ q)) (hlo : ∀ q ∈ locs, xB E ≤ q.base)
    (kk : ∀ (v : Option Value) (S' : xS) (H' : Heap) (locs' : List Loc), Q' v S' → xH E S' H' → s.heap.size ≤ H'.size → (∀ q ∈ locs', xB E ≤ q.base) → W p E.1 e R s m args below meth c H' locs' (cells + mc') (slots + ms') Z (F0 m (pc + 3) ls (v.toList ++ rest))) :
    W p E.1 e R s m args below meth c H locs cells slots Z (F0 m pc ls st) := by
  intro T hT X
  obtain ⟨v, st₀, t, T', L, h0, X', hL, e1, e2, ⟨v', S', hv, hW, hH', hq⟩, stp⟩ := hr T hT X
  cases hv
  obtain ⟨t2, a1, b1⟩ := kk v S' T'.heap (locs ++ L) hq (by rw [e1]; exact hH') X'.same.2.1 (fun q hq => by
      rcases List.mem_append.mp hq with h | h
      · exact hlo q h
      · exact hL q h) T' rfl X'
  exact ⟨t2, stp t2 a1, b1⟩
theorem y_callS {idx n : Nat} (M' : xM) {d' mc' ms' : Nat} (As : List Value) (rest : List Value) {Q' : Option Value → xS → Prop} (hG : xGH E) (hC : xCx E M p s m meth c) (hH : xH E S H) (hlo : ∀ q ∈ locs, xB E ≤ q.base) (hsz : ls.size = M.2.2.1) (hcap : cells + mc' ≤ mc ∧ slots + ms' ≤ ms) (hd : decode M.2.1 pc = .ok (.invokestatic idx, 3)) (hw : xCw M.1.cls idx M' n) (hi : xw (.static M'.1))
    (hst : st = As.reverse ++ rest) (hn : As.length = n) (hcat : (rest.map fun v => v.category).sum ≤ 8) (hdd : d' < d) (hC' : xC E M' d' mc' ms' As S Q')
    (kk : ∀ (v : Option Value) (S' : xS) (H' : Heap) (locs' : List Loc), Q' v S' → xH E S' H' → s.heap.size ≤ H'.size → (∀ q ∈ locs', xB E ≤ q.base) → W p E.1 e (xR d mc ms) s m args below meth c H' locs' (cells + mc') (slots + ms') Z (F0 m (pc + 3) ls (v.toList ++ rest))) :
    W p E.1 e (xR d mc ms) s m args below meth c H locs cells slots Z (F0 m pc ls st) := by
  obtain ⟨q1, q2, q3, q4, q5, q6, q7, q8, q9, q10⟩ := id hC
  have hcb := x_cb (d := d) (mc := mc) (ms := ms) (d' := d') (mc' := mc') (ms' := ms') hG q8 args hw hdd
  have hcode := x_word hG q8 hw.2.1 args
  have hini := x_word hG q8 hw.2.2.1 args
  have hpre : PreS s H (xPc E As S) As := ⟨x_blind, x_pre q8 hH⟩
  have hW8 : 2 * (F0 m pc ls st).monitorRoom + (rest.map fun v => v.category).sum ≤ 8 := by show 2 * 0 + _ ≤ 8; omega
  have hMH := hw.2.2.2.1
  rcases hw.1 with hl | ⟨host, hl⟩
  · exact y_run (va_runS (As := As) (rest := rest) (Ts := []) ⟨q1, q2, q3, q4, fun _ h => by cases h⟩ (hC' hG) ⟨⟨hcb.1, hcb.2.1, hcb.2.2.1, hcb.2.2.2.1, hcb.2.2.2.2.1, hcb.2.2.2.2.2, hcode, hini, ⟨hMH.1, hMH.2.1⟩, x_len hw, x_word hG q8 hl args⟩, x_word hG q8 hi args⟩ hpre rfl hn hsz hst hW8 hd hcap) hlo kk
  · exact y_run (va_runSN (As := As) (rest := rest) (Ts := []) ⟨q1, q2, q3, q4, fun _ h => by cases h⟩ (hC' hG) ⟨⟨hcb, hcode, hini, ⟨hMH.1, hMH.2.1⟩, x_len hw, x_word hG q8 hl args⟩, x_word hG q8 hi args, trivial⟩ hpre rfl hn hsz hst hW8 hd hcap) hlo kk
theorem y_callV {idx n b ci N : Nat} {C : String} {T : u_T} {fs : List Value} (M' : xM) {d' mc' ms' : Nat} (As : List Value) (rest : List Value) {Q' : Option Value → xS → Prop} (hG : xGH E) (hC : xCx E M p s m meth c) (hH : xH E S H) (hlo : ∀ q ∈ locs, xB E ≤ q.base) (hsz : ls.size = M.2.2.1) (hcap : cells + mc' ≤ mc ∧ slots + ms' ≤ ms) (hd : decode M.2.1 pc = .ok (.invokevirtual idx, 3)) (hw : xCw M.1.cls idx M' n) (hi : xw (.instanceMethod M'.1)) (hsel : xw (.selects C M'.1 M'.1)) (hci : vwCl[ci]? = some (C, T, N)) (hb : b < S.2.1) (hcell : S.2.2 b = .inr (ci, fs))
    (hst : st = As.reverse ++ .ref (xB E + b) :: rest) (hn : As.length = n) (hcat : (rest.map fun v => v.category).sum ≤ 8) (hdd : d' < d) (hC' : xC E M' d' mc' ms' (.ref (xB E + b) :: As) S Q')
    (kk : ∀ (v : Option Value) (S' : xS) (H' : Heap) (locs' : List Loc), Q' v S' → xH E S' H' → s.heap.size ≤ H'.size → (∀ q ∈ locs', xB E ≤ q.base) → W p E.1 e (xR d mc ms) s m args below meth c H' locs' (cells + mc') (slots + ms') Z (F0 m (pc + 3) ls (v.toList ++ rest))) :
    W p E.1 e (xR d mc ms) s m args below meth c H locs cells slots Z (F0 m pc ls st) := by
  obtain ⟨q1, q2, q3, q4, q5, q6, q7, q8, q9, q10⟩ := id hC
  have hcb := x_cb (d := d) (mc := mc) (ms := ms) (d' := d') (mc' := mc') (ms' := ms') hG q8 args hw hdd
  have hcode := x_word hG q8 hw.2.1 args
  have hini := x_word hG q8 hw.2.2.1 args
  have hrecv := va_recv (a := xB E + b) (q0 := 0) (fs := fs) (x_K hG q8) (x_one (x_cell hH hb hcell)) hci rfl
  have hpre : PreV s H C (xB E + b) (xPc E (.ref (xB E + b) :: As) S) As := ⟨x_blind, hrecv, x_pre q8 hH⟩
  have hW8 : 2 * (F0 m pc ls st).monitorRoom + (rest.map fun v => v.category).sum ≤ 8 := by show 2 * 0 + _ ≤ 8; omega
  have hMH := hw.2.2.2.1
  rcases hw.1 with hl | ⟨host, hl⟩
  · exact y_run (va_runV (C := C) (b := xB E + b) (As := As) (rest := rest) (Ts := []) ⟨q1, q2, q3, q4, fun _ h => by cases h⟩ (hC' hG) ⟨⟨hcb.1, hcb.2.1, hcb.2.2.1, hcb.2.2.2.1, hcb.2.2.2.2.1, hcb.2.2.2.2.2, hcode, hini, ⟨hMH.1, hMH.2.1⟩, x_len hw, x_word hG q8 hl args⟩, x_word hG q8 hi args, x_word hG q8 hsel args⟩ hpre rfl hn hsz hst hW8 hd hcap) hlo kk
  · exact y_run (va_runVN (C := C) (b := xB E + b) (As := As) (rest := rest) (Ts := []) ⟨q1, q2, q3, q4, fun _ h => by cases h⟩ (hC' hG) ⟨⟨hcb, hcode, hini, ⟨hMH.1, hMH.2.1⟩, x_len hw, x_word hG q8 hl args⟩, x_word hG q8 hi args, x_word hG q8 hsel args⟩ hpre rfl hn hsz hst hW8 hd hcap) hlo kk
set_option maxHeartbeats 4000000 in
/-- throw new NoSuchElementException(a String constant), out of a method of GuideBook -/
theorem y_throw {k is : Nat} {mm : xMem} {Qc : Array Value → State → Outcome → State → Prop} (hG : xGH E) (hT0 : xThr E) (hC : xCx E M p s m meth c) (hown9 : M.1.cls = RX9) (hH : xH E (xf E mm) H) (hs : s.heap.size ≤ H.size) (hlo : ∀ q ∈ locs, xB E ≤ q.base) (hsz : ls.size = M.2.2.1) (hk9 : k < xsN) (ho : xsO k = M.1.cls) (hi9 : xsI k = is)
    (d0 : decode M.2.1 pc = .ok (.new 164, 3)) (d3 : decode M.2.1 (pc + 3) = .ok (.dup, 1)) (d4 : decode M.2.1 (pc + 4) = .ok (.ldc is, 2)) (d6 : decode M.2.1 (pc + 6) = .ok (.invokespecial 168, 3)) (d9 : decode M.2.1 (pc + 9) = .ok (.athrow, 1))
    (hk : xw (.classLink M.1.cls 164 nseN)) (hini : xw (.initialized nseN)) (htab : ∀ x ∈ c.exceptionTable.toList, False) (hdd : 6 ≤ d) (hcat : (rest.map fun v => v.category).sum ≤ 8) (hc0 : cells = 0) (hs0 : slots = 0) :
    W p E.1 e (xR d 1 6) s m args below meth c H locs cells slots (vx_MQ below Qc (xXC E mm) args s 1 6 (fun q => xB E ≤ q)) (F0 m pc ls rest) := by
  obtain ⟨q1, q2, q3, q4, q5, q6, q7, q8, q9, q10⟩ := id hC
  subst hc0
  subst hs0
  intro T hT X
  have htr : e.platform.stackTraces = false := (show e.platform.stackTraces = E.1.stackTraces by rw [X.admits.platform]).trans hT0.1
  have Y := vx_rebase X (R' := { frames := (xR d 1 6).frames, locals := (xR d 1 6).locals, cells := 1, slots := 6 }) (Nat.le_refl _) (Nat.le_refl _) (Nat.le_refl _) (Nat.le_refl _)
  obtain ⟨s', hA⟩ : ∃ z, z = (T.setVm s.vm).setFrames (.invoking m args :: below) := ⟨_, rfl⟩
  rw [← hA] at Y
  have hvm : s'.vm = s.vm := by rw [hA]; rfl
  have hhp : s'.heap = H := by rw [hA]; exact hT
  have hW0 : s.WarmedH s'.vm := by rw [hvm]; exact State.WarmedH.refl s
  have hW9 : E.2.1.WarmedH s'.vm := State.WarmedH.trans q8 hW0
  have hU' : vx_Zq Bundle.tN "UNASSIGNED_STACK" Bundle.steD (fun q => xB E ≤ q) s' s'.heap := by rw [hhp]; exact vx_Zq.moved hW9.alike (hT0.2.1.kept (fun a h _ => hH.2.2.2 a h))
  have hN' : vx_Zq Bundle.tN "SUPPRESSED_SENTINEL" Bundle.listD (fun q => xB E ≤ q) s' s'.heap := by rw [hhp]; exact vx_Zq.moved hW9.alike (hT0.2.2.kept (fun a h _ => hH.2.2.2 a h))
  have hown' : s'.vm.findClass RX9 = some m.cls := by rw [hvm, ← hown9]; exact q4
  have hkk : xw (.classLink RX9 164 nseN) := by rw [← hown9]; exact hk
  have hins : (Cond.instantiable nseN 6).before args s' = true := x_word hG hW9 (nse_w _ (by decide +kernel)) args
  obtain ⟨vm₁, cX, kX, hfX, hkX, -, -, X₁, st1⟩ := Y.newCold q1 (own := RX9) (C := nseN) (index := 164) (n := 6) hown' (x_word hG hW9 hkk args) hins (x_word hG hW9 hini args)
    (g := F0 m pc ls rest) rfl (by rw [q2]; exact d0) (Nat.le_refl _) (Nat.le_refl _)
  generalize hT1 : (T.setVm vm₁).pushCell { cls := cX, slots := kX.instanceTypes.map defaultValue, vm := .none } = T1 at X₁ st1
  have hcat1 : (Value.ref T.heap.size).category = 1 := rfl
  have hcellA : T1.heap[T.heap.size]? = some (freshCell cX kX) := by rw [← hT1]; exact State.heap_pushCell_size _ _
  have d3' : decode c.code (pc + 3) = .ok (.dup, 1) := by rw [q2]; exact d3
  have d4' : decode c.code (pc + 4) = .ok (.ldc is, 2) := by rw [q2]; exact d4
  have hstr' : vk_R (xsO k) (xsI k) (xsT k) (xsa E k) s' := vk_R.warm hW9 (hG.2.2.1 k hk9)
  obtain ⟨U, hsteps, hrun, hend, hW, hsame, ce, hce, hcv, hcl⟩ := nse_throw X₁ q1 htr (own := RX9) (ic := 168) hown' (fun w hw => x_word hG hW9 (nse_w w hw) args) (vx_isRefq hU'.1) (vx_isRefq hN'.1) hU'.2.word hN'.2.word (fun x hx => nomatch hx) hfX hkX hcellA (by rw [hhp, hT]; exact Nat.le_refl _) (msg := .ref (xsa E k)) rfl
    (g := { method := m, pc := pc + 6, locals := ls, stack := .ref (xsa E k) :: .ref T.heap.size :: .ref T.heap.size :: rest, locked := none }) rfl (by rw [q3]; exact hsz) rfl rfl (rest := rest) rfl
    (by rw [q2]; exact d6) (by rw [q2]; exact d9) (fun x hx => (htab x hx).elim) (by show 5 < d + 1; omega) (by show 2 * 0 + _ + 81 ≤ 64 * (d + 1); simp only [List.map_cons, List.sum_cons, hcat1]; omega) q6
  obtain ⟨f1, f2⟩ := vx_frame hsame
  rw [hhp] at f1 f2
  have hWs : s.WarmedH U.vm := State.WarmedH.trans hW0 hW
  have hcl9 : s.vm.findClass nseN = some ce.cls := by rw [hvm] at hcl; exact hcl
  have hall : s.sameButNew ({ U with vm := s.vm } : State) locs 1 6 := by
    subst hA
    obtain ⟨e1, e2⟩ := hsame
    rw [State.setFrames_setFrames] at e1
    have h2 : (T.setVm s.vm).sameButNew ({ U with vm := s.vm } : State) [] (0 + 1) (0 + 6) := ⟨e1, e2⟩
    have h3 := X.same.trans h2
    rw [List.append_nil] at h3
    exact h3.mono (Nat.le_refl _) (Nat.le_refl _)
  have hxH : xH E (xf E mm) U.heap := by
    refine ⟨Nat.le_trans hH.1 f1, (fun h => by cases h), fun a ha => ?_, fun q hq => ?_⟩
    · have h9 := hH.2.2.1 a ha
      exact h9.kept (f2 _ h9.lt (fun z hz => nomatch hz))
    · rw [f2 q (Nat.lt_of_lt_of_le hq (Nat.le_trans (Nat.le_add_right _ _) hH.1)) (fun z hz => nomatch hz)]
      exact hH.2.2.2 q hq
  refine ⟨U, ?_, .threw T.heap.size, hrun, hend, Or.inr ⟨T.heap.size, rfl, nseN, ce, locs, ⟨rfl, hxH⟩, hce, hcv, hcl9, hWs, hall, hlo⟩⟩
  refine st1 _ ?_
  show Steps p.tables e below (T1.setTop { method := m, pc := pc + 3, locals := ls, stack := .ref T.heap.size :: rest, locked := none }) _
  jvm_step X₁.here [X₁.here.top, q1, d3', Value.category]
  exact X₁.ldcString q1 (own := xsO k) (text := xsT k) (index := xsI k) (a := xsa E k) (by rw [ho, hown9]; exact hown') hstr'.1 hstr'.2
    (g := { method := m, pc := pc + 4, locals := ls, stack := .ref T.heap.size :: .ref T.heap.size :: rest, locked := none }) rfl (by rw [hi9]; exact d4') _ hsteps
end YR
