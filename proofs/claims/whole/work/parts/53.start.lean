/-! THE CLAIM OUT OF ONE WALK OF THE LAW'S BODY. Your part is whole_start (and what it stands on); all else here is the same for every law, but numbers. -/
def R_law : String := "GuideBookLaw"
def lw_P (b : Addr) (xs : List Int32) (args : Array Value) (s : State) : Prop := args = #[.ref b] ∧ s.IntsAt b xs ∧ xs.length ≤ 3584 ∧ (Jvm.Cond.and given_1 narrow_1).before args s = true
def lw_Q (_ : Array Value) (s : State) (o : Outcome) (t : State) : Prop := o = .returned (some (.int 1)) ∧ Framed s o t [] 601024 7293034
def lw_Z (below : List Frame) (a : Array Value) (s : State) : State → Prop := fun t => ∃ o, t.status = .running ∧ Ended t below o ∧ lw_Q a s o t
/-- the law's own end, with 1 on the stack, nothing written that was there before, its room as the claim has it -/
theorem lw_ret {p : Program} {l : Launch} {e : Env} {s : State} {m : MethodId} {below : List Frame} {meth : Method} {c : Code} {b : Nat} (hx : p.tables.exec = Jvm.exec) (hb : c.code = code) (hr : meth.sig.returnType = ret) (hlocks : meth.locks = false) {pc : Nat} {H : Heap} {ls : Array Slot} (hdg : decode code pc = .ok (.ireturn, 1)) : W p l e room_1 s m #[Value.ref b] below meth c H [] 601024 7293034 (lw_Z below #[Value.ref b] s) (F0 m pc ls [.int 1]) := by
  intro T hT X
  obtain ⟨fs, hret, hrun, hended, hW, hframe⟩ := X.leave (v := some (.int 1)) (hlocks := hlocks) (fun h => by rw [hr] at h; cases h)
  have hmeth' : T.vm.method? m = some meth := X.method'
  refine ⟨T.setFrames fs, ?_, .returned (some (.int 1)), hrun, hended, rfl, ⟨_, rfl⟩, hW, hframe⟩
  jvm_step X.here [X.here.top, hx, hb, hdg, hmeth', hr, ret, narrow_b1]
  (try refine ⟨rfl, ?_⟩); (try refine ⟨rfl, ?_⟩)
  first | (intro acts; rw [hret _ acts rfl rfl rfl]) | rw [hret _ _ rfl rfl rfl]
  exact Steps.refl _
/-- what holds at the law's entry: the machine, the code, the tables' words (any of lw_tbl by 'hts w (by decide +kernel)'), the script of L ints xs at the cell b, what the Statement gives of the start (any of its parts by flat_of_before) -/
def lw_At (p : Program) (s : State) (m : MethodId) (meth : Method) (c : Code) (b L : Nat) (xs : Nat → Int32) : Prop :=
  p.tables.exec = Jvm.exec ∧ c.code = code ∧ meth.sig.returnType = ret ∧ c.maxLocals = 7 ∧ s.vm.findClass R_law = some m.cls ∧ (∀ w ∈ lw_tbl, w.before #[Value.ref b] s = true) ∧ va_X b L xs s s.heap ∧ b < s.heap.size ∧ meth.locks = false ∧ (Jvm.Cond.and given_1 narrow_1).before #[Value.ref b] s = true
theorem x_room {s : State} {pl : Platform} {d : Nat} (hd : d ≤ 1311) (h : s.hasRoom pl room_1 = true) : s.hasRoom pl (xR d 601024 7293034) = true := by
  unfold State.hasRoom at h ⊢
  rw [Bool.and_eq_true, Bool.and_eq_true, Bool.and_eq_true, Bool.and_eq_true] at h ⊢
  obtain ⟨⟨⟨⟨h1, h2⟩, h3⟩, h4⟩, h5⟩ := h
  have g1 := of_decide_eq_true h1
  obtain ⟨k1, k2, k3, k4, k5⟩ := of_decide_eq_true h2
  have e1 : room_1.locals = 84000 := rfl
  have e2 : room_1.frames = 2048 := rfl
  rw [e1] at g1 k3 k4
  rw [e2] at k1 k2
  refine ⟨⟨⟨⟨decide_eq_true ?_, decide_eq_true ⟨?_, ?_, ?_, ?_, k5⟩⟩, h3⟩, h4⟩, h5⟩ <;> (simp only [xR]; omega)
theorem whole_of (hP : ∀ (L : Nat) (xs : Nat → Int32), L ≤ 3584 → ∃ m', F_L_law L xs xm0 = some (1, m')) {p : Program} {e : Env} {s : State} {m : MethodId} {below : List Frame} {meth : Method} {c : Code} (l : Launch) (hl : l.stackTraces = false) {b L : Nat} {xs : Nat → Int32} (hL : L ≤ 3584) (C0 : lw_At p s m meth c b L xs) : W p l e room_1 s m #[Value.ref b] below meth c s.heap [] 0 0 (lw_Z below #[Value.ref b] s) (entryFrame m ([Value.ref b] : List Value).toArray 7) := by
  obtain ⟨c1, c2, c3, c4, c5, c6, c7, c8, c9, c10⟩ := C0
  obtain ⟨E, e1, e2, hG, hT0, hAO⟩ := x_env (p := p) (m := m) (meth := meth) (c := c) (L := L) (xs := xs) l hl c6 (flat_of_before _ c10)
  subst e1
  subst e2
  obtain ⟨m', hm'⟩ := hP L xs hL
  have hX : xX E (mLaw meth.name) 200 601024 7293034 601024 7293034 (fun v _ => v = some (.int 1)) 0 [(0, .ref b)] [] (xq 0 [] []) := by
    refine law_ctor hAO (by decide) (by decide) (by decide) ?_
    intro rc' rs' h1 h2
    refine pF_L_law (by decide) (1, m') rfl L xs c7 c8 hT0 xm0 ?_ ?_ hm'
    · exact Nat.le_trans (by decide) h1
    · exact Nat.le_trans (by decide) h2
  have hlv := lv_entry [Value.ref b] (n := 7) (Nat.le_of_ble_eq_true rfl)
  rw [lg_entry_eq]
  intro T hT St
  obtain ⟨t, a1, o, b1, b2, b3, Lc, b4, b5⟩ := hX hG p e E.2.1 m #[Value.ref b] below meth c E.2.1.heap [] 0 0 _ ⟨c1, c2, c4, c5, c3, c9, rfl, State.WarmedH.refl _, Nat.le_refl _, fun _ _ => rfl⟩ (Nat.le_refl _) ⟨Nat.le_refl _, fun _ => rfl, fun a h => absurd h (Nat.not_lt_zero a), fun _ _ => rfl⟩ (fun _ h => by cases h) hlv (Nat.zero_add _) (Nat.zero_add _) T hT { St with room := x_room (by decide) St.room }
  obtain ⟨v, S, ho, -, -, hv⟩ := b3
  subst ho
  subst hv
  exact ⟨t, a1, _, b1, b2, rfl, b4.1, b4.2.1, State.sameButNew.drop_fresh (L := []) b4.2.2 b5⟩
