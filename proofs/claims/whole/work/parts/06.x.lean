/-! THE X LAYER: one judgement 'xX' over the machine, with the cells of the whole system at known places behind the law's entry heap. -/
/-- launch, the law's entry state, the classes' numbers and slots, the array classes (0 int, 1 byte, 2 boolean, 3 long, 4 int rows) -/
abbrev xE : Type := Launch × State × va_G × (Nat → ClassId)
def xB (E : xE) : Nat := E.2.1.heap.size
def xTys (E : xE) : List (ClassId × FieldType) := [(E.2.2.2 0, .int), (E.2.2.2 1, .byte), (E.2.2.2 2, .boolean), (E.2.2.2 3, .long), (E.2.2.2 4, .array .int)]
/-- words that travel -/
def xTr (w : Cond) : Bool := goodWord w || (match w with | .fieldLinkNest _ _ _ _ _ _ => true | .methodLinkNest _ _ _ _ => true | .castable _ _ => true | .declares _ => true | _ => false)
/-- the String constants: where they lie, and their bytes -/
def xsa (E : xE) (k : Nat) : Nat := match (Term.string (xsO k) (xsI k)).eval #[] E.2.1 none [] E.2.1 with | some (.ref a) => a | _ => 0
def xsv (E : xE) (k : Nat) : Nat := match (Term.field (Term.string (xsO k) (xsI k)) "java/lang/String" "value" "[B").eval #[] E.2.1 none [] E.2.1 with | some (.ref a) => a | _ => 0
def xStr (E : xE) : Prop := (∀ k, k < xsN → vk_R (xsO k) (xsI k) (xsT k) (xsa E k) E.2.1) ∧ vk_S xsN xsLen xsByt (xsa E) (xsv E) (fun q => xB E ≤ q) E.2.1 E.2.1.heap ∧
  va_Z "java/lang/String" "COMPACT_STRINGS" "Z" (.int 1) (fun q => xB E ≤ q) E.2.1 E.2.1.heap ∧ va_Zq "jdk/internal/util/Preconditions" "SIOOBE_FORMATTER" "Ljava/util/function/BiFunction;" (fun q => xB E ≤ q) E.2.1 E.2.1.heap
def xGH (E : xE) : Prop := (∀ w ∈ lw_tbl, xTr w = true → w.before #[] E.2.1 = true) ∧ va_K E.2.2.1 vwCl (xTys E) E.2.1 ∧ xStr E
/-- a word of the tables that travels -/
def xw (w : Cond) : Prop := w ∈ lw_tbl ∧ xTr w = true
theorem x_word {E : xE} (hG : xGH E) {U : State} (hW : E.2.1.WarmedH U.vm) {w : Cond} (hw : xw w) (a : Array Value) : w.before a U = true := by
  have h0 := hG.1 w hw.1 hw.2
  have ht := hw.2
  unfold xTr at ht
  rw [Bool.or_eq_true] at ht
  rcases ht with hg | hn
  · exact word_at hW (good_of_word hg) h0
  · cases w <;> first | (exact Bool.noConfusion hn) | (exact va_Nw.use rfl (va_Nw.warmF hW h0)) | (exact va_Nw.use rfl (va_Nw.warmM hW h0)) | (exact va_Nw.use rfl (va_Nw.warmC hW h0)) | (exact va_Nw.use rfl (va_Nw.warmD hW h0))
theorem x_K {E : xE} (hG : xGH E) {U : State} (hW : E.2.1.WarmedH U.vm) : va_K E.2.2.1 vwCl (xTys E) U := va_K.moved hW.alike hG.2.1
abbrev xS : Type := Bool × Nat × (Nat → va_E)
/-- the heap holds the cells: n of them behind the old heap, which is as it was -/
def xH (E : xE) (S : xS) (H : Heap) : Prop :=
  xB E + S.2.1 ≤ H.size ∧ (S.1 = true → H.size = xB E + S.2.1) ∧ (∀ a, a < S.2.1 → va_at E.2.2.1 vwCl (xB E + a, S.2.2 a) H) ∧ ∀ q, q < xB E → H[q]? = E.2.1.heap[q]?
/-- a method: its name, code, locals, what it returns -/
abbrev xM : Type := MethodName × ByteArray × Nat × Option FieldType
def xR (d mc ms : Nat) : Room := { frames := d + 1, cells := mc, slots := ms, locals := 64 * (d + 1) }
def xCx (E : xE) (M : xM) (p : Program) (s : State) (m : MethodId) (meth : Method) (c : Code) : Prop :=
  p.tables.exec = Jvm.exec ∧ c.code = M.2.1 ∧ c.maxLocals = M.2.2.1 ∧ s.vm.findClass M.1.cls = some m.cls ∧ meth.sig.returnType = M.2.2.2 ∧ meth.locks = false ∧ meth.name = M.1.name ∧ E.2.1.WarmedH s.vm ∧ xB E ≤ s.heap.size ∧ ∀ q, q < xB E → s.heap[q]? = E.2.1.heap[q]?
def xQc (E : xE) (Q : Option Value → xS → Prop) : Array Value → State → Outcome → State → Prop := fun _ _ o t => ∃ (v : Option Value) (S : xS), o = .returned v ∧ E.2.1.WarmedH t.vm ∧ xH E S t.heap ∧ Q v S
def xX (E : xE) (M : xM) (d mc ms rc rs : Nat) (Q : Option Value → xS → Prop) (pc : Nat) (lv : List (Nat × Value)) (st : List Value) (S : xS) : Prop :=
  xGH E → ∀ (p : Program) (e : Env) (s : State) (m : MethodId) (args : Array Value) (below : List Frame) (meth : Method) (c : Code) (H : Heap) (locs : List Loc) (cells slots : Nat) (ls : Array Slot),
    xCx E M p s m meth c → s.heap.size ≤ H.size → xH E S H → (∀ q ∈ locs, xB E ≤ q.base) → lv_has ls M.2.2.1 lv → cells + rc = mc → slots + rs = ms →
    W p E.1 e (xR d mc ms) s m args below meth c H locs cells slots (MQ below (xQc E Q) args s mc ms (fun q => xB E ≤ q)) (F0 m pc ls st)
def xPc (E : xE) (av : List Value) (S : xS) : Array Value → State → Prop := fun v U => v = av.toArray ∧ E.2.1.WarmedH U.vm ∧ xH E S U.heap
/-- a method's contract -/
def xC (E : xE) (M : xM) (d mc ms : Nat) (av : List Value) (S : xS) (Q : Option Value → xS → Prop) : Prop :=
  xGH E → Met E.1 M.1 [.code M.1 M.2.1 M.2.2.1 M.2.2.2] (xR d mc ms) (xPc E av S) (xQc E Q) mc ms (fun q => xB E ≤ q)
theorem x_blind {E : xE} {av : List Value} {S : xS} : FrameBlind (xPc E av S) := fun a U g mk h => ⟨h.1, h.2.1, h.2.2⟩
/-- a method's contract out of a walk of its body -/
theorem x_enter {E : xE} {M : xM} {d mc ms : Nat} {av : List Value} {S : xS} {Q : Option Value → xS → Prop} (hy : plainName M.1.cls = true) (hl : (lg_sl av).length ≤ M.2.2.1)
    (h : xX E M d mc ms mc ms Q 0 (lv_args 0 av) [] S) : xC E M d mc ms av S Q := by
  intro hG
  refine Met.ofW (cc := M.2.1) (maxL := M.2.2.1) (ret := M.2.2.2) hy rfl ?_
  intro p e s m args below meth c s₁ B hml hv
  obtain ⟨rfl, hW, hH⟩ := hv
  have hlv := lv_entry av (n := M.2.2.1) hl
  rw [lg_entry_eq]
  have hown : s.vm.findClass M.1.cls = some m.cls := findClass_of_methodNamed B.named
  have hin : meth.name = M.1.name := (name_of_methodNamed B.named B.method).1
  exact h hG p e s m _ below meth c s.heap [] 0 0 _ ⟨B.exec, B.bytes, hml, hown, B.returns, B.notSynchronized, hin, hW, Nat.le_trans (Nat.le_add_right _ _) hH.1, hH.2.2.2⟩ (Nat.le_refl _) hH (fun _ h => by cases h) hlv (Nat.zero_add _) (Nat.zero_add _)
def xget (lv : List (Nat × Value)) (i : Nat) : Option Value := (lv.find? (fun q => q.1 == i)).map (fun q => q.2)
theorem x_at {ls : Array Slot} {n : Nat} {lv : List (Nat × Value)} (h : lv_has ls n lv) {i : Nat} {v : Value} (hv : xget lv i = some v) : ls[i]? = some (.val v) := by
  unfold xget at hv
  obtain ⟨q, hq, rfl⟩ := Option.map_eq_some_iff.mp hv
  have h1 := List.mem_of_find?_eq_some hq
  have h2 := List.find?_some hq
  have h3 : q.1 = i := by simpa using h2
  rw [← h3]
  exact h.2.2 q h1
section XR
variable {E : xE} {M : xM} {d mc ms rc rs : Nat} {Q : Option Value → xS → Prop} {pc : Nat} {lv : List (Nat × Value)} {st : List Value} {S : xS}
theorem x_lift {pc' : Nat} {lv' : List (Nat × Value)} {st' : List Value}
    (h : ∀ {p : Program} {l : Launch} {e : Env} {R : Room} {s : State} {m : MethodId} {args : Array Value} {below : List Frame} {meth : Method} {c : Code} {H : Heap} {locs : List Loc} {cells slots : Nat} {Z : State → Prop} {ls : Array Slot}, p.tables.exec = Jvm.exec → c.code = M.2.1 → lv_has ls M.2.2.1 lv →
      (∀ ls' : Array Slot, lv_has ls' M.2.2.1 lv' → W p l e R s m args below meth c H locs cells slots Z (F0 m pc' ls' st')) → W p l e R s m args below meth c H locs cells slots Z (F0 m pc ls st))
    (kk : xX E M d mc ms rc rs Q pc' lv' st' S) : xX E M d mc ms rc rs Q pc lv st S := by
  intro hG p e s m args below meth c H locs cells slots ls hC hs hH hlo hlv hc1 hs1
  exact h hC.1 hC.2.1 hlv (fun ls' hl' => kk hG p e s m args below meth c H locs cells slots ls' hC hs hH hlo hl' hc1 hs1)
theorem x_lift2 {pc1 pc2 : Nat} {st' : List Value} {A B : Prop}
    (h : ∀ {p : Program} {l : Launch} {e : Env} {R : Room} {s : State} {m : MethodId} {args : Array Value} {below : List Frame} {meth : Method} {c : Code} {H : Heap} {locs : List Loc} {cells slots : Nat} {Z : State → Prop} {ls : Array Slot}, p.tables.exec = Jvm.exec → c.code = M.2.1 →
      (A → W p l e R s m args below meth c H locs cells slots Z (F0 m pc1 ls st')) → (B → W p l e R s m args below meth c H locs cells slots Z (F0 m pc2 ls st')) → W p l e R s m args below meth c H locs cells slots Z (F0 m pc ls st))
    (k1 : A → xX E M d mc ms rc rs Q pc1 lv st' S) (k2 : B → xX E M d mc ms rc rs Q pc2 lv st' S) : xX E M d mc ms rc rs Q pc lv st S := by
  intro hG p e s m args below meth c H locs cells slots ls hC hs hH hlo hlv hc1 hs1
  exact h hC.1 hC.2.1 (fun a => k1 a hG p e s m args below meth c H locs cells slots ls hC hs hH hlo hlv hc1 hs1) (fun b => k2 b hG p e s m args below meth c H locs cells slots ls hC hs hH hlo hlv hc1 hs1)
theorem x_iconst {n : Int} {v : Int32} (hd : decode M.2.1 pc = .ok (.iconst n, 1)) (hv : Int32.ofInt n = v) (kk : xX E M d mc ms rc rs Q (pc + 1) lv (.int v :: st) S) : xX E M d mc ms rc rs Q pc lv st S := x_lift (fun hx hb hl k => lv_iconst hx hb hd hv (k _ hl)) kk
theorem x_bipush {n : Int} {v : Int32} (hd : decode M.2.1 pc = .ok (.bipush n, 2)) (hv : (Int8.ofInt n).toInt32 = v) (kk : xX E M d mc ms rc rs Q (pc + 2) lv (.int v :: st) S) : xX E M d mc ms rc rs Q pc lv st S := x_lift (fun hx hb hl k => lv_bipush hx hb hd hv (k _ hl)) kk
theorem x_sipush {n : Int} {v : Int32} (hd : decode M.2.1 pc = .ok (.sipush n, 3)) (hv : (Int16.ofInt n).toInt32 = v) (kk : xX E M d mc ms rc rs Q (pc + 3) lv (.int v :: st) S) : xX E M d mc ms rc rs Q pc lv st S := x_lift (fun hx hb hl k => lv_sipush hx hb hd hv (k _ hl)) kk
theorem x_lconst {n : Fin 2} {v : Int64} (hd : decode M.2.1 pc = .ok (.lconst n, 1)) (hv : Int64.ofNat (n : Nat) = v) (kk : xX E M d mc ms rc rs Q (pc + 1) lv (.long v :: st) S) : xX E M d mc ms rc rs Q pc lv st S := x_lift (fun hx hb hl k => lv_lconst hx hb hd hv (k _ hl)) kk
theorem x_iload_n {k : Fin 4} {v : Int32} (hd : decode M.2.1 pc = .ok (.iload_n k, 1)) (hv : xget lv k = some (.int v)) (kk : xX E M d mc ms rc rs Q (pc + 1) lv (.int v :: st) S) : xX E M d mc ms rc rs Q pc lv st S := x_lift (fun hx hb hl k => lv_iload_n hx hb hd rfl (x_at hl hv) (k _ hl)) kk
theorem x_iload {i : Nat} {v : Int32} (hd : decode M.2.1 pc = .ok (.iload i, 2)) (hv : xget lv i = some (.int v)) (kk : xX E M d mc ms rc rs Q (pc + 2) lv (.int v :: st) S) : xX E M d mc ms rc rs Q pc lv st S := x_lift (fun hx hb hl k => lv_iload hx hb hd (x_at hl hv) (k _ hl)) kk
theorem x_lload_n {k : Fin 4} {v : Int64} (hd : decode M.2.1 pc = .ok (.lload_n k, 1)) (hv : xget lv k = some (.long v)) (kk : xX E M d mc ms rc rs Q (pc + 1) lv (.long v :: st) S) : xX E M d mc ms rc rs Q pc lv st S := x_lift (fun hx hb hl k => lv_lload_n hx hb hd rfl (x_at hl hv) (k _ hl)) kk
theorem x_lload {i : Nat} {v : Int64} (hd : decode M.2.1 pc = .ok (.lload i, 2)) (hv : xget lv i = some (.long v)) (kk : xX E M d mc ms rc rs Q (pc + 2) lv (.long v :: st) S) : xX E M d mc ms rc rs Q pc lv st S := x_lift (fun hx hb hl k => lv_lload hx hb hd (x_at hl hv) (k _ hl)) kk
theorem x_aload_n {k : Fin 4} {v : Nat} (hd : decode M.2.1 pc = .ok (.aload_n k, 1)) (hv : xget lv k = some (.ref v)) (kk : xX E M d mc ms rc rs Q (pc + 1) lv (.ref v :: st) S) : xX E M d mc ms rc rs Q pc lv st S := x_lift (fun hx hb hl k => lv_aload_n hx hb hd rfl (x_at hl hv) (k _ hl)) kk
theorem x_aload {i : Nat} {v : Nat} (hd : decode M.2.1 pc = .ok (.aload i, 2)) (hv : xget lv i = some (.ref v)) (kk : xX E M d mc ms rc rs Q (pc + 2) lv (.ref v :: st) S) : xX E M d mc ms rc rs Q pc lv st S := x_lift (fun hx hb hl k => lv_aload hx hb hd (x_at hl hv) (k _ hl)) kk
def xset (lv : List (Nat × Value)) (i : Nat) (v : Value) : List (Nat × Value) := (i, v) :: lv.filter (fun q => !(q.1 == i) && !(q.1 + 1 == i && q.2.category == 2))
def xset2 (lv : List (Nat × Value)) (i : Nat) (v : Value) : List (Nat × Value) := (i, v) :: lv.filter (fun q => !(q.1 == i) && (!(q.1 == i + 1) && !(q.1 + 1 == i && q.2.category == 2)))
theorem x_istore_n {k : Fin 4} {x : Int32} {lv' : List (Nat × Value)} (hd : decode M.2.1 pc = .ok (.istore_n k, 1)) (ks : List Nat) (hn : (k : Nat) < M.2.2.1) (hl : lv_pick (xset lv k (.int x)) ks = lv') (kk : xX E M d mc ms rc rs Q (pc + 1) lv' st S) : xX E M d mc ms rc rs Q pc lv (.int x :: st) S := x_lift (fun hx hb hlv k => lv_istore_n hx hb hd rfl hlv hn rfl (fun _ h' => k _ (lv_sub h' ks hl))) kk
theorem x_istore {i : Nat} {x : Int32} {lv' : List (Nat × Value)} (hd : decode M.2.1 pc = .ok (.istore i, 2)) (ks : List Nat) (hn : i < M.2.2.1) (hl : lv_pick (xset lv i (.int x)) ks = lv') (kk : xX E M d mc ms rc rs Q (pc + 2) lv' st S) : xX E M d mc ms rc rs Q pc lv (.int x :: st) S := x_lift (fun hx hb hlv k => lv_istore hx hb hd hlv hn rfl (fun _ h' => k _ (lv_sub h' ks hl))) kk
theorem x_lstore_n {k : Fin 4} {x : Int64} {lv' : List (Nat × Value)} (hd : decode M.2.1 pc = .ok (.lstore_n k, 1)) (ks : List Nat) (hn : (k : Nat) + 1 < M.2.2.1) (hl : lv_pick (xset2 lv k (.long x)) ks = lv') (kk : xX E M d mc ms rc rs Q (pc + 1) lv' st S) : xX E M d mc ms rc rs Q pc lv (.long x :: st) S := x_lift (fun hx hb hlv k => lv_lstore_n hx hb hd rfl hlv hn rfl (fun _ h' => k _ (lv_sub h' ks hl))) kk
theorem x_lstore {i : Nat} {x : Int64} {lv' : List (Nat × Value)} (hd : decode M.2.1 pc = .ok (.lstore i, 2)) (ks : List Nat) (hn : i + 1 < M.2.2.1) (hl : lv_pick (xset2 lv i (.long x)) ks = lv') (kk : xX E M d mc ms rc rs Q (pc + 2) lv' st S) : xX E M d mc ms rc rs Q pc lv (.long x :: st) S := x_lift (fun hx hb hlv k => lv_lstore hx hb hd hlv hn rfl (fun _ h' => k _ (lv_sub h' ks hl))) kk
theorem x_astore_n {k : Fin 4} {x : Nat} {lv' : List (Nat × Value)} (hd : decode M.2.1 pc = .ok (.astore_n k, 1)) (ks : List Nat) (hn : (k : Nat) < M.2.2.1) (hl : lv_pick (xset lv k (.ref x)) ks = lv') (kk : xX E M d mc ms rc rs Q (pc + 1) lv' st S) : xX E M d mc ms rc rs Q pc lv (.ref x :: st) S := x_lift (fun hx hb hlv k => lv_astore_n hx hb hd rfl hlv hn rfl (fun _ h' => k _ (lv_sub h' ks hl))) kk
theorem x_astore {i : Nat} {x : Nat} {lv' : List (Nat × Value)} (hd : decode M.2.1 pc = .ok (.astore i, 2)) (ks : List Nat) (hn : i < M.2.2.1) (hl : lv_pick (xset lv i (.ref x)) ks = lv') (kk : xX E M d mc ms rc rs Q (pc + 2) lv' st S) : xX E M d mc ms rc rs Q pc lv (.ref x :: st) S := x_lift (fun hx hb hlv k => lv_astore hx hb hd hlv hn rfl (fun _ h' => k _ (lv_sub h' ks hl))) kk
theorem x_lv {lv' : List (Nat × Value)} (ks : List Nat) (hl : lv_pick lv ks = lv') (kk : xX E M d mc ms rc rs Q pc lv' st S) : xX E M d mc ms rc rs Q pc lv st S := x_lift (fun _ _ hlv k => k _ (lv_sub hlv ks hl)) kk
theorem x_iinc {i : Nat} {n : Int} {x v : Int32} {lv' : List (Nat × Value)} (hd : decode M.2.1 pc = .ok (.iinc i n, 3)) (j : Nat) (ks : List Nat) (hj : lv[j]? = some (i, .int x)) (hv : x + Int32.ofInt n = v) (hn : i < M.2.2.1) (hl : lv_pick (xset lv i (.int v)) ks = lv') (kk : xX E M d mc ms rc rs Q (pc + 3) lv' st S) : xX E M d mc ms rc rs Q pc lv st S := x_lift (fun hx hb hlv k => lv_iinc hx hb hd hlv hj hv hn rfl (fun _ h' => k _ (lv_sub h' ks hl))) kk
theorem x_iadd {x y : Int32} (hd : decode M.2.1 pc = .ok (.iadd, 1)) (kk : xX E M d mc ms rc rs Q (pc + 1) lv (.int (x + y) :: st) S) : xX E M d mc ms rc rs Q pc lv (.int y :: .int x :: st) S := x_lift (fun hx hb hl k => lv_iadd hx hb hd (k _ hl)) kk
theorem x_isub {x y : Int32} (hd : decode M.2.1 pc = .ok (.isub, 1)) (kk : xX E M d mc ms rc rs Q (pc + 1) lv (.int (x - y) :: st) S) : xX E M d mc ms rc rs Q pc lv (.int y :: .int x :: st) S := x_lift (fun hx hb hl k => lv_isub hx hb hd (k _ hl)) kk
theorem x_imul {x y : Int32} (hd : decode M.2.1 pc = .ok (.imul, 1)) (kk : xX E M d mc ms rc rs Q (pc + 1) lv (.int (x * y) :: st) S) : xX E M d mc ms rc rs Q pc lv (.int y :: .int x :: st) S := x_lift (fun hx hb hl k => lv_imul hx hb hd (k _ hl)) kk
theorem x_iand {x y : Int32} (hd : decode M.2.1 pc = .ok (.iand, 1)) (kk : xX E M d mc ms rc rs Q (pc + 1) lv (.int (x &&& y) :: st) S) : xX E M d mc ms rc rs Q pc lv (.int y :: .int x :: st) S := x_lift (fun hx hb hl k => lv_iand hx hb hd (k _ hl)) kk
theorem x_ior {x y : Int32} (hd : decode M.2.1 pc = .ok (.ior, 1)) (kk : xX E M d mc ms rc rs Q (pc + 1) lv (.int (x ||| y) :: st) S) : xX E M d mc ms rc rs Q pc lv (.int y :: .int x :: st) S := x_lift (fun hx hb hl k => lv_ior hx hb hd (k _ hl)) kk
theorem x_idiv {x y : Int32} (hd : decode M.2.1 pc = .ok (.idiv, 1)) (hne : ¬ y = 0) (kk : xX E M d mc ms rc rs Q (pc + 1) lv (.int (x / y) :: st) S) : xX E M d mc ms rc rs Q pc lv (.int y :: .int x :: st) S := x_lift (fun hx hb hl k => lv_idiv hx hb hd hne (k _ hl)) kk
theorem x_ineg {x : Int32} (hd : decode M.2.1 pc = .ok (.ineg, 1)) (kk : xX E M d mc ms rc rs Q (pc + 1) lv (.int (-x) :: st) S) : xX E M d mc ms rc rs Q pc lv (.int x :: st) S := x_lift (fun hx hb hl k => lv_ineg hx hb hd (k _ hl)) kk
theorem x_ishl {x y : Int32} (hd : decode M.2.1 pc = .ok (.ishl, 1)) (kk : xX E M d mc ms rc rs Q (pc + 1) lv (.int (x <<< (y &&& 31)) :: st) S) : xX E M d mc ms rc rs Q pc lv (.int y :: .int x :: st) S := x_lift (fun hx hb hl k => lv_ishl hx hb hd (k _ hl)) kk
theorem x_ishr {x y : Int32} (hd : decode M.2.1 pc = .ok (.ishr, 1)) (kk : xX E M d mc ms rc rs Q (pc + 1) lv (.int (x >>> (y &&& 31)) :: st) S) : xX E M d mc ms rc rs Q pc lv (.int y :: .int x :: st) S := x_lift (fun hx hb hl k => lv_ishr hx hb hd (k _ hl)) kk
theorem x_ladd {x y : Int64} (hd : decode M.2.1 pc = .ok (.ladd, 1)) (kk : xX E M d mc ms rc rs Q (pc + 1) lv (.long (x + y) :: st) S) : xX E M d mc ms rc rs Q pc lv (.long y :: .long x :: st) S := x_lift (fun hx hb hl k => lv_ladd hx hb hd (k _ hl)) kk
theorem x_lsub {x y : Int64} (hd : decode M.2.1 pc = .ok (.lsub, 1)) (kk : xX E M d mc ms rc rs Q (pc + 1) lv (.long (x - y) :: st) S) : xX E M d mc ms rc rs Q pc lv (.long y :: .long x :: st) S := x_lift (fun hx hb hl k => lv_lsub hx hb hd (k _ hl)) kk
theorem x_lmul {x y : Int64} (hd : decode M.2.1 pc = .ok (.lmul, 1)) (kk : xX E M d mc ms rc rs Q (pc + 1) lv (.long (x * y) :: st) S) : xX E M d mc ms rc rs Q pc lv (.long y :: .long x :: st) S := x_lift (fun hx hb hl k => lv_lmul hx hb hd (k _ hl)) kk
theorem x_land {x y : Int64} (hd : decode M.2.1 pc = .ok (.land, 1)) (kk : xX E M d mc ms rc rs Q (pc + 1) lv (.long (x &&& y) :: st) S) : xX E M d mc ms rc rs Q pc lv (.long y :: .long x :: st) S := x_lift (fun hx hb hl k => lv_land hx hb hd (k _ hl)) kk
theorem x_lor {x y : Int64} (hd : decode M.2.1 pc = .ok (.lor, 1)) (kk : xX E M d mc ms rc rs Q (pc + 1) lv (.long (x ||| y) :: st) S) : xX E M d mc ms rc rs Q pc lv (.long y :: .long x :: st) S := x_lift (fun hx hb hl k => lv_lor hx hb hd (k _ hl)) kk
theorem x_ldiv {x y : Int64} (hd : decode M.2.1 pc = .ok (.ldiv, 1)) (hne : ¬ y = 0) (kk : xX E M d mc ms rc rs Q (pc + 1) lv (.long (x / y) :: st) S) : xX E M d mc ms rc rs Q pc lv (.long y :: .long x :: st) S := x_lift (fun hx hb hl k => lv_ldiv hx hb hd hne (k _ hl)) kk
theorem x_lshl {x : Int64} {y : Int32} (hd : decode M.2.1 pc = .ok (.lshl, 1)) (kk : xX E M d mc ms rc rs Q (pc + 1) lv (.long (x <<< (y.toInt64 &&& 63)) :: st) S) : xX E M d mc ms rc rs Q pc lv (.int y :: .long x :: st) S := x_lift (fun hx hb hl k => lv_lshl hx hb hd rfl (k _ hl)) kk
theorem x_lshr {x : Int64} {y : Int32} (hd : decode M.2.1 pc = .ok (.lshr, 1)) (kk : xX E M d mc ms rc rs Q (pc + 1) lv (.long (x >>> (y.toInt64 &&& 63)) :: st) S) : xX E M d mc ms rc rs Q pc lv (.int y :: .long x :: st) S := x_lift (fun hx hb hl k => lv_lshr hx hb hd rfl (k _ hl)) kk
def xushr (x : Int64) (y : Int32) : Int64 := (x.toUInt64 >>> (y.toInt64.toUInt64 &&& Int64.toUInt64 63)).toInt64
theorem x_lushr {x : Int64} {y : Int32} (hd : decode M.2.1 pc = .ok (.lushr, 1)) (kk : xX E M d mc ms rc rs Q (pc + 1) lv (.long (xushr x y) :: st) S) : xX E M d mc ms rc rs Q pc lv (.int y :: .long x :: st) S := x_lift (fun hx hb hl k => lv_lushr hx hb hd rfl (k _ hl)) kk
theorem x_lcmp {x y : Int64} (hd : decode M.2.1 pc = .ok (.lcmp, 1)) (kk : xX E M d mc ms rc rs Q (pc + 1) lv (.int (lg_cmp x y) :: st) S) : xX E M d mc ms rc rs Q pc lv (.long y :: .long x :: st) S := x_lift (fun hx hb hl k => W.lcmp hx hb hd (k _ hl)) kk
theorem x_i2l {x : Int32} (hd : decode M.2.1 pc = .ok (.i2l, 1)) (kk : xX E M d mc ms rc rs Q (pc + 1) lv (.long x.toInt64 :: st) S) : xX E M d mc ms rc rs Q pc lv (.int x :: st) S := x_lift (fun hx hb hl k => lv_i2l hx hb hd rfl (k _ hl)) kk
theorem x_l2i {x : Int64} (hd : decode M.2.1 pc = .ok (.l2i, 1)) (kk : xX E M d mc ms rc rs Q (pc + 1) lv (.int x.toInt32 :: st) S) : xX E M d mc ms rc rs Q pc lv (.long x :: st) S := x_lift (fun hx hb hl k => lv_l2i hx hb hd rfl (k _ hl)) kk
theorem x_i2b {x : Int32} (hd : decode M.2.1 pc = .ok (.i2b, 1)) (kk : xX E M d mc ms rc rs Q (pc + 1) lv (.int x.toInt8.toInt32 :: st) S) : xX E M d mc ms rc rs Q pc lv (.int x :: st) S := x_lift (fun hx hb hl k => lv_i2b hx hb hd rfl (k _ hl)) kk
theorem x_dup {v : Value} (hd : decode M.2.1 pc = .ok (.dup, 1)) (hv : v.category = 1) (kk : xX E M d mc ms rc rs Q (pc + 1) lv (v :: v :: st) S) : xX E M d mc ms rc rs Q pc lv (v :: st) S := x_lift (fun hx hb hl k => lv_dup hx hb hd hv (k _ hl)) kk
theorem x_dup2 {v w : Value} (hd : decode M.2.1 pc = .ok (.dup2, 1)) (hv : v.category = 1) (hw : w.category = 1) (kk : xX E M d mc ms rc rs Q (pc + 1) lv (v :: w :: v :: w :: st) S) : xX E M d mc ms rc rs Q pc lv (v :: w :: st) S := x_lift (fun hx hb hl k => lv_dup2_11 hx hb hd hv hw (k _ hl)) kk
theorem x_pop {v : Value} (hd : decode M.2.1 pc = .ok (.pop, 1)) (hv : v.category = 1) (kk : xX E M d mc ms rc rs Q (pc + 1) lv st S) : xX E M d mc ms rc rs Q pc lv (v :: st) S := x_lift (fun hx hb hl k => lv_pop hx hb hd hv (k _ hl)) kk
theorem x_goto {off : Int} (tgt : Nat) (hd : decode M.2.1 pc = .ok (.goto off, 3)) (ht : (pc : Int) + off = (tgt : Int)) (kk : xX E M d mc ms rc rs Q tgt lv st S) : xX E M d mc ms rc rs Q pc lv st S := x_lift (fun hx hb hl k => lv_goto hx hb hd ht (k _ hl)) kk
theorem x_if_eq {x : Int32} {off : Int} (tgt : Nat) (hd : decode M.2.1 pc = .ok (.ifCond .eq off, 3)) (ht : (pc : Int) + off = (tgt : Int)) (k1 : x = 0 → xX E M d mc ms rc rs Q tgt lv st S) (k2 : ¬ x = 0 → xX E M d mc ms rc rs Q (pc + 3) lv st S) : xX E M d mc ms rc rs Q pc lv (.int x :: st) S := x_lift2 (fun hx hb k1 k2 => lv_if_eq hx hb hd ht k1 k2) k1 k2
theorem x_if_ne {x : Int32} {off : Int} (tgt : Nat) (hd : decode M.2.1 pc = .ok (.ifCond .ne off, 3)) (ht : (pc : Int) + off = (tgt : Int)) (k1 : ¬ x = 0 → xX E M d mc ms rc rs Q tgt lv st S) (k2 : x = 0 → xX E M d mc ms rc rs Q (pc + 3) lv st S) : xX E M d mc ms rc rs Q pc lv (.int x :: st) S := x_lift2 (fun hx hb k1 k2 => lv_if_ne hx hb hd ht k1 k2) k1 k2
theorem x_if_lt {x : Int32} {off : Int} (tgt : Nat) (hd : decode M.2.1 pc = .ok (.ifCond .lt off, 3)) (ht : (pc : Int) + off = (tgt : Int)) (k1 : x < 0 → xX E M d mc ms rc rs Q tgt lv st S) (k2 : ¬ x < 0 → xX E M d mc ms rc rs Q (pc + 3) lv st S) : xX E M d mc ms rc rs Q pc lv (.int x :: st) S := x_lift2 (fun hx hb k1 k2 => lv_if_lt hx hb hd ht k1 k2) k1 k2
theorem x_if_ge {x : Int32} {off : Int} (tgt : Nat) (hd : decode M.2.1 pc = .ok (.ifCond .ge off, 3)) (ht : (pc : Int) + off = (tgt : Int)) (k1 : 0 ≤ x → xX E M d mc ms rc rs Q tgt lv st S) (k2 : ¬ 0 ≤ x → xX E M d mc ms rc rs Q (pc + 3) lv st S) : xX E M d mc ms rc rs Q pc lv (.int x :: st) S := x_lift2 (fun hx hb k1 k2 => lv_if_ge hx hb hd ht k1 k2) k1 k2
theorem x_if_gt {x : Int32} {off : Int} (tgt : Nat) (hd : decode M.2.1 pc = .ok (.ifCond .gt off, 3)) (ht : (pc : Int) + off = (tgt : Int)) (k1 : 0 < x → xX E M d mc ms rc rs Q tgt lv st S) (k2 : ¬ 0 < x → xX E M d mc ms rc rs Q (pc + 3) lv st S) : xX E M d mc ms rc rs Q pc lv (.int x :: st) S := x_lift2 (fun hx hb k1 k2 => lv_if_gt hx hb hd ht k1 k2) k1 k2
theorem x_if_le {x : Int32} {off : Int} (tgt : Nat) (hd : decode M.2.1 pc = .ok (.ifCond .le off, 3)) (ht : (pc : Int) + off = (tgt : Int)) (k1 : x ≤ 0 → xX E M d mc ms rc rs Q tgt lv st S) (k2 : ¬ x ≤ 0 → xX E M d mc ms rc rs Q (pc + 3) lv st S) : xX E M d mc ms rc rs Q pc lv (.int x :: st) S := x_lift2 (fun hx hb k1 k2 => lv_if_le hx hb hd ht k1 k2) k1 k2
theorem x_icmp_eq {x y : Int32} {off : Int} (tgt : Nat) (hd : decode M.2.1 pc = .ok (.if_icmp .eq off, 3)) (ht : (pc : Int) + off = (tgt : Int)) (k1 : x = y → xX E M d mc ms rc rs Q tgt lv st S) (k2 : ¬ x = y → xX E M d mc ms rc rs Q (pc + 3) lv st S) : xX E M d mc ms rc rs Q pc lv (.int y :: .int x :: st) S := x_lift2 (fun hx hb k1 k2 => lv_icmp_eq hx hb hd ht k1 k2) k1 k2
theorem x_icmp_ne {x y : Int32} {off : Int} (tgt : Nat) (hd : decode M.2.1 pc = .ok (.if_icmp .ne off, 3)) (ht : (pc : Int) + off = (tgt : Int)) (k1 : ¬ x = y → xX E M d mc ms rc rs Q tgt lv st S) (k2 : x = y → xX E M d mc ms rc rs Q (pc + 3) lv st S) : xX E M d mc ms rc rs Q pc lv (.int y :: .int x :: st) S := x_lift2 (fun hx hb k1 k2 => lv_icmp_ne hx hb hd ht k1 k2) k1 k2
theorem x_icmp_lt {x y : Int32} {off : Int} (tgt : Nat) (hd : decode M.2.1 pc = .ok (.if_icmp .lt off, 3)) (ht : (pc : Int) + off = (tgt : Int)) (k1 : x < y → xX E M d mc ms rc rs Q tgt lv st S) (k2 : ¬ x < y → xX E M d mc ms rc rs Q (pc + 3) lv st S) : xX E M d mc ms rc rs Q pc lv (.int y :: .int x :: st) S := x_lift2 (fun hx hb k1 k2 => lv_icmp_lt hx hb hd ht k1 k2) k1 k2
theorem x_icmp_ge {x y : Int32} {off : Int} (tgt : Nat) (hd : decode M.2.1 pc = .ok (.if_icmp .ge off, 3)) (ht : (pc : Int) + off = (tgt : Int)) (k1 : y ≤ x → xX E M d mc ms rc rs Q tgt lv st S) (k2 : ¬ y ≤ x → xX E M d mc ms rc rs Q (pc + 3) lv st S) : xX E M d mc ms rc rs Q pc lv (.int y :: .int x :: st) S := x_lift2 (fun hx hb k1 k2 => lv_icmp_ge hx hb hd ht k1 k2) k1 k2
theorem x_icmp_gt {x y : Int32} {off : Int} (tgt : Nat) (hd : decode M.2.1 pc = .ok (.if_icmp .gt off, 3)) (ht : (pc : Int) + off = (tgt : Int)) (k1 : y < x → xX E M d mc ms rc rs Q tgt lv st S) (k2 : ¬ y < x → xX E M d mc ms rc rs Q (pc + 3) lv st S) : xX E M d mc ms rc rs Q pc lv (.int y :: .int x :: st) S := x_lift2 (fun hx hb k1 k2 => lv_icmp_gt hx hb hd ht k1 k2) k1 k2
theorem x_icmp_le {x y : Int32} {off : Int} (tgt : Nat) (hd : decode M.2.1 pc = .ok (.if_icmp .le off, 3)) (ht : (pc : Int) + off = (tgt : Int)) (k1 : x ≤ y → xX E M d mc ms rc rs Q tgt lv st S) (k2 : ¬ x ≤ y → xX E M d mc ms rc rs Q (pc + 3) lv st S) : xX E M d mc ms rc rs Q pc lv (.int y :: .int x :: st) S := x_lift2 (fun hx hb k1 k2 => lv_icmp_le hx hb hd ht k1 k2) k1 k2
theorem x_tableIn {dflt lo hi : Int} {offs : Array Int} {len : Nat} {x : Int32} {off : Int} (tgt : Nat) (hd : decode M.2.1 pc = .ok (.tableswitch dflt lo hi offs, len)) (h1 : ¬ x.toInt < lo) (h2 : ¬ hi < x.toInt) (ho : offs[(x.toInt - lo).toNat]? = some off) (ht : (pc : Int) + off = (tgt : Int)) (kk : xX E M d mc ms rc rs Q tgt lv st S) : xX E M d mc ms rc rs Q pc lv (.int x :: st) S := x_lift (fun hx hb hl k => lv_tableIn hx hb hd h1 h2 ho ht (k _ hl)) kk
theorem x_tableOut {dflt lo hi : Int} {offs : Array Int} {len : Nat} {x : Int32} (tgt : Nat) (hd : decode M.2.1 pc = .ok (.tableswitch dflt lo hi offs, len)) (h : x.toInt < lo ∨ hi < x.toInt) (ht : (pc : Int) + dflt = (tgt : Int)) (kk : xX E M d mc ms rc rs Q tgt lv st S) : xX E M d mc ms rc rs Q pc lv (.int x :: st) S := x_lift (fun hx hb hl k => lv_tableOut hx hb hd h ht (k _ hl)) kk
theorem x_lookup {dflt : Int} {ps : Array (Int × Int)} {len : Nat} {x : Int32} {off : Int} (tgt : Nat) (hd : decode M.2.1 pc = .ok (.lookupswitch dflt ps, len)) (hp : (ps.toList.zip (ps.toList.drop 1)).all (fun (a, next) => a.1 < next.1) = true) (ho : Op.lookupswitch.offset ps.toList dflt x.toInt = off) (ht : (pc : Int) + off = (tgt : Int)) (kk : xX E M d mc ms rc rs Q tgt lv st S) : xX E M d mc ms rc rs Q pc lv (.int x :: st) S := x_lift (fun hx hb hl k => lv_lookup hx hb hd hp ho ht (k _ hl)) kk
end XR
