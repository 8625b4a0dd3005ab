/-! the X layer: String constants, Math.min and max, arraycopy, JDK methods by their own code -/
theorem x_enterF {E : xE} {M : xM} {d mc ms : Nat} {av : List Value} {S : xS} {Q : Option Value → xS → Prop} (hy : plainFor M.1 = true) (hl : (lg_sl av).length ≤ M.2.2.1)
    (h : xX E M d mc ms mc ms Q 0 (lv_args 0 av) [] S) : xC E M d mc ms av S Q := by
  intro hG
  refine va_MetF (cc := M.2.1) (maxL := M.2.2.1) (ret := M.2.2.2) hy rfl ?_
  intro p e s m args below meth c s₁ B hml hv
  obtain ⟨rfl, hW, hH⟩ := hv
  have hlv := lv_entry av (n := M.2.2.1) hl
  rw [lg_entry_eq]
  have hown : s.vm.findClass M.1.cls = some m.cls := findClass_of_methodNamed B.named
  have hin : meth.name = M.1.name := (name_of_methodNamed B.named B.method).1
  exact h hG p e s m _ below meth c s.heap [] 0 0 _ ⟨B.exec, B.bytes, hml, hown, B.returns, B.notSynchronized, hin, hW, Nat.le_trans (Nat.le_add_right _ _) hH.1, hH.2.2.2⟩ (Nat.le_refl _) hH (fun _ h => by cases h) hlv (Nat.zero_add _) (Nat.zero_add _)
theorem x_vaS {E : xE} {S : xS} {s : State} {H : Heap} {locs : List Loc} (ho : ∀ q, q < xB E → s.heap[q]? = E.2.1.heap[q]?) (hs : s.heap.size ≤ H.size) (hH : xH E S H) (hlo : ∀ q ∈ locs, xB E ≤ q.base) : va_S (fun q => xB E ≤ q) s.heap H locs :=
  ⟨hs, fun q _ h2 => by
    have h3 : q < xB E := Nat.not_le.mp h2
    rw [hH.2.2.2 q h3, ho q h3], hlo⟩
theorem x_old {E : xE} {s : State} (ho : ∀ q, q < xB E → s.heap[q]? = E.2.1.heap[q]?) : ∀ a : Nat, a < E.2.1.heap.size → ¬ (fun q => xB E ≤ q) a → s.heap[a]? = E.2.1.heap[a]? := fun a h _ => ho a h
section XSR
variable {E : xE} {M : xM} {d mc ms rc rs : Nat} {Q : Option Value → xS → Prop} {pc : Nat} {lv : List (Nat × Value)} {st : List Value} {S : xS}
theorem x_ldcS {k idx : Nat} (hd : decode M.2.1 pc = .ok (.ldc idx, 2)) (hk : k < xsN) (ho : xsO k = M.1.cls) (hi : xsI k = idx) (kk : xX E M d mc ms rc rs Q (pc + 2) lv (.ref (xsa E k) :: st) S) : xX E M d mc ms rc rs Q pc lv st S := by
  intro hG p e s m args below meth c H locs cells slots ls hC hs hH hlo hlv hc1 hs1
  have hR := vk_R.warm hC.2.2.2.2.2.2.2.1 (hG.2.2.1 k hk)
  exact va_ldcS hC.1 hC.2.1 (by rw [ho]; exact hC.2.2.2.1) hR (by rw [hi]; exact hd) (kk hG p e s m args below meth c H locs cells slots ls hC hs hH hlo hlv hc1 hs1)
theorem x_sval {k idx : Nat} (hd : decode M.2.1 pc = .ok (.getfield idx, 3)) (hk : k < xsN) (hl : xw (.fieldLink M.1.cls idx "java/lang/String" "value" "[B")) (kk : xX E M d mc ms rc rs Q (pc + 3) lv (.ref (xsv E k) :: st) S) : xX E M d mc ms rc rs Q pc lv (.ref (xsa E k) :: st) S := by
  intro hG p e s m args below meth c H locs cells slots ls hC hs hH hlo hlv hc1 hs1
  obtain ⟨q1, q2, q3, q4, q5, q6, q7, q8, q9, q10⟩ := id hC
  exact vk_getf q1 q2 ((va_OF.moved q8.alike (hG.2.2.2.1.1 k hk).2.2.1).kept (x_old q10)) (x_vaS q10 hs hH hlo) q4 (x_word hG q8 hl args) (fun _ h => h) hd (kk hG p e s m args below meth c H locs cells slots ls hC hs hH hlo hlv hc1 hs1)
theorem x_scod {k idx : Nat} (hd : decode M.2.1 pc = .ok (.getfield idx, 3)) (hk : k < xsN) (hl : xw (.fieldLink M.1.cls idx "java/lang/String" "coder" "B")) (kk : xX E M d mc ms rc rs Q (pc + 3) lv (.int 0 :: st) S) : xX E M d mc ms rc rs Q pc lv (.ref (xsa E k) :: st) S := by
  intro hG p e s m args below meth c H locs cells slots ls hC hs hH hlo hlv hc1 hs1
  obtain ⟨q1, q2, q3, q4, q5, q6, q7, q8, q9, q10⟩ := id hC
  exact vk_getf q1 q2 ((va_OF.moved q8.alike (hG.2.2.2.1.1 k hk).2.1).kept (x_old q10)) (x_vaS q10 hs hH hlo) q4 (x_word hG q8 hl args) (fun _ h => h) hd (kk hG p e s m args below meth c H locs cells slots ls hC hs hH hlo hlv hc1 hs1)
theorem x_svlen {k : Nat} {v : Int32} (hd : decode M.2.1 pc = .ok (.arraylength, 1)) (hk : k < xsN) (hv : Int32.ofNat (xsLen.getD k 0) = v) (kk : xX E M d mc ms rc rs Q (pc + 1) lv (.int v :: st) S) : xX E M d mc ms rc rs Q pc lv (.ref (xsv E k) :: st) S := by
  intro hG p e s m args below meth c H locs cells slots ls hC hs hH hlo hlv hc1 hs1
  obtain ⟨q1, q2, q3, q4, q5, q6, q7, q8, q9, q10⟩ := id hC
  exact va_tlen q1 q2 ((va_T.moved q8.alike (hG.2.2.2.1.1 k hk).2.2.2).kept (x_old q10)) (x_vaS q10 hs hH hlo) hv hd (kk hG p e s m args below meth c H locs cells slots ls hC hs hH hlo hlv hc1 hs1)
def xsb (k : Nat) (i : Nat) : Int32 := (xsByt.getD k []).getD i 0
theorem x_svald {k : Nat} {i : Int32} {n : Nat} (hd : decode M.2.1 pc = .ok (.baload, 1)) (hk : k < xsN) (hn : xsLen.getD k 0 = n) (hin : xin i n = true) (kk : xX E M d mc ms rc rs Q (pc + 1) lv (.int (xsb k i.toNatClampNeg) :: st) S) : xX E M d mc ms rc rs Q pc lv (.int i :: .ref (xsv E k) :: st) S := by
  intro hG p e s m args below meth c H locs cells slots ls hC hs hH hlo hlv hc1 hs1
  obtain ⟨q1, q2, q3, q4, q5, q6, q7, q8, q9, q10⟩ := id hC
  exact va_tb q1 q2 ((va_T.moved q8.alike (hG.2.2.2.1.1 k hk).2.2.2).kept (x_old q10)) (x_vaS q10 hs hH hlo) (by rw [hn]; exact xin_vp hin) rfl hd (kk hG p e s m args below meth c H locs cells slots ls hC hs hH hlo hlv hc1 hs1)
theorem x_getsC {idx : Nat} (hd : decode M.2.1 pc = .ok (.getstatic idx, 3)) (hl : xw (.fieldLink M.1.cls idx "java/lang/String" "COMPACT_STRINGS" "Z")) (kk : xX E M d mc ms rc rs Q (pc + 3) lv (.int 1 :: st) S) : xX E M d mc ms rc rs Q pc lv st S := by
  intro hG p e s m args below meth c H locs cells slots ls hC hs hH hlo hlv hc1 hs1
  obtain ⟨q1, q2, q3, q4, q5, q6, q7, q8, q9, q10⟩ := id hC
  exact va_gets q1 q2 ((va_Z.moved q8.alike hG.2.2.2.2.1).kept (x_old q10)) (x_vaS q10 hs hH hlo) q4 (x_word hG q8 hl args) (fun _ h => h) hd (kk hG p e s m args below meth c H locs cells slots ls hC hs hH hlo hlv hc1 hs1)
theorem x_getsQ {idx : Nat} (hd : decode M.2.1 pc = .ok (.getstatic idx, 3)) (hl : xw (.fieldLink M.1.cls idx "jdk/internal/util/Preconditions" "SIOOBE_FORMATTER" "Ljava/util/function/BiFunction;")) (kk : ∀ v : Value, (v = .null ∨ ∃ t, v = .ref t) → xX E M d mc ms rc rs Q (pc + 3) lv (v :: st) S) : xX E M d mc ms rc rs Q pc lv st S := by
  intro hG p e s m args below meth c H locs cells slots ls hC hs hH hlo hlv hc1 hs1
  obtain ⟨q1, q2, q3, q4, q5, q6, q7, q8, q9, q10⟩ := id hC
  rcases (va_Zq.moved q8.alike hG.2.2.2.2.2).kept (x_old q10) with h | ⟨t, h⟩
  · exact va_gets q1 q2 h (x_vaS q10 hs hH hlo) q4 (x_word hG q8 hl args) (fun _ h => h) hd (kk .null (Or.inl rfl) hG p e s m args below meth c H locs cells slots ls hC hs hH hlo hlv hc1 hs1)
  · exact va_gets q1 q2 h (x_vaS q10 hs hH hlo) q4 (x_word hG q8 hl args) (fun _ h => h) hd (kk (.ref t) (Or.inr ⟨t, rfl⟩) hG p e s m args below meth c H locs cells slots ls hC hs hH hlo hlv hc1 hs1)
theorem x_i2c {x : Int32} (hd : decode M.2.1 pc = .ok (.i2c, 1)) (kk : xX E M d mc ms rc rs Q (pc + 1) lv (.int (x.toUInt32 % 65536).toInt32 :: st) S) : xX E M d mc ms rc rs Q pc lv (.int x :: st) S := x_lift (fun hx hb hl k => lv_i2c hx hb hd rfl (k _ hl)) kk
theorem x_mmax {idx : Nat} {x y : Int32} (hd : decode M.2.1 pc = .ok (.invokestatic idx, 3)) (h1 : xw (.methodLink M.1.cls idx Lib.Math.max.name)) (h2 : xw (.static Lib.Math.max.name)) (h3 : xw (.initialized "java/lang/Math")) (h4 : xw (.code Lib.Math.max.name Lib.Math.max.code 2 (some .int))) (hcat : (st.map fun v => v.category).sum ≤ 8)
    (kk : xX E M d mc ms rc rs Q (pc + 3) lv (.int (if x < y then y else x) :: st) S) : xX E M d mc ms rc rs Q pc lv (.int y :: .int x :: st) S := by
  intro hG p e s m args below meth c H locs cells slots ls hC hs hH hlo hlv hc1 hs1
  obtain ⟨q1, q2, q3, q4, q5, q6, q7, q8, q9, q10⟩ := id hC
  exact va_mmax q1 q2 (by rw [q3]; exact hlv.1.symm) q4 (x_word hG q8 h1 args) (x_word hG q8 h2 args) (x_word hG q8 h3 args) (x_word hG q8 h4 args) (by show 1 ≤ d + 1; omega) (by show _ + 13 ≤ 64 * (d + 1); omega) (by show cells ≤ mc; omega) (by show slots ≤ ms; omega) hd (kk hG p e s m args below meth c H locs cells slots ls hC hs hH hlo hlv hc1 hs1)
theorem x_mmin {idx : Nat} {x y : Int32} (hd : decode M.2.1 pc = .ok (.invokestatic idx, 3)) (h1 : xw (.methodLink M.1.cls idx Lib.Math.min.name)) (h2 : xw (.static Lib.Math.min.name)) (h3 : xw (.initialized "java/lang/Math")) (h4 : xw (.code Lib.Math.min.name Lib.Math.min.code 2 (some .int))) (hcat : (st.map fun v => v.category).sum ≤ 8)
    (kk : xX E M d mc ms rc rs Q (pc + 3) lv (.int (if y < x then y else x) :: st) S) : xX E M d mc ms rc rs Q pc lv (.int y :: .int x :: st) S := by
  intro hG p e s m args below meth c H locs cells slots ls hC hs hH hlo hlv hc1 hs1
  obtain ⟨q1, q2, q3, q4, q5, q6, q7, q8, q9, q10⟩ := id hC
  exact va_mmin q1 q2 (by rw [q3]; exact hlv.1.symm) q4 (x_word hG q8 h1 args) (x_word hG q8 h2 args) (x_word hG q8 h3 args) (x_word hG q8 h4 args) (by show 1 ≤ d + 1; omega) (by show _ + 13 ≤ 64 * (d + 1); omega) (by show cells ≤ mc; omega) (by show slots ≤ ms; omega) hd (kk hG p e s m args below meth c H locs cells slots ls hC hs hH hlo hlv hc1 hs1)
/-- a call of a String constant's method -/
theorem x_callVs {idx n k : Nat} (M' : xM) {d' : Nat} (As : List Value) (rest : List Value) {m m' : xMem} {v : Int32} (hd : decode M.2.1 pc = .ok (.invokevirtual idx, 3)) (hw : xCw M.1.cls idx M' n) (hi : xw (.instanceMethod M'.1) ∧ xw (.selects "java/lang/String" M'.1 M'.1)) (hk : k < xsN)
    (hst : st = As.reverse ++ .ref (xsa E k) :: rest) (hn : As.length = n) (hcat : (rest.map fun v => v.category).sum ≤ 8) (hdd : d' < d) (hC' : xCi E M' d' (.ref (xsa E k) :: As) m v m')
    (kk : xX E M d mc ms rc rs Q (pc + 3) lv (.int v :: rest) (xf E m')) : xX E M d mc ms rc rs Q pc lv st (xf E m) := by
  intro hG p e s m₀ args below meth c H locs cells slots ls hC hs hH hlo hlv hc1 hs1
  obtain ⟨q1, q2, q3, q4, q5, q6, q7, q8, q9, q10⟩ := id hC
  have hcb := x_cb (d := d) (mc := mc) (ms := ms) (d' := d') (mc' := 0) (ms' := 0) hG q8 args hw hdd
  have hcode := x_word hG q8 hw.2.1 args
  have hini := x_word hG q8 hw.2.2.1 args
  have hO := (va_O.moved q8.alike (hG.2.2.2.1.1 k hk).1).kept (H1 := H) (fun a h _ => hH.2.2.2 a h)
  obtain ⟨cell, o1, o2, o3, -⟩ := hO
  have hcap : cells + 0 ≤ (xR d mc ms).cells ∧ slots + 0 ≤ (xR d mc ms).slots := ⟨by show cells + 0 ≤ mc; omega, by show slots + 0 ≤ ms; omega⟩
  have hpre : PreV s H "java/lang/String" (xsa E k) (xPc E (.ref (xsa E k) :: As) (xf E m)) As := ⟨x_blind, ⟨cell, o1, o2, o3⟩, x_pre q8 hH⟩
  have hW8 : 2 * (F0 m₀ pc ls st).monitorRoom + (rest.map fun v => v.category).sum ≤ 8 := by show 2 * 0 + _ ≤ 8; omega
  have hMH := hw.2.2.2.1
  have kk' : ∀ (r : Option Value) (S' : xS), (fun r S => r = some (.int v) ∧ S = xf E m') r S' → xX E M d mc ms (rc - 0) (rs - 0) Q (pc + 3) lv (r.toList ++ rest) S' := fun r S' hQ => by obtain ⟨rfl, rfl⟩ := hQ; exact kk
  rcases hw.1 with hl | ⟨host, hl⟩
  · exact x_run (M' := M') hG (va_runV (C := "java/lang/String") (b := xsa E k) (As := As) (rest := rest) (Ts := []) ⟨q1, q2, q3, q4, fun _ h => by cases h⟩ (hC' hG) ⟨⟨hcb.1, hcb.2.1, hcb.2.2.1, hcb.2.2.2.1, hcb.2.2.2.2.1, hcb.2.2.2.2.2, hcode, hini, ⟨hMH.1, hMH.2.1⟩, x_len hw, x_word hG q8 hl args⟩, x_word hG q8 hi.1 args, x_word hG q8 hi.2 args⟩ hpre rfl hn hlv.1 hst hW8 hd hcap) hC hlo hlv hc1 hs1 (Nat.zero_le _) (Nat.zero_le _) kk'
  · exact x_run (M' := M') hG (va_runVN (C := "java/lang/String") (b := xsa E k) (As := As) (rest := rest) (Ts := []) ⟨q1, q2, q3, q4, fun _ h => by cases h⟩ (hC' hG) ⟨⟨hcb, hcode, hini, ⟨hMH.1, hMH.2.1⟩, x_len hw, x_word hG q8 hl args⟩, x_word hG q8 hi.1 args, x_word hG q8 hi.2 args⟩ hpre rfl hn hlv.1 hst hW8 hd hcap) hC hlo hlv hc1 hs1 (Nat.zero_le _) (Nat.zero_le _) kk'
/-- int rows copied by arraycopy -/
def xcp (I : xI) (a0 a1 sp dp k : Nat) : xI := fun b j => if b = a1 then va_cpy (I a0) (I a1) sp dp k j else I b j
def xcpo (sp dp k : Int32) (n0 n1 : Nat) : Bool := !(decide (sp < 0)) && !(decide (dp < 0)) && !(decide (k < 0)) && decide (sp.toNatClampNeg + k.toNatClampNeg ≤ n0) && decide (dp.toNatClampNeg + k.toNatClampNeg ≤ n1)
theorem x_nfw : nativeFrameWords "java/lang/System" "arraycopy" 5 ≤ 80 := by decide +kernel
def xWs (E : xE) (S : xS) : va_W := (List.range S.2.1).map (fun a => (xB E + a, S.2.2 a))
theorem x_Wat {E : xE} {S : xS} {a : Nat} (ha : a < S.2.1) : (xWs E S)[a]? = some (xB E + a, S.2.2 a) := by
  unfold xWs
  rw [List.getElem?_map, List.getElem?_range ha]
  rfl
theorem x_Wat' {E : xE} {S : xS} {a : Nat} {q : Nat × va_E} (h : (xWs E S)[a]? = some q) : a < S.2.1 ∧ q = (xB E + a, S.2.2 a) := by
  have hl := (List.getElem?_eq_some_iff.mp h).1
  have ha : a < S.2.1 := by simpa [xWs] using hl
  rw [x_Wat ha] at h
  exact ⟨ha, (Option.some.inj h).symm⟩
theorem f_acpy {idx a0 a1 n0 n1 : Nat} {l0 l1 : List Nat} {sp dp k : Int32} {m : xMem} (hd : decode M.2.1 pc = .ok (.invokestatic idx, 3)) (h1 : xw (.methodLink M.1.cls idx arraycopyName)) (h2 : xw (.native arraycopyName)) (h3 : xw (.static arraycopyName)) (h4 : xw (.initialized "java/lang/System")) (ha0 : a0 < xnn) (ha1 : a1 < xnn) (hs0 : xsh a0 = (0, n0, l0)) (hs1 : xsh a1 = (0, n1, l1)) (hok : xcpo sp dp k n0 n1 = true) (hcat : (st.map fun v => v.category).sum ≤ 8) (hdd : 1 ≤ d)
    (kk : xX E M d mc ms rc rs Q (pc + 3) lv st (xf E (xcp m.1 a0 a1 sp.toNatClampNeg dp.toNatClampNeg k.toNatClampNeg, m.2))) : xX E M d mc ms rc rs Q pc lv (.int k :: .int dp :: .ref (xB E + a1) :: .int sp :: .ref (xB E + a0) :: st) (xf E m) := by
  intro hG p e s m₀ args below meth c H locs cells slots ls hC hs hH hlo hlv hc1 hs1'
  obtain ⟨q1, q2, q3, q4, q5, q6, q7, q8, q9, q10⟩ := id hC
  unfold xcpo at hok
  simp only [Bool.and_eq_true, Bool.not_eq_true', decide_eq_false_iff_not, decide_eq_true_eq] at hok
  obtain ⟨⟨⟨⟨k1, k2⟩, k3⟩, k4⟩, k5⟩ := hok
  have hc0 : (xf E m).2.2 a0 = .inl (E.2.2.2 0, n0, .inl (m.1 a0)) := by show xcell E m a0 (xsh a0) = _; rw [hs0]; rfl
  have hc9 : (xf E m).2.2 a1 = .inl (E.2.2.2 0, n1, .inl (m.1 a1)) := by show xcell E m a1 (xsh a1) = _; rw [hs1]; rfl
  have hP : va_P E.2.2.1 vwCl (xWs E (xf E m)) H := fun j q hq => by
    obtain ⟨g1, rfl⟩ := x_Wat' hq
    exact hH.2.2.1 j g1
  have hD : va_D (fun q => xB E ≤ q) (xWs E (xf E m)) := ⟨fun i j p q hi hj hpq => by
    obtain ⟨_, rfl⟩ := x_Wat' hi
    obtain ⟨_, rfl⟩ := x_Wat' hj
    have h9 : xB E + i = xB E + j := hpq
    omega, fun j q hq => by
    obtain ⟨_, rfl⟩ := x_Wat' hq
    exact Nat.le_add_right _ _⟩
  have hS : va_S (fun q => xB E ≤ q) H H locs := ⟨Nat.le_refl _, fun _ _ _ => rfl, hlo⟩
  have hnf := x_nfw
  refine va_copyi q1 q2 (by rw [q3]; exact hlv.1.symm) q4 (x_word hG q8 h1 args) (x_word hG q8 h2 args) (x_word hG q8 h3 args) (x_word hG q8 h4 args) (x_K hG q8) hP hD hS a0 a1 0 0 (by rw [x_Wat (S := xf E m) ha0, hc0]) (by rw [x_Wat (S := xf E m) ha1, hc9]) rfl rfl rfl k1 k2 k3 k4 k5 (fun _ _ => rfl) (by show 1 ≤ d + 1; omega) (by show _ ≤ 64 * (d + 1); omega) hd fun H1 locs1 hP1 hD1 hS1 => ?_
  refine kk hG p e s m₀ args below meth c H1 locs1 cells slots ls hC (Nat.le_trans hs hS1.1) ?_ hS1.2.2 hlv hc1 hs1'
  refine ⟨Nat.le_trans hH.1 hS1.1, (fun h => by cases h), fun b hb => ?_, fun q hq => ?_⟩
  · have hb9 : b < xnn := hb
    by_cases hba : b = a1
    · subst hba
      have h9 := hP1 b (xB E + b, .inl (E.2.2.2 0, n1, .inl (va_cpy (m.1 a0) (m.1 b) sp.toNatClampNeg dp.toNatClampNeg k.toNatClampNeg))) (by rw [List.getElem?_set_self (by simp [xWs]; exact hb)])
      show va_at _ _ (_, xcell E _ b (xsh b)) _
      rw [hs1]
      have e9 : xcell E (xcp m.1 a0 b sp.toNatClampNeg dp.toNatClampNeg k.toNatClampNeg, m.2) b (0, n1, l1) = .inl (E.2.2.2 0, n1, .inl (va_cpy (m.1 a0) (m.1 b) sp.toNatClampNeg dp.toNatClampNeg k.toNatClampNeg)) := by
        show Sum.inl _ = Sum.inl _
        congr 3
        refine congrArg Sum.inl (funext fun j => ?_)
        simp [xcp]
      rw [e9]
      exact h9
    · have h9 := hP1 b (xB E + b, (xf E m).2.2 b) (by rw [List.getElem?_set_ne (Ne.symm hba), x_Wat (S := xf E m) hb9])
      show va_at _ _ (_, xcell E _ b (xsh b)) _
      have e1 : xcp m.1 a0 a1 sp.toNatClampNeg dp.toNatClampNeg k.toNatClampNeg b = m.1 b := funext fun j => by simp [xcp, hba]
      have e2 : ∀ (fl : List Nat) (i : Nat), xmkF E (xcp m.1 a0 a1 sp.toNatClampNeg dp.toNatClampNeg k.toNatClampNeg) b i fl = xmkF E m.1 b i fl := by
        intro fl
        induction fl with
        | nil => intro i; rfl
        | cons c t ih =>
          intro i
          simp only [xmkF, ih, e1]
      have e3 : xcell E (xcp m.1 a0 a1 sp.toNatClampNeg dp.toNatClampNeg k.toNatClampNeg, m.2) b (xsh b) = xcell E m b (xsh b) := by
        unfold xcell
        simp only [e1, e2]
      rw [e3]
      exact h9
  · rw [hS1.2.1 q (Nat.lt_of_lt_of_le hq (Nat.le_trans (Nat.le_add_right _ _) hH.1)) (Nat.not_le.mpr hq)]
    exact hH.2.2.2 q hq
end XSR
theorem xlook_out {ps : List (Int × Int)} {d : Int} {x : Int32} (h : ∀ q ∈ ps, ¬ x = Int32.ofInt q.1) : Op.lookupswitch.offset ps d x.toInt = d := by
  induction ps with
  | nil => rfl
  | cons q t ih =>
    have h1 : ¬ x.toInt = q.1 := fun e => h q List.mem_cons_self (by rw [← e, Int32.ofInt_toInt])
    have h2 := ih (fun z hz => h z (List.mem_cons_of_mem _ hz))
    simp only [Op.lookupswitch.offset] at h2 ⊢
    rw [if_neg (fun e => h1 (Eq.symm e))]
    exact h2
