/-! the law: its script, its two helpers that catch -/
abbrev mLaw (nm : String) : xM := (⟨RL, nm, "([I)Z"⟩, cL_law, 7, some .boolean)
section XLAW
variable {E : xE} {M : xM} {d mc ms rc rs : Nat} {Q : Option Value → xS → Prop} {pc : Nat} {lv : List (Nat × Value)} {st : List Value} {S : xS} {b Ls : Nat} {xs : Nat → Int32}
theorem x_scd (hX : va_X b Ls xs E.2.1 E.2.1.heap) (hbl : b < xB E) {i : Int32} (hin : xin i Ls = true) (hd : decode M.2.1 pc = .ok (.iaload, 1)) (kk : xX E M d mc ms rc rs Q (pc + 1) lv (.int (xs i.toNatClampNeg) :: st) S) : xX E M d mc ms rc rs Q pc lv (.int i :: .ref b :: st) S := by
  intro hG p e s m args below meth c H locs cells slots ls hC hs hH hlo hlv hc1 hs1
  obtain ⟨q1, q2, q3, q4, q5, q6, q7, q8, q9, q10⟩ := id hC
  exact va_sld q1 q2 ((va_X.moved q8.alike hX).kept (q10 b hbl)) (Nat.lt_of_lt_of_le hbl q9) (Nat.not_le.mpr hbl) (x_vaS q10 hs hH hlo) (xin_vp hin) hd (kk hG p e s m args below meth c H locs cells slots ls hC hs hH hlo hlv hc1 hs1)
theorem x_scl (hX : va_X b Ls xs E.2.1 E.2.1.heap) (hbl : b < xB E) (hd : decode M.2.1 pc = .ok (.arraylength, 1)) (kk : xX E M d mc ms rc rs Q (pc + 1) lv (.int (Int32.ofNat Ls) :: st) S) : xX E M d mc ms rc rs Q pc lv (.ref b :: st) S := by
  intro hG p e s m args below meth c H locs cells slots ls hC hs hH hlo hlv hc1 hs1
  obtain ⟨q1, q2, q3, q4, q5, q6, q7, q8, q9, q10⟩ := id hC
  exact va_slen q1 q2 ((va_X.moved q8.alike hX).kept (q10 b hbl)) (Nat.lt_of_lt_of_le hbl q9) (Nat.not_le.mpr hbl) (x_vaS q10 hs hH hlo) hd (kk hG p e s m args below meth c H locs cells slots ls hC hs hH hlo hlv hc1 hs1)
end XLAW
section XLAW2
variable {E : xE} {d mc ms rc rs : Nat} {Q : Option Value → xS → Prop} {pc : Nat} {lv : List (Nat × Value)} {st : List Value} {nm : String}
theorem x_callSW {M : xM} {S : xS} {idx n : Nat} (M' : xM) {hh : List (Nat × Nat × Nat × Nat)} {d' mc' ms' : Nat} (As : List Value) (rest : List Value) {Q' : Option Value → xS → Prop} (hd : decode M.2.1 pc = .ok (.invokestatic idx, 3)) (hl : xw (.methodLink M.1.cls idx M'.1)) (hcw : xw (.codeWith M'.1 M'.2.1 M'.2.2.1 M'.2.2.2 hh)) (hini : xw (.initialized M'.1.cls)) (hi : xw (.static M'.1)) (hMH : M'.1.cls ≠ "java/lang/invoke/MethodHandle" ∧ M'.1.cls ≠ "java/lang/invoke/VarHandle" ∧ (parseMethodDescriptor M'.1.desc).map (fun d => d.parameters.length) = some n) (hml : M'.2.2.1 ≤ 40)
    (hst : st = As.reverse ++ rest) (hn : As.length = n) (hcat : (rest.map fun v => v.category).sum ≤ 8) (hdd : d' < d) (hmc : mc' ≤ rc) (hms : ms' ≤ rs) (hC' : xGH E → xCW E M' hh d' mc' ms' As S Q')
    (kk : ∀ (v : Option Value) (S' : xS), Q' v S' → xX E M d mc ms (rc - mc') (rs - ms') Q (pc + 3) lv (v.toList ++ rest) S') : xX E M d mc ms rc rs Q pc lv st S := by
  intro hG p e s m args below meth c H locs cells slots ls hC hs hH hlo hlv hc1 hs1
  obtain ⟨q1, q2, q3, q4, q5, q6, q7, q8, q9, q10⟩ := id hC
  have hcap : cells + mc' ≤ (xR d mc ms).cells ∧ slots + ms' ≤ (xR d mc ms).slots := ⟨by show cells + mc' ≤ mc; omega, by show slots + ms' ≤ ms; omega⟩
  have hpre : PreS s H (xPc E As S) As := ⟨x_blind, x_pre q8 hH⟩
  have hW8 : 2 * (F0 m pc ls st).monitorRoom + (rest.map fun v => v.category).sum ≤ 8 := by show 2 * 0 + _ ≤ 8; omega
  refine x_run (M' := M') hG (vx_runSW (hh := hh) (As := As) (rest := rest) (Ts := []) ⟨q1, q2, q3, q4, fun _ h => by cases h⟩ (hC' hG) ⟨⟨rfl, rfl, ?_, ?_, fun w hw' a' U hU => ?_, List.mem_singleton.mpr rfl⟩, x_word hG q8 hcw args, x_word hG q8 hini args, ⟨hMH.1, hMH.2.1⟩, fun sig h => ?_, x_word hG q8 hl args, x_word hG q8 hi args⟩ hpre rfl hn hlv.1 hst hW8 hd hcap) hC hlo hlv hc1 hs1 hmc hms kk
  · show d' + 1 + 1 ≤ d + 1
    omega
  · show 8 + (M'.2.2.1 + 11) + 64 * (d' + 1) ≤ 64 * (d + 1)
    omega
  · rw [List.mem_singleton.mp hw']
    exact x_word hG (State.WarmedH.trans q8 hU) hcw a'
  · have h2 := hMH.2.2
    rw [h] at h2
    exact (Option.some.inj h2).symm
theorem f_cL_shift (hT0 : xThr E) {x1 : Int32} {m : xMem} {q : Int32 × xMem} (hd : decode cL_law pc = .ok (.invokestatic 82, 3)) (hcat : (st.map fun v => v.category).sum ≤ 8) (hdd : 11 ≤ d) (hrc : 1 ≤ rc) (hrs : 6 ≤ rs) (h : F_L_shift x1 m = some q)
    (kk : xX E (mLaw nm) d mc ms (rc - 1) (rs - 6) Q (pc + 3) lv (.int q.1 :: st) (xf E q.2)) : xX E (mLaw nm) d mc ms rc rs Q pc lv (.ref (xB E + 125) :: .int x1 :: .ref (xB E + 0) :: st) (xf E m) :=
  x_callSW (M := mLaw nm) (n := 3) (hh := [(0, 9, 12, 13)]) (d' := d - 1) (mc' := 1) (ms' := 6) mL_shift [.ref (xB E + 0), .int x1, .ref (xB E + 125)] st hd wt_11 wt_8 wt_10 wt_13 ⟨by decide +kernel, by decide +kernel, by decide +kernel⟩ (by decide) rfl rfl hcat (by omega) hrc hrs (fun hG => c_L_shift hG hT0 (by omega) h) (fun v S' hQ => by obtain ⟨rfl, rfl⟩ := hQ; exact kk)
theorem f_cL_look (hT0 : xThr E) {x1 x2 : Int32} {m : xMem} {q : Int32 × xMem} (hd : decode cL_law pc = .ok (.invokestatic 132, 3)) (hcat : (st.map fun v => v.category).sum ≤ 8) (hdd : 11 ≤ d) (hrc : 1 ≤ rc) (hrs : 6 ≤ rs) (h : F_L_look x1 x2 m = some q)
    (kk : xX E (mLaw nm) d mc ms (rc - 1) (rs - 6) Q (pc + 3) lv (.int q.1 :: st) (xf E q.2)) : xX E (mLaw nm) d mc ms rc rs Q pc lv (.ref (xB E + 125) :: .int x2 :: .int x1 :: .ref (xB E + 0) :: st) (xf E m) :=
  x_callSW (M := mLaw nm) (n := 4) (hh := [(0, 10, 13, 13)]) (d' := d - 1) (mc' := 1) (ms' := 6) mL_look [.ref (xB E + 0), .int x1, .int x2, .ref (xB E + 125)] st hd wt_12 wt_9 wt_10 wt_14 ⟨by decide +kernel, by decide +kernel, by decide +kernel⟩ (by decide) rfl rfl hcat (by omega) hrc hrs (fun hG => c_L_look hG hT0 (by omega) h) (fun v S' hQ => by obtain ⟨rfl, rfl⟩ := hQ; exact kk)
end XLAW2
