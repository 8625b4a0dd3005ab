/-! GuideBook.shift and look where they throw; GuideBookLaw.shift and look, which catch -/
theorem wt_1 : xw (.static yX9_isWalker) := ⟨by decide +kernel, by decide +kernel⟩
theorem wt_2 : xw (.classLink RX9 164 nseN) := ⟨by decide +kernel, by decide +kernel⟩
theorem wt_3 : xw (.initialized nseN) := ⟨by decide +kernel, by decide +kernel⟩
theorem wt_4 : xw (.instanceMethod yX2_has) := ⟨by decide +kernel, by decide +kernel⟩
theorem wt_5 : xw (.selects RX2 yX2_has yX2_has) := ⟨by decide +kernel, by decide +kernel⟩
theorem wt_6 : xw (.classLink RL 13 nseN) := ⟨by decide +kernel, by decide +kernel⟩
theorem wt_7 : xw (.castable nseN nseN) := ⟨by decide +kernel, by decide +kernel⟩
theorem wt_8 : xw (.codeWith yL_shift cL_shift 4 (some .int) [(0, 9, 12, 13)]) := ⟨by decide +kernel, by decide +kernel⟩
theorem wt_9 : xw (.codeWith yL_look cL_look 5 (some .int) [(0, 10, 13, 13)]) := ⟨by decide +kernel, by decide +kernel⟩
theorem wt_10 : xw (.initialized RL) := ⟨by decide +kernel, by decide +kernel⟩
theorem wt_11 : xw (.methodLink RL 82 yL_shift) := ⟨by decide +kernel, by decide +kernel⟩
theorem wt_12 : xw (.methodLink RL 132 yL_look) := ⟨by decide +kernel, by decide +kernel⟩
theorem wt_13 : xw (.static yL_shift) := ⟨by decide +kernel, by decide +kernel⟩
theorem wt_14 : xw (.static yL_look) := ⟨by decide +kernel, by decide +kernel⟩
theorem wt_15 : xw (.instanceMethod yX9_shift) := ⟨by decide +kernel, by decide +kernel⟩
theorem wt_16 : xw (.selects RX9 yX9_shift yX9_shift) := ⟨by decide +kernel, by decide +kernel⟩
theorem wt_17 : xw (.instanceMethod yX9_look) := ⟨by decide +kernel, by decide +kernel⟩
theorem wt_18 : xw (.selects RX9 yX9_look yX9_look) := ⟨by decide +kernel, by decide +kernel⟩
theorem ct_shift : xCw RL 7 mX9_shift 1 := ⟨Or.inl ⟨by decide +kernel, by decide +kernel⟩, ⟨by decide +kernel, by decide +kernel⟩, ⟨by decide +kernel, by decide +kernel⟩, ⟨by decide +kernel, by decide +kernel, by decide +kernel⟩, by decide⟩
theorem ct_look : xCw RL 15 mX9_look 2 := ⟨Or.inl ⟨by decide +kernel, by decide +kernel⟩, ⟨by decide +kernel, by decide +kernel⟩, ⟨by decide +kernel, by decide +kernel⟩, ⟨by decide +kernel, by decide +kernel, by decide +kernel⟩, by decide⟩
theorem f_isWalker_no {x1 : Int32} (hx : x1 < 0 ∨ 4 < x1) (m : xMem) : F_X9_isWalker x1 m = some (0, m) := by
  unfold F_X9_isWalker F_X9_within
  rcases hx with h | h
  · rw [if_pos h]; rfl
  · by_cases h0 : x1 < 0
    · rw [if_pos h0]; rfl
    · rw [if_neg h0, if_pos h]; rfl
theorem f_has_no {x1 : Int32} {m : xMem} (hx : x1 < 0 ∨ m.1 ag_facts fFacts_size ≤ x1) : F_X2_has x1 m = some (0, m) := by
  unfold F_X2_has
  by_cases h0 : x1 < 0
  · rw [if_pos h0]
  · rw [if_neg h0, if_pos (hx.resolve_left h0)]
theorem f_has_yes {x1 : Int32} {m : xMem} (h0 : ¬ x1 < 0) (h1 : ¬ m.1 ag_facts fFacts_size ≤ x1) : F_X2_has x1 m = some (1, m) := by
  unfold F_X2_has
  rw [if_neg h0, if_neg h1]
theorem x_ctx {E : xE} {M : xM} {d mc ms : Nat} {m : xMem} {ws : List Cond} {p : Program} {e : Env} {s s₁ : State} {m₀ : MethodId} {args : Array Value} {below : List Frame} {meth : Method} {c : Code} (B : BodyLoose p E.1 M.1 (headSpec ws (xR d mc ms)) M.2.1 M.2.2.1 M.2.2.2 e s m₀ args below meth c s₁) (hml : c.maxLocals = M.2.2.1) (hW : E.2.1.WarmedH s.vm) (hH : xH E (xf E m) s.heap) : xCx E M p s m₀ meth c :=
  ⟨B.exec, B.bytes, hml, findClass_of_methodNamed B.named, B.returns, B.notSynchronized, (name_of_methodNamed B.named B.method).1, hW, Nat.le_trans (Nat.le_add_right _ _) hH.1, hH.2.2.2⟩
set_option maxHeartbeats 4000000 in
theorem t_shift {E : xE} {d : Nat} (hdd : 8 ≤ d) {x1 : Int32} (hx : x1 < 0 ∨ 4 < x1) (m : xMem) : xT E mX9_shift d [.ref (xB E + 0), .int x1] m := by
  intro hG hT0
  refine vx_ofW (cc := cX9_shift) (maxL := 2) (ret := some .int) (by decide +kernel) rfl ?_
  intro p e s m₀ args below meth c s₁ B hml htab hv
  obtain ⟨rfl, hW, hH⟩ := hv
  have hlv := lv_entry [.ref (xB E + 0), .int x1] (n := 2) (Nat.le_of_ble_eq_true rfl)
  rw [lg_entry_eq]
  have hC : xCx E mX9_shift p s m₀ meth c := x_ctx B hml hW hH
  refine lv_iload_n hC.1 hC.2.1 dX9_shift_0 rfl (x_at hlv rfl) ?_
  refine y_callS (M := mX9_shift) (d := d) (mc := 1) (ms := 6) (d' := d - 1) (mc' := 0) (ms' := 0) mX9_isWalker [.int x1] [] hG hC hH (fun _ h => by cases h) hlv.1 ⟨by decide, by decide⟩ dX9_shift_1 cs_RX9_157 wt_1 rfl rfl (by decide) (by omega) (c_X9_isWalker (d := d - 1) (by omega) x1 m (0, m) (f_isWalker_no hx m)) (fun v S' H' locs' hQ hH' hs' hlo' => ?_)
  obtain ⟨rfl, rfl⟩ := hQ
  refine lv_if_ne (tgt := 17) hC.1 hC.2.1 dX9_shift_4 (by decide) (fun h => absurd rfl h) (fun _ => ?_)
  exact y_throw (k := 9) (is := 166) hG hT0 hC rfl hH' hs' hlo' hlv.1 (by decide) rfl rfl dX9_shift_7 dX9_shift_10 dX9_shift_11 dX9_shift_13 dX9_shift_16 wt_2 wt_3 htab (by omega) (by decide) rfl rfl
set_option maxHeartbeats 4000000 in
theorem t_look {E : xE} {d : Nat} (hdd : 8 ≤ d) {x1 x2 : Int32} {m : xMem} (hx : x1 < 0 ∨ m.1 ag_facts fFacts_size ≤ x1 ∨ x2 < 0 ∨ 5 < x2) : xT E mX9_look d [.ref (xB E + 0), .int x1, .int x2] m := by
  intro hG hT0
  refine vx_ofW (cc := cX9_look) (maxL := 3) (ret := some .int) (by decide +kernel) rfl ?_
  intro p e s m₀ args below meth c s₁ B hml htab hv
  obtain ⟨rfl, hW, hH⟩ := hv
  have hlv := lv_entry [.ref (xB E + 0), .int x1, .int x2] (n := 3) (Nat.le_of_ble_eq_true rfl)
  rw [lg_entry_eq]
  have hC : xCx E mX9_look p s m₀ meth c := x_ctx B hml hW hH
  generalize (lg_sl [Value.ref (xB E + 0), Value.int x1, Value.int x2] ++ List.replicate (3 - (lg_sl [Value.ref (xB E + 0), Value.int x1, Value.int x2]).length) Slot.unset).toArray = ls at hlv ⊢
  have hts : ∀ w ∈ u_ws RX9 TX9 11, w.before #[Value.ref (xB E + 0), Value.int x1, Value.int x2] s = true := fun w hw => x_word hG hC.2.2.2.2.2.2.2.1 (xcl_9.2.1 w hw) #[Value.ref (xB E + 0), Value.int x1, Value.int x2]
  have hc0 : (xf E m).2.2 0 = .inr (9, xmkF E m.1 0 0 [2, 11, 18, 30, 32, 42, 47, 82, 85, 86, 87]) := by show xcell E m 0 (xsh 0) = _; rw [sh_0]; rfl
  have hc1 : (xf E m).2.2 1 = .inr (2, xmkF E m.1 1 0 [3, 4, 5, 6, 7, 8, 9, 10, 0, 0]) := by show xcell E m 1 (xsh 1) = _; rw [sh_1]; rfl
  have hlk : xw (.fieldLink RX9 12 (TX9 0).1 (TX9 0).2.1 (TX9 0).2.2.1) := ⟨by decide +kernel, by decide +kernel⟩
  refine lv_aload_n hC.1 hC.2.1 dX9_look_0 rfl (x_at hlv rfl) ?_
  refine va_get (own := RX9) (C := RX9) (T := TX9) (N := 11) (ci := 9) (v := .ref (xB E + 1)) hC.1 hC.2.1 hts (fun _ h => h) hC.2.2.2.1 (x_K hG hW) (x_one (x_cell (a := 0) hH (show 0 < xnn by decide) hc0)) 0 rfl xcl_9.1 0 (by decide) (x_word hG hW hlk _) (fun _ h => h) rfl dX9_look_1 ?_
  refine lv_iload_n hC.1 hC.2.1 dX9_look_4 rfl (x_at hlv rfl) ?_
  have hcase : ∀ v : Int32, (v = 0 ∨ (v = 1 ∧ (x2 < 0 ∨ 5 < x2))) → F_X2_has x1 m = some (v, m) → W p E.1 e (headSpec [Cond.code mX9_look.1 mX9_look.2.1 mX9_look.2.2.1 mX9_look.2.2.2] (xR d 1 6)).room s m₀ #[Value.ref (xB E + 0), Value.int x1, Value.int x2] below meth c s.heap [] 0 0 (vx_MQ below (fun _ _ _ _ => False) (xXC E m) #[Value.ref (xB E + 0), Value.int x1, Value.int x2] s 1 6 (fun q => xB E ≤ q)) (F0 m₀ (0 + 1 + 3 + 1) ls [.int x1, .ref (xB E + 1)]) := by
    intro v hv hF
    refine y_callV (M := mX9_look) (d := d) (mc := 1) (ms := 6) (d' := d - 1) (mc' := 0) (ms' := 0) mX2_has [.int x1] [] hG hC hH (fun _ h => by cases h) hlv.1 ⟨by decide, by decide⟩ dX9_look_5 cs_RX9_107 wt_4 wt_5 xcl_2.1 (show 1 < xnn by decide) hc1 rfl rfl (by decide) (by omega) (c_X2_has (d := d - 1) (by omega) x1 m (v, m) hF) (fun r S' H' locs' hQ hH' hs' hlo' => ?_)
    obtain ⟨rfl, rfl⟩ := hQ
    rcases hv with rfl | ⟨rfl, h2⟩
    · refine lv_if_ne (tgt := 21) hC.1 hC.2.1 dX9_look_8 (by decide) (fun h => absurd rfl h) (fun _ => ?_)
      exact y_throw (k := 10) (is := 235) hG hT0 hC rfl hH' hs' hlo' hlv.1 (by decide) rfl rfl dX9_look_11 dX9_look_14 dX9_look_15 dX9_look_17 dX9_look_20 wt_2 wt_3 htab (by omega) (by decide) rfl rfl
    · refine lv_if_ne (tgt := 21) hC.1 hC.2.1 dX9_look_8 (by decide) (fun _ => ?_) (fun h => absurd (show (1 : Int32) = 0 from h) (by decide))
      refine lv_iload_n hC.1 hC.2.1 dX9_look_21 rfl (x_at hlv rfl) ?_
      refine lv_tableOut (tgt := 120) hC.1 hC.2.1 dX9_look_22 ?_ (by decide) ?_
      · rcases h2 with h2 | h2
        · exact Or.inl (by simpa using Int32.lt_iff_toInt_lt.mp h2)
        · exact Or.inr (by simpa using Int32.lt_iff_toInt_lt.mp h2)
      exact y_throw (k := 11) (is := 243) hG hT0 hC rfl hH' hs' hlo' hlv.1 (by decide) rfl rfl dX9_look_120 dX9_look_123 dX9_look_124 dX9_look_126 dX9_look_129 wt_2 wt_3 htab (by omega) (by decide) rfl rfl
  by_cases h0 : x1 < 0
  · exact hcase 0 (Or.inl rfl) (f_has_no (Or.inl h0))
  · by_cases h1 : m.1 ag_facts fFacts_size ≤ x1
    · exact hcase 0 (Or.inl rfl) (f_has_no (Or.inr h1))
    · exact hcase 1 (Or.inr ⟨rfl, (hx.resolve_left h0).resolve_left h1⟩) (f_has_yes h0 h1)
