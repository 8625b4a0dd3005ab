-- J0_coder_7d493_i4
def F_J0_coder_7d493_i4 (m : xMem) : Option (Int32 × xMem) :=
  if (1 : Int32) = 0 then (
    some ((1 : Int32), m))
  else (
    some ((0 : Int32), m))
set_option maxHeartbeats 4000000 in
set_option maxRecDepth 100000 in
theorem pF_J0_coder_7d493_i4 {E : xE} {d : Nat} {Q : Option Value → xS → Prop} (hd : 1 ≤ d) (out : Int32 × xMem) (hR : Q (some (.int out.1)) (xf E out.2)) (m : xMem) (hf : F_J0_coder_7d493_i4 m = some out) : xX E mJ0_coder_7d493 d 0 0 0 0 Q 0 [(0, .ref (xsa E 4))] [] (xf E m) := by
  unfold F_J0_coder_7d493_i4 at hf
  refine x_getsC dJ0_coder_7d493_0 w_633 ?_
  refine x_if_eq 13 dJ0_coder_7d493_3 (by decide) (fun hc => ?_) (fun hc => ?_)
  · replace hf := x_ift hc hf
    refine x_iconst (v := 1) dJ0_coder_7d493_13 (by decide) ?_
    exact x_zret dJ0_coder_7d493_14 rfl (by decide) (by cases hf; exact hR)
  · replace hf := x_iff hc hf
    refine x_aload_n dJ0_coder_7d493_6 rfl ?_
    refine x_scod dJ0_coder_7d493_7 (by decide) w_1345 ?_
    refine x_goto 14 dJ0_coder_7d493_10 (by decide) ?_
    exact x_zret dJ0_coder_7d493_14 rfl (by decide) (by cases hf; exact hR)
theorem c_J0_coder_7d493_i4 {E : xE} {d : Nat} (hd : 1 ≤ d) (m : xMem) (out : Int32 × xMem) (h : F_J0_coder_7d493_i4 m = some out) : xCi E mJ0_coder_7d493 d [.ref (xsa E 4)] m out.1 out.2 :=
  x_enterF (by decide +kernel) (Nat.le_of_ble_eq_true rfl) (pF_J0_coder_7d493_i4 hd (Q := _) out ⟨rfl, rfl⟩ m h)
-- J0_length_8abf5_i4
def F_J0_length_8abf5_i4 (m : xMem) : Option (Int32 × xMem) :=
  (F_J0_coder_7d493_i4 m).bind fun q_1 => (
  some ((4 : Int32) >>> (q_1.1 &&& 31), q_1.2))
set_option maxHeartbeats 4000000 in
set_option maxRecDepth 100000 in
theorem pF_J0_length_8abf5_i4 {E : xE} {d : Nat} {Q : Option Value → xS → Prop} (hd : 2 ≤ d) (out : Int32 × xMem) (hR : Q (some (.int out.1)) (xf E out.2)) (m : xMem) (hf : F_J0_length_8abf5_i4 m = some out) : xX E mJ0_length_8abf5 d 0 0 0 0 Q 0 [(0, .ref (xsa E 4))] [] (xf E m) := by
  unfold F_J0_length_8abf5_i4 at hf
  refine x_aload_n dJ0_length_8abf5_0 rfl ?_
  refine x_sval dJ0_length_8abf5_1 (by decide) w_1344 ?_
  refine x_svlen (v := 4) dJ0_length_8abf5_4 (by decide) (by decide) ?_
  refine x_aload_n dJ0_length_8abf5_5 rfl ?_
  obtain ⟨q_1, hq_1, hf⟩ := Option.bind_eq_some_iff.mp hf
  refine x_callVs (k := 4) mJ0_coder_7d493 [] [.int ((4 : Int32))] dJ0_length_8abf5_6 cs_RJ0_335 ⟨w_630, w_631⟩ (by decide) rfl rfl (Nat.le_of_ble_eq_true rfl) (by omega) (c_J0_coder_7d493_i4 (d := d - 1) (by omega) m q_1 hq_1) ?_
  refine x_ishr dJ0_length_8abf5_9 ?_
  exact x_iret dJ0_length_8abf5_10 rfl (by cases hf; exact hR)
theorem c_J0_length_8abf5_i4 {E : xE} {d : Nat} (hd : 2 ≤ d) (m : xMem) (out : Int32 × xMem) (h : F_J0_length_8abf5_i4 m = some out) : xCi E mJ0_length_8abf5 d [.ref (xsa E 4)] m out.1 out.2 :=
  x_enterF (by decide +kernel) (Nat.le_of_ble_eq_true rfl) (pF_J0_length_8abf5_i4 hd (Q := _) out ⟨rfl, rfl⟩ m h)
-- J0_isLatin1_aae02_i4
def F_J0_isLatin1_aae02_i4 (m : xMem) : Option (Int32 × xMem) :=
  if (1 : Int32) = 0 then (
    some ((0 : Int32), m))
  else (
    if (0 : Int32) = 0 then (
      some ((1 : Int32), m))
    else (
      some ((0 : Int32), m)))
set_option maxHeartbeats 4000000 in
set_option maxRecDepth 100000 in
theorem pF_J0_isLatin1_aae02_i4 {E : xE} {d : Nat} {Q : Option Value → xS → Prop} (hd : 1 ≤ d) (out : Int32 × xMem) (hR : Q (some (.int out.1)) (xf E out.2)) (m : xMem) (hf : F_J0_isLatin1_aae02_i4 m = some out) : xX E mJ0_isLatin1_aae02 d 0 0 0 0 Q 0 [(0, .ref (xsa E 4))] [] (xf E m) := by
  unfold F_J0_isLatin1_aae02_i4 at hf
  refine x_getsC dJ0_isLatin1_aae02_0 w_633 ?_
  refine x_if_eq 17 dJ0_isLatin1_aae02_3 (by decide) (fun hc => ?_) (fun hc => ?_)
  · replace hf := x_ift hc hf
    refine x_iconst (v := 0) dJ0_isLatin1_aae02_17 (by decide) ?_
    exact x_zret dJ0_isLatin1_aae02_18 rfl (by decide) (by cases hf; exact hR)
  · replace hf := x_iff hc hf
    refine x_aload_n dJ0_isLatin1_aae02_6 rfl ?_
    refine x_scod dJ0_isLatin1_aae02_7 (by decide) w_1345 ?_
    refine x_if_ne 17 dJ0_isLatin1_aae02_10 (by decide) (fun hc => ?_) (fun hc => ?_)
    · replace hf := x_iff hc hf
      refine x_iconst (v := 0) dJ0_isLatin1_aae02_17 (by decide) ?_
      exact x_zret dJ0_isLatin1_aae02_18 rfl (by decide) (by cases hf; exact hR)
    · replace hf := x_ift hc hf
      refine x_iconst (v := 1) dJ0_isLatin1_aae02_13 (by decide) ?_
      refine x_goto 18 dJ0_isLatin1_aae02_14 (by decide) ?_
      exact x_zret dJ0_isLatin1_aae02_18 rfl (by decide) (by cases hf; exact hR)
theorem c_J0_isLatin1_aae02_i4 {E : xE} {d : Nat} (hd : 1 ≤ d) (m : xMem) (out : Int32 × xMem) (h : F_J0_isLatin1_aae02_i4 m = some out) : xCi E mJ0_isLatin1_aae02 d [.ref (xsa E 4)] m out.1 out.2 :=
  x_enterF (by decide +kernel) (Nat.le_of_ble_eq_true rfl) (pF_J0_isLatin1_aae02_i4 hd (Q := _) out ⟨rfl, rfl⟩ m h)
-- J1_charAt_3b067_i4
def F_J1_charAt_3b067_i4 (x1 : Int32) (m : xMem) : Option (Int32 × xMem) :=
  (F_J0_checkIndex_df160 (x1) ((4 : Int32)) m).bind fun q_1 => (
  if xin x1 4 = true then (
  if xnc .char ((((xsb 4 x1.toNatClampNeg) &&& (255 : Int32)).toUInt32 % 65536).toInt32) = true then (
  some ((((xsb 4 x1.toNatClampNeg) &&& (255 : Int32)).toUInt32 % 65536).toInt32, q_1.2))
  else none)
  else none)
set_option maxHeartbeats 4000000 in
set_option maxRecDepth 100000 in
theorem pF_J1_charAt_3b067_i4 {E : xE} {d : Nat} {Q : Option Value → xS → Prop} (hd : 4 ≤ d) (out : Int32 × xMem) (hR : Q (some (.int out.1)) (xf E out.2)) (x1 : Int32) (m : xMem) (hf : F_J1_charAt_3b067_i4 x1 m = some out) : xX E mJ1_charAt_3b067 d 0 0 0 0 Q 0 [(0, .ref (xsv E 4)), (1, .int (x1))] [] (xf E m) := by
  unfold F_J1_charAt_3b067_i4 at hf
  refine x_iload_n dJ1_charAt_3b067_0 rfl ?_
  refine x_aload_n dJ1_charAt_3b067_1 rfl ?_
  refine x_svlen (v := 4) dJ1_charAt_3b067_2 (by decide) (by decide) ?_
  obtain ⟨q_1, hq_1, hf⟩ := Option.bind_eq_some_iff.mp hf
  refine f_cSv mJ0_checkIndex_df160 [.int (x1), .int ((4 : Int32))] [] dJ1_charAt_3b067_3 cs_RJ1_9 w_647 rfl rfl (Nat.le_of_ble_eq_true rfl) (by omega) (c_J0_checkIndex_df160 (d := d - 1) (by omega) (x1) ((4 : Int32)) m q_1 hq_1) ?_
  refine x_aload_n dJ1_charAt_3b067_6 rfl ?_
  refine x_iload_n dJ1_charAt_3b067_7 rfl ?_
  have hg_2 := x_gd hf
  replace hf := hg_2.2
  refine x_svald dJ1_charAt_3b067_8 (by decide) rfl hg_2.1 ?_
  refine x_sipush (v := 255) dJ1_charAt_3b067_9 (by decide) ?_
  refine x_iand dJ1_charAt_3b067_12 ?_
  refine x_i2c dJ1_charAt_3b067_13 ?_
  have hg_3 := x_gd hf
  replace hf := hg_3.2
  exact x_zret dJ1_charAt_3b067_14 rfl (xnc_n hg_3.1) (by cases hf; exact hR)
theorem c_J1_charAt_3b067_i4 {E : xE} {d : Nat} (hd : 4 ≤ d) (x1 : Int32) (m : xMem) (out : Int32 × xMem) (h : F_J1_charAt_3b067_i4 x1 m = some out) : xCi E mJ1_charAt_3b067 d [.ref (xsv E 4), .int x1] m out.1 out.2 :=
  x_enterF (by decide +kernel) (Nat.le_of_ble_eq_true rfl) (pF_J1_charAt_3b067_i4 hd (Q := _) out ⟨rfl, rfl⟩ x1 m h)
-- J0_charAt_5068e_i4
def F_J0_charAt_5068e_i4 (x1 : Int32) (m : xMem) : Option (Int32 × xMem) :=
  (F_J0_isLatin1_aae02_i4 m).bind fun q_1 => (
  if q_1.1 = 0 then (
    none)
  else (
    (F_J1_charAt_3b067_i4 (x1) q_1.2).bind fun q_2 => (
    if xnc .char q_2.1 = true then (
    some (q_2.1, q_2.2))
    else none)))
set_option maxHeartbeats 4000000 in
set_option maxRecDepth 100000 in
theorem pF_J0_charAt_5068e_i4 {E : xE} {d : Nat} {Q : Option Value → xS → Prop} (hd : 5 ≤ d) (out : Int32 × xMem) (hR : Q (some (.int out.1)) (xf E out.2)) (x1 : Int32) (m : xMem) (hf : F_J0_charAt_5068e_i4 x1 m = some out) : xX E mJ0_charAt_5068e d 0 0 0 0 Q 0 [(0, .ref (xsa E 4)), (1, .int (x1))] [] (xf E m) := by
  unfold F_J0_charAt_5068e_i4 at hf
  refine x_aload_n dJ0_charAt_5068e_0 rfl ?_
  obtain ⟨q_1, hq_1, hf⟩ := Option.bind_eq_some_iff.mp hf
  refine x_callVs (k := 4) mJ0_isLatin1_aae02 [] [] dJ0_charAt_5068e_1 cs_RJ0_492 ⟨w_640, w_641⟩ (by decide) rfl rfl (Nat.le_of_ble_eq_true rfl) (by omega) (c_J0_isLatin1_aae02_i4 (d := d - 1) (by omega) m q_1 hq_1) ?_
  refine x_if_eq 16 dJ0_charAt_5068e_4 (by decide) (fun hc => ?_) (fun hc => ?_)
  · replace hf := x_ift hc hf
    cases hf
  · replace hf := x_iff hc hf
    refine x_aload_n dJ0_charAt_5068e_7 rfl ?_
    refine x_sval dJ0_charAt_5068e_8 (by decide) w_1344 ?_
    refine x_iload_n dJ0_charAt_5068e_11 rfl ?_
    obtain ⟨q_2, hq_2, hf⟩ := Option.bind_eq_some_iff.mp hf
    refine f_cSi mJ1_charAt_3b067 [.ref (xsv E 4), .int (x1)] [] dJ0_charAt_5068e_12 cs_RJ0_495 w_644 rfl rfl (Nat.le_of_ble_eq_true rfl) (by omega) (c_J1_charAt_3b067_i4 (d := d - 1) (by omega) (x1) q_1.2 q_2 hq_2) ?_
    have hg_3 := x_gd hf
    replace hf := hg_3.2
    exact x_zret dJ0_charAt_5068e_15 rfl (xnc_n hg_3.1) (by cases hf; exact hR)
theorem c_J0_charAt_5068e_i4 {E : xE} {d : Nat} (hd : 5 ≤ d) (x1 : Int32) (m : xMem) (out : Int32 × xMem) (h : F_J0_charAt_5068e_i4 x1 m = some out) : xCi E mJ0_charAt_5068e d [.ref (xsa E 4), .int x1] m out.1 out.2 :=
  x_enterF (by decide +kernel) (Nat.le_of_ble_eq_true rfl) (pF_J0_charAt_5068e_i4 hd (Q := _) out ⟨rfl, rfl⟩ x1 m h)
-- X7_spells_i4
def L_X7_spells_i4_27 (x1 : Int32) : Nat → Int32 → xMem → Option (Int32 × xMem)
  | 0, _, _ => none
  | fk + 1, x4, m =>
    (F_J0_length_8abf5_i4 m).bind fun q_2 => (
    if q_2.1 ≤ x4 then (
      some ((1 : Int32), q_2.2))
    else (
      if xin (x1 + x4) 600 = true then (
      (F_J0_charAt_5068e_i4 (x4) q_2.2).bind fun q_4 => (
      if (q_2.2.1 ag_tape_signs (x1 + x4).toNatClampNeg) = q_4.1 then (
        L_X7_spells_i4_27 (x1) fk (x4 + 1) q_4.2)
      else (
        some ((0 : Int32), q_4.2))))
      else none))
def F_X7_spells_i4 (x1 : Int32) (x2 : Int32) (m : xMem) : Option (Int32 × xMem) :=
  if x1 < 0 then (
    some ((0 : Int32), m))
  else (
    if (m.1 ag_tape fTape_length) < x2 then (
      some ((0 : Int32), m))
    else (
      (F_J0_length_8abf5_i4 m).bind fun q_1 => (
      if (x2 - x1) = q_1.1 then (
        L_X7_spells_i4_27 (x1) xfuel ((0 : Int32)) q_1.2)
      else (
        some ((0 : Int32), q_1.2)))))
set_option maxHeartbeats 4000000 in
set_option maxRecDepth 100000 in
theorem pL_X7_spells_i4_27 {E : xE} {d : Nat} {Q : Option Value → xS → Prop} (hd : 6 ≤ d) (out : Int32 × xMem) (hR : Q (some (.int out.1)) (xf E out.2)) (x1 : Int32) : ∀ (fk : Nat) (x4 : Int32) (m : xMem), L_X7_spells_i4_27 x1 fk x4 m = some out → xX E mX7_spells d 0 0 0 0 Q 27 [(0, .ref (xB E + 29)), (1, .int (x1)), (3, .ref (xsa E 4)), (4, .int (x4))] [] (xf E m) := by
  intro fk
  induction fk with
  | zero => intro x4 m hf; cases hf
  | succ fk ih =>
    intro x4 m hf
    rw [L_X7_spells_i4_27] at hf
    refine x_iload dX7_spells_27 rfl ?_
    refine x_aload_n dX7_spells_29 rfl ?_
    obtain ⟨q_2, hq_2, hf⟩ := Option.bind_eq_some_iff.mp hf
    refine x_callVs (k := 4) mJ0_length_8abf5 [] [.int (x4)] dX7_spells_30 cs_RX7_36 ⟨w_626, w_627⟩ (by decide) rfl rfl (Nat.le_of_ble_eq_true rfl) (by omega) (c_J0_length_8abf5_i4 (d := d - 1) (by omega) m q_2 hq_2) ?_
    refine x_icmp_ge 62 dX7_spells_33 (by decide) (fun hc => ?_) (fun hc => ?_)
    · replace hf := x_ift hc hf
      refine x_iconst (v := 1) dX7_spells_62 (by decide) ?_
      exact x_zret dX7_spells_63 rfl (by decide) (by cases hf; exact hR)
    · replace hf := x_iff hc hf
      refine x_aload_n dX7_spells_36 rfl ?_
      refine f_getR (b := 30) dX7_spells_37 xcl_7 (by decide) fl_RX7_9 (by decide) sh_29 rfl ?_
      refine x_iload_n dX7_spells_40 rfl ?_
      refine x_iload dX7_spells_41 rfl ?_
      refine x_iadd dX7_spells_43 ?_
      have hg_3 := x_gd hf
      replace hf := hg_3.2
      refine f_bald dX7_spells_44 (by decide) sh_30 hg_3.1 ?_
      refine x_aload_n dX7_spells_45 rfl ?_
      refine x_iload dX7_spells_46 rfl ?_
      obtain ⟨q_4, hq_4, hf⟩ := Option.bind_eq_some_iff.mp hf
      refine x_callVs (k := 4) mJ0_charAt_5068e [.int (x4)] [.int (q_2.2.1 ag_tape_signs (x1 + x4).toNatClampNeg)] dX7_spells_48 cs_RX7_41 ⟨w_636, w_637⟩ (by decide) rfl rfl (Nat.le_of_ble_eq_true rfl) (by omega) (c_J0_charAt_5068e_i4 (d := d - 1) (by omega) (x4) q_2.2 q_4 hq_4) ?_
      refine x_icmp_eq 56 dX7_spells_51 (by decide) (fun hc => ?_) (fun hc => ?_)
      · replace hf := x_ift hc hf
        refine x_iinc (v := x4 + 1) (lv' := [(0, .ref (xB E + 29)), (1, .int (x1)), (3, .ref (xsa E 4)), (4, .int (x4 + 1))]) dX7_spells_56 3 [1, 2, 3, 0] rfl rfl (by decide) rfl ?_
        refine x_goto 27 dX7_spells_59 (by decide) ?_
        exact ih _ _ hf
      · replace hf := x_iff hc hf
        refine x_iconst (v := 0) dX7_spells_54 (by decide) ?_
        exact x_zret dX7_spells_55 rfl (by decide) (by cases hf; exact hR)
set_option maxHeartbeats 4000000 in
set_option maxRecDepth 100000 in
theorem pF_X7_spells_i4 {E : xE} {d : Nat} {Q : Option Value → xS → Prop} (hd : 6 ≤ d) (out : Int32 × xMem) (hR : Q (some (.int out.1)) (xf E out.2)) (x1 : Int32) (x2 : Int32) (m : xMem) (hf : F_X7_spells_i4 x1 x2 m = some out) : xX E mX7_spells d 0 0 0 0 Q 0 [(0, .ref (xB E + 29)), (1, .int (x1)), (2, .int (x2)), (3, .ref (xsa E 4))] [] (xf E m) := by
  unfold F_X7_spells_i4 at hf
  refine x_iload_n dX7_spells_0 rfl ?_
  refine x_if_lt 22 dX7_spells_1 (by decide) (fun hc => ?_) (fun hc => ?_)
  · replace hf := x_ift hc hf
    refine x_iconst (v := 0) dX7_spells_22 (by decide) ?_
    exact x_zret dX7_spells_23 rfl (by decide) (by cases hf; exact hR)
  · replace hf := x_iff hc hf
    refine x_iload_n dX7_spells_4 rfl ?_
    refine x_aload_n dX7_spells_5 rfl ?_
    refine f_getI dX7_spells_6 xcl_7 (by decide) fl_RX7_21 (by decide) sh_29 rfl ?_
    refine x_icmp_gt 22 dX7_spells_9 (by decide) (fun hc => ?_) (fun hc => ?_)
    · replace hf := x_ift hc hf
      refine x_iconst (v := 0) dX7_spells_22 (by decide) ?_
      exact x_zret dX7_spells_23 rfl (by decide) (by cases hf; exact hR)
    · replace hf := x_iff hc hf
      refine x_iload_n dX7_spells_12 rfl ?_
      refine x_iload_n dX7_spells_13 rfl ?_
      refine x_isub dX7_spells_14 ?_
      refine x_aload_n dX7_spells_15 rfl ?_
      obtain ⟨q_1, hq_1, hf⟩ := Option.bind_eq_some_iff.mp hf
      refine x_callVs (k := 4) mJ0_length_8abf5 [] [.int (x2 - x1)] dX7_spells_16 cs_RX7_36 ⟨w_626, w_627⟩ (by decide) rfl rfl (Nat.le_of_ble_eq_true rfl) (by omega) (c_J0_length_8abf5_i4 (d := d - 1) (by omega) m q_1 hq_1) ?_
      refine x_icmp_eq 24 dX7_spells_19 (by decide) (fun hc => ?_) (fun hc => ?_)
      · replace hf := x_ift hc hf
        refine x_iconst (v := 0) dX7_spells_24 (by decide) ?_
        refine x_istore (lv' := [(0, .ref (xB E + 29)), (1, .int (x1)), (3, .ref (xsa E 4)), (4, .int ((0 : Int32)))]) dX7_spells_25 [1, 2, 4, 0] (by decide) rfl ?_
        refine pL_X7_spells_i4_27 hd out hR _ xfuel _ _ hf
      · replace hf := x_iff hc hf
        refine x_iconst (v := 0) dX7_spells_22 (by decide) ?_
        exact x_zret dX7_spells_23 rfl (by decide) (by cases hf; exact hR)
theorem c_X7_spells_i4 {E : xE} {d : Nat} (hd : 6 ≤ d) (x1 : Int32) (x2 : Int32) (m : xMem) (out : Int32 × xMem) (h : F_X7_spells_i4 x1 x2 m = some out) : xCi E mX7_spells d [.ref (xB E + 29), .int x1, .int x2, .ref (xsa E 4)] m out.1 out.2 :=
  x_enter (by decide +kernel) (Nat.le_of_ble_eq_true rfl) (pF_X7_spells_i4 hd (Q := _) out ⟨rfl, rfl⟩ x1 x2 m h)
-- J0_coder_7d493_i5
def F_J0_coder_7d493_i5 (m : xMem) : Option (Int32 × xMem) :=
  if (1 : Int32) = 0 then (
    some ((1 : Int32), m))
  else (
    some ((0 : Int32), m))
set_option maxHeartbeats 4000000 in
set_option maxRecDepth 100000 in
theorem pF_J0_coder_7d493_i5 {E : xE} {d : Nat} {Q : Option Value → xS → Prop} (hd : 1 ≤ d) (out : Int32 × xMem) (hR : Q (some (.int out.1)) (xf E out.2)) (m : xMem) (hf : F_J0_coder_7d493_i5 m = some out) : xX E mJ0_coder_7d493 d 0 0 0 0 Q 0 [(0, .ref (xsa E 5))] [] (xf E m) := by
  unfold F_J0_coder_7d493_i5 at hf
  refine x_getsC dJ0_coder_7d493_0 w_633 ?_
  refine x_if_eq 13 dJ0_coder_7d493_3 (by decide) (fun hc => ?_) (fun hc => ?_)
  · replace hf := x_ift hc hf
    refine x_iconst (v := 1) dJ0_coder_7d493_13 (by decide) ?_
    exact x_zret dJ0_coder_7d493_14 rfl (by decide) (by cases hf; exact hR)
  · replace hf := x_iff hc hf
    refine x_aload_n dJ0_coder_7d493_6 rfl ?_
    refine x_scod dJ0_coder_7d493_7 (by decide) w_1345 ?_
    refine x_goto 14 dJ0_coder_7d493_10 (by decide) ?_
    exact x_zret dJ0_coder_7d493_14 rfl (by decide) (by cases hf; exact hR)
theorem c_J0_coder_7d493_i5 {E : xE} {d : Nat} (hd : 1 ≤ d) (m : xMem) (out : Int32 × xMem) (h : F_J0_coder_7d493_i5 m = some out) : xCi E mJ0_coder_7d493 d [.ref (xsa E 5)] m out.1 out.2 :=
  x_enterF (by decide +kernel) (Nat.le_of_ble_eq_true rfl) (pF_J0_coder_7d493_i5 hd (Q := _) out ⟨rfl, rfl⟩ m h)
-- J0_length_8abf5_i5
def F_J0_length_8abf5_i5 (m : xMem) : Option (Int32 × xMem) :=
  (F_J0_coder_7d493_i5 m).bind fun q_1 => (
  some ((5 : Int32) >>> (q_1.1 &&& 31), q_1.2))
set_option maxHeartbeats 4000000 in
set_option maxRecDepth 100000 in
theorem pF_J0_length_8abf5_i5 {E : xE} {d : Nat} {Q : Option Value → xS → Prop} (hd : 2 ≤ d) (out : Int32 × xMem) (hR : Q (some (.int out.1)) (xf E out.2)) (m : xMem) (hf : F_J0_length_8abf5_i5 m = some out) : xX E mJ0_length_8abf5 d 0 0 0 0 Q 0 [(0, .ref (xsa E 5))] [] (xf E m) := by
  unfold F_J0_length_8abf5_i5 at hf
  refine x_aload_n dJ0_length_8abf5_0 rfl ?_
  refine x_sval dJ0_length_8abf5_1 (by decide) w_1344 ?_
  refine x_svlen (v := 5) dJ0_length_8abf5_4 (by decide) (by decide) ?_
  refine x_aload_n dJ0_length_8abf5_5 rfl ?_
  obtain ⟨q_1, hq_1, hf⟩ := Option.bind_eq_some_iff.mp hf
  refine x_callVs (k := 5) mJ0_coder_7d493 [] [.int ((5 : Int32))] dJ0_length_8abf5_6 cs_RJ0_335 ⟨w_630, w_631⟩ (by decide) rfl rfl (Nat.le_of_ble_eq_true rfl) (by omega) (c_J0_coder_7d493_i5 (d := d - 1) (by omega) m q_1 hq_1) ?_
  refine x_ishr dJ0_length_8abf5_9 ?_
  exact x_iret dJ0_length_8abf5_10 rfl (by cases hf; exact hR)
theorem c_J0_length_8abf5_i5 {E : xE} {d : Nat} (hd : 2 ≤ d) (m : xMem) (out : Int32 × xMem) (h : F_J0_length_8abf5_i5 m = some out) : xCi E mJ0_length_8abf5 d [.ref (xsa E 5)] m out.1 out.2 :=
  x_enterF (by decide +kernel) (Nat.le_of_ble_eq_true rfl) (pF_J0_length_8abf5_i5 hd (Q := _) out ⟨rfl, rfl⟩ m h)
-- J0_isLatin1_aae02_i5
def F_J0_isLatin1_aae02_i5 (m : xMem) : Option (Int32 × xMem) :=
  if (1 : Int32) = 0 then (
    some ((0 : Int32), m))
  else (
    if (0 : Int32) = 0 then (
      some ((1 : Int32), m))
    else (
      some ((0 : Int32), m)))
set_option maxHeartbeats 4000000 in
set_option maxRecDepth 100000 in
theorem pF_J0_isLatin1_aae02_i5 {E : xE} {d : Nat} {Q : Option Value → xS → Prop} (hd : 1 ≤ d) (out : Int32 × xMem) (hR : Q (some (.int out.1)) (xf E out.2)) (m : xMem) (hf : F_J0_isLatin1_aae02_i5 m = some out) : xX E mJ0_isLatin1_aae02 d 0 0 0 0 Q 0 [(0, .ref (xsa E 5))] [] (xf E m) := by
  unfold F_J0_isLatin1_aae02_i5 at hf
  refine x_getsC dJ0_isLatin1_aae02_0 w_633 ?_
  refine x_if_eq 17 dJ0_isLatin1_aae02_3 (by decide) (fun hc => ?_) (fun hc => ?_)
  · replace hf := x_ift hc hf
    refine x_iconst (v := 0) dJ0_isLatin1_aae02_17 (by decide) ?_
    exact x_zret dJ0_isLatin1_aae02_18 rfl (by decide) (by cases hf; exact hR)
  · replace hf := x_iff hc hf
    refine x_aload_n dJ0_isLatin1_aae02_6 rfl ?_
    refine x_scod dJ0_isLatin1_aae02_7 (by decide) w_1345 ?_
    refine x_if_ne 17 dJ0_isLatin1_aae02_10 (by decide) (fun hc => ?_) (fun hc => ?_)
    · replace hf := x_iff hc hf
      refine x_iconst (v := 0) dJ0_isLatin1_aae02_17 (by decide) ?_
      exact x_zret dJ0_isLatin1_aae02_18 rfl (by decide) (by cases hf; exact hR)
    · replace hf := x_ift hc hf
      refine x_iconst (v := 1) dJ0_isLatin1_aae02_13 (by decide) ?_
      refine x_goto 18 dJ0_isLatin1_aae02_14 (by decide) ?_
      exact x_zret dJ0_isLatin1_aae02_18 rfl (by decide) (by cases hf; exact hR)
theorem c_J0_isLatin1_aae02_i5 {E : xE} {d : Nat} (hd : 1 ≤ d) (m : xMem) (out : Int32 × xMem) (h : F_J0_isLatin1_aae02_i5 m = some out) : xCi E mJ0_isLatin1_aae02 d [.ref (xsa E 5)] m out.1 out.2 :=
  x_enterF (by decide +kernel) (Nat.le_of_ble_eq_true rfl) (pF_J0_isLatin1_aae02_i5 hd (Q := _) out ⟨rfl, rfl⟩ m h)
-- J1_charAt_3b067_i5
def F_J1_charAt_3b067_i5 (x1 : Int32) (m : xMem) : Option (Int32 × xMem) :=
  (F_J0_checkIndex_df160 (x1) ((5 : Int32)) m).bind fun q_1 => (
  if xin x1 5 = true then (
  if xnc .char ((((xsb 5 x1.toNatClampNeg) &&& (255 : Int32)).toUInt32 % 65536).toInt32) = true then (
  some ((((xsb 5 x1.toNatClampNeg) &&& (255 : Int32)).toUInt32 % 65536).toInt32, q_1.2))
  else none)
  else none)
set_option maxHeartbeats 4000000 in
set_option maxRecDepth 100000 in
theorem pF_J1_charAt_3b067_i5 {E : xE} {d : Nat} {Q : Option Value → xS → Prop} (hd : 4 ≤ d) (out : Int32 × xMem) (hR : Q (some (.int out.1)) (xf E out.2)) (x1 : Int32) (m : xMem) (hf : F_J1_charAt_3b067_i5 x1 m = some out) : xX E mJ1_charAt_3b067 d 0 0 0 0 Q 0 [(0, .ref (xsv E 5)), (1, .int (x1))] [] (xf E m) := by
  unfold F_J1_charAt_3b067_i5 at hf
  refine x_iload_n dJ1_charAt_3b067_0 rfl ?_
  refine x_aload_n dJ1_charAt_3b067_1 rfl ?_
  refine x_svlen (v := 5) dJ1_charAt_3b067_2 (by decide) (by decide) ?_
  obtain ⟨q_1, hq_1, hf⟩ := Option.bind_eq_some_iff.mp hf
  refine f_cSv mJ0_checkIndex_df160 [.int (x1), .int ((5 : Int32))] [] dJ1_charAt_3b067_3 cs_RJ1_9 w_647 rfl rfl (Nat.le_of_ble_eq_true rfl) (by omega) (c_J0_checkIndex_df160 (d := d - 1) (by omega) (x1) ((5 : Int32)) m q_1 hq_1) ?_
  refine x_aload_n dJ1_charAt_3b067_6 rfl ?_
  refine x_iload_n dJ1_charAt_3b067_7 rfl ?_
  have hg_2 := x_gd hf
  replace hf := hg_2.2
  refine x_svald dJ1_charAt_3b067_8 (by decide) rfl hg_2.1 ?_
  refine x_sipush (v := 255) dJ1_charAt_3b067_9 (by decide) ?_
  refine x_iand dJ1_charAt_3b067_12 ?_
  refine x_i2c dJ1_charAt_3b067_13 ?_
  have hg_3 := x_gd hf
  replace hf := hg_3.2
  exact x_zret dJ1_charAt_3b067_14 rfl (xnc_n hg_3.1) (by cases hf; exact hR)
theorem c_J1_charAt_3b067_i5 {E : xE} {d : Nat} (hd : 4 ≤ d) (x1 : Int32) (m : xMem) (out : Int32 × xMem) (h : F_J1_charAt_3b067_i5 x1 m = some out) : xCi E mJ1_charAt_3b067 d [.ref (xsv E 5), .int x1] m out.1 out.2 :=
  x_enterF (by decide +kernel) (Nat.le_of_ble_eq_true rfl) (pF_J1_charAt_3b067_i5 hd (Q := _) out ⟨rfl, rfl⟩ x1 m h)
-- J0_charAt_5068e_i5
def F_J0_charAt_5068e_i5 (x1 : Int32) (m : xMem) : Option (Int32 × xMem) :=
  (F_J0_isLatin1_aae02_i5 m).bind fun q_1 => (
  if q_1.1 = 0 then (
    none)
  else (
    (F_J1_charAt_3b067_i5 (x1) q_1.2).bind fun q_2 => (
    if xnc .char q_2.1 = true then (
    some (q_2.1, q_2.2))
    else none)))
set_option maxHeartbeats 4000000 in
set_option maxRecDepth 100000 in
theorem pF_J0_charAt_5068e_i5 {E : xE} {d : Nat} {Q : Option Value → xS → Prop} (hd : 5 ≤ d) (out : Int32 × xMem) (hR : Q (some (.int out.1)) (xf E out.2)) (x1 : Int32) (m : xMem) (hf : F_J0_charAt_5068e_i5 x1 m = some out) : xX E mJ0_charAt_5068e d 0 0 0 0 Q 0 [(0, .ref (xsa E 5)), (1, .int (x1))] [] (xf E m) := by
  unfold F_J0_charAt_5068e_i5 at hf
  refine x_aload_n dJ0_charAt_5068e_0 rfl ?_
  obtain ⟨q_1, hq_1, hf⟩ := Option.bind_eq_some_iff.mp hf
  refine x_callVs (k := 5) mJ0_isLatin1_aae02 [] [] dJ0_charAt_5068e_1 cs_RJ0_492 ⟨w_640, w_641⟩ (by decide) rfl rfl (Nat.le_of_ble_eq_true rfl) (by omega) (c_J0_isLatin1_aae02_i5 (d := d - 1) (by omega) m q_1 hq_1) ?_
  refine x_if_eq 16 dJ0_charAt_5068e_4 (by decide) (fun hc => ?_) (fun hc => ?_)
  · replace hf := x_ift hc hf
    cases hf
  · replace hf := x_iff hc hf
    refine x_aload_n dJ0_charAt_5068e_7 rfl ?_
    refine x_sval dJ0_charAt_5068e_8 (by decide) w_1344 ?_
    refine x_iload_n dJ0_charAt_5068e_11 rfl ?_
    obtain ⟨q_2, hq_2, hf⟩ := Option.bind_eq_some_iff.mp hf
    refine f_cSi mJ1_charAt_3b067 [.ref (xsv E 5), .int (x1)] [] dJ0_charAt_5068e_12 cs_RJ0_495 w_644 rfl rfl (Nat.le_of_ble_eq_true rfl) (by omega) (c_J1_charAt_3b067_i5 (d := d - 1) (by omega) (x1) q_1.2 q_2 hq_2) ?_
    have hg_3 := x_gd hf
    replace hf := hg_3.2
    exact x_zret dJ0_charAt_5068e_15 rfl (xnc_n hg_3.1) (by cases hf; exact hR)
theorem c_J0_charAt_5068e_i5 {E : xE} {d : Nat} (hd : 5 ≤ d) (x1 : Int32) (m : xMem) (out : Int32 × xMem) (h : F_J0_charAt_5068e_i5 x1 m = some out) : xCi E mJ0_charAt_5068e d [.ref (xsa E 5), .int x1] m out.1 out.2 :=
  x_enterF (by decide +kernel) (Nat.le_of_ble_eq_true rfl) (pF_J0_charAt_5068e_i5 hd (Q := _) out ⟨rfl, rfl⟩ x1 m h)
-- X7_spells_i5
def L_X7_spells_i5_27 (x1 : Int32) : Nat → Int32 → xMem → Option (Int32 × xMem)
  | 0, _, _ => none
  | fk + 1, x4, m =>
    (F_J0_length_8abf5_i5 m).bind fun q_2 => (
    if q_2.1 ≤ x4 then (
      some ((1 : Int32), q_2.2))
    else (
      if xin (x1 + x4) 600 = true then (
      (F_J0_charAt_5068e_i5 (x4) q_2.2).bind fun q_4 => (
      if (q_2.2.1 ag_tape_signs (x1 + x4).toNatClampNeg) = q_4.1 then (
        L_X7_spells_i5_27 (x1) fk (x4 + 1) q_4.2)
      else (
        some ((0 : Int32), q_4.2))))
      else none))
def F_X7_spells_i5 (x1 : Int32) (x2 : Int32) (m : xMem) : Option (Int32 × xMem) :=
  if x1 < 0 then (
    some ((0 : Int32), m))
  else (
    if (m.1 ag_tape fTape_length) < x2 then (
      some ((0 : Int32), m))
    else (
      (F_J0_length_8abf5_i5 m).bind fun q_1 => (
      if (x2 - x1) = q_1.1 then (
        L_X7_spells_i5_27 (x1) xfuel ((0 : Int32)) q_1.2)
      else (
        some ((0 : Int32), q_1.2)))))
set_option maxHeartbeats 4000000 in
set_option maxRecDepth 100000 in
theorem pL_X7_spells_i5_27 {E : xE} {d : Nat} {Q : Option Value → xS → Prop} (hd : 6 ≤ d) (out : Int32 × xMem) (hR : Q (some (.int out.1)) (xf E out.2)) (x1 : Int32) : ∀ (fk : Nat) (x4 : Int32) (m : xMem), L_X7_spells_i5_27 x1 fk x4 m = some out → xX E mX7_spells d 0 0 0 0 Q 27 [(0, .ref (xB E + 29)), (1, .int (x1)), (3, .ref (xsa E 5)), (4, .int (x4))] [] (xf E m) := by
  intro fk
  induction fk with
  | zero => intro x4 m hf; cases hf
  | succ fk ih =>
    intro x4 m hf
    rw [L_X7_spells_i5_27] at hf
    refine x_iload dX7_spells_27 rfl ?_
    refine x_aload_n dX7_spells_29 rfl ?_
    obtain ⟨q_2, hq_2, hf⟩ := Option.bind_eq_some_iff.mp hf
    refine x_callVs (k := 5) mJ0_length_8abf5 [] [.int (x4)] dX7_spells_30 cs_RX7_36 ⟨w_626, w_627⟩ (by decide) rfl rfl (Nat.le_of_ble_eq_true rfl) (by omega) (c_J0_length_8abf5_i5 (d := d - 1) (by omega) m q_2 hq_2) ?_
    refine x_icmp_ge 62 dX7_spells_33 (by decide) (fun hc => ?_) (fun hc => ?_)
    · replace hf := x_ift hc hf
      refine x_iconst (v := 1) dX7_spells_62 (by decide) ?_
      exact x_zret dX7_spells_63 rfl (by decide) (by cases hf; exact hR)
    · replace hf := x_iff hc hf
      refine x_aload_n dX7_spells_36 rfl ?_
      refine f_getR (b := 30) dX7_spells_37 xcl_7 (by decide) fl_RX7_9 (by decide) sh_29 rfl ?_
      refine x_iload_n dX7_spells_40 rfl ?_
      refine x_iload dX7_spells_41 rfl ?_
      refine x_iadd dX7_spells_43 ?_
      have hg_3 := x_gd hf
      replace hf := hg_3.2
      refine f_bald dX7_spells_44 (by decide) sh_30 hg_3.1 ?_
      refine x_aload_n dX7_spells_45 rfl ?_
      refine x_iload dX7_spells_46 rfl ?_
      obtain ⟨q_4, hq_4, hf⟩ := Option.bind_eq_some_iff.mp hf
      refine x_callVs (k := 5) mJ0_charAt_5068e [.int (x4)] [.int (q_2.2.1 ag_tape_signs (x1 + x4).toNatClampNeg)] dX7_spells_48 cs_RX7_41 ⟨w_636, w_637⟩ (by decide) rfl rfl (Nat.le_of_ble_eq_true rfl) (by omega) (c_J0_charAt_5068e_i5 (d := d - 1) (by omega) (x4) q_2.2 q_4 hq_4) ?_
      refine x_icmp_eq 56 dX7_spells_51 (by decide) (fun hc => ?_) (fun hc => ?_)
      · replace hf := x_ift hc hf
        refine x_iinc (v := x4 + 1) (lv' := [(0, .ref (xB E + 29)), (1, .int (x1)), (3, .ref (xsa E 5)), (4, .int (x4 + 1))]) dX7_spells_56 3 [1, 2, 3, 0] rfl rfl (by decide) rfl ?_
        refine x_goto 27 dX7_spells_59 (by decide) ?_
        exact ih _ _ hf
      · replace hf := x_iff hc hf
        refine x_iconst (v := 0) dX7_spells_54 (by decide) ?_
        exact x_zret dX7_spells_55 rfl (by decide) (by cases hf; exact hR)
set_option maxHeartbeats 4000000 in
set_option maxRecDepth 100000 in
theorem pF_X7_spells_i5 {E : xE} {d : Nat} {Q : Option Value → xS → Prop} (hd : 6 ≤ d) (out : Int32 × xMem) (hR : Q (some (.int out.1)) (xf E out.2)) (x1 : Int32) (x2 : Int32) (m : xMem) (hf : F_X7_spells_i5 x1 x2 m = some out) : xX E mX7_spells d 0 0 0 0 Q 0 [(0, .ref (xB E + 29)), (1, .int (x1)), (2, .int (x2)), (3, .ref (xsa E 5))] [] (xf E m) := by
  unfold F_X7_spells_i5 at hf
  refine x_iload_n dX7_spells_0 rfl ?_
  refine x_if_lt 22 dX7_spells_1 (by decide) (fun hc => ?_) (fun hc => ?_)
  · replace hf := x_ift hc hf
    refine x_iconst (v := 0) dX7_spells_22 (by decide) ?_
    exact x_zret dX7_spells_23 rfl (by decide) (by cases hf; exact hR)
  · replace hf := x_iff hc hf
    refine x_iload_n dX7_spells_4 rfl ?_
    refine x_aload_n dX7_spells_5 rfl ?_
    refine f_getI dX7_spells_6 xcl_7 (by decide) fl_RX7_21 (by decide) sh_29 rfl ?_
    refine x_icmp_gt 22 dX7_spells_9 (by decide) (fun hc => ?_) (fun hc => ?_)
    · replace hf := x_ift hc hf
      refine x_iconst (v := 0) dX7_spells_22 (by decide) ?_
      exact x_zret dX7_spells_23 rfl (by decide) (by cases hf; exact hR)
    · replace hf := x_iff hc hf
      refine x_iload_n dX7_spells_12 rfl ?_
      refine x_iload_n dX7_spells_13 rfl ?_
      refine x_isub dX7_spells_14 ?_
      refine x_aload_n dX7_spells_15 rfl ?_
      obtain ⟨q_1, hq_1, hf⟩ := Option.bind_eq_some_iff.mp hf
      refine x_callVs (k := 5) mJ0_length_8abf5 [] [.int (x2 - x1)] dX7_spells_16 cs_RX7_36 ⟨w_626, w_627⟩ (by decide) rfl rfl (Nat.le_of_ble_eq_true rfl) (by omega) (c_J0_length_8abf5_i5 (d := d - 1) (by omega) m q_1 hq_1) ?_
      refine x_icmp_eq 24 dX7_spells_19 (by decide) (fun hc => ?_) (fun hc => ?_)
      · replace hf := x_ift hc hf
        refine x_iconst (v := 0) dX7_spells_24 (by decide) ?_
        refine x_istore (lv' := [(0, .ref (xB E + 29)), (1, .int (x1)), (3, .ref (xsa E 5)), (4, .int ((0 : Int32)))]) dX7_spells_25 [1, 2, 4, 0] (by decide) rfl ?_
        refine pL_X7_spells_i5_27 hd out hR _ xfuel _ _ hf
      · replace hf := x_iff hc hf
        refine x_iconst (v := 0) dX7_spells_22 (by decide) ?_
        exact x_zret dX7_spells_23 rfl (by decide) (by cases hf; exact hR)
theorem c_X7_spells_i5 {E : xE} {d : Nat} (hd : 6 ≤ d) (x1 : Int32) (x2 : Int32) (m : xMem) (out : Int32 × xMem) (h : F_X7_spells_i5 x1 x2 m = some out) : xCi E mX7_spells d [.ref (xB E + 29), .int x1, .int x2, .ref (xsa E 5)] m out.1 out.2 :=
  x_enter (by decide +kernel) (Nat.le_of_ble_eq_true rfl) (pF_X7_spells_i5 hd (Q := _) out ⟨rfl, rfl⟩ x1 x2 m h)
-- J0_coder_7d493_i6
def F_J0_coder_7d493_i6 (m : xMem) : Option (Int32 × xMem) :=
  if (1 : Int32) = 0 then (
    some ((1 : Int32), m))
  else (
    some ((0 : Int32), m))
set_option maxHeartbeats 4000000 in
set_option maxRecDepth 100000 in
theorem pF_J0_coder_7d493_i6 {E : xE} {d : Nat} {Q : Option Value → xS → Prop} (hd : 1 ≤ d) (out : Int32 × xMem) (hR : Q (some (.int out.1)) (xf E out.2)) (m : xMem) (hf : F_J0_coder_7d493_i6 m = some out) : xX E mJ0_coder_7d493 d 0 0 0 0 Q 0 [(0, .ref (xsa E 6))] [] (xf E m) := by
  unfold F_J0_coder_7d493_i6 at hf
  refine x_getsC dJ0_coder_7d493_0 w_633 ?_
  refine x_if_eq 13 dJ0_coder_7d493_3 (by decide) (fun hc => ?_) (fun hc => ?_)
  · replace hf := x_ift hc hf
    refine x_iconst (v := 1) dJ0_coder_7d493_13 (by decide) ?_
    exact x_zret dJ0_coder_7d493_14 rfl (by decide) (by cases hf; exact hR)
  · replace hf := x_iff hc hf
    refine x_aload_n dJ0_coder_7d493_6 rfl ?_
    refine x_scod dJ0_coder_7d493_7 (by decide) w_1345 ?_
    refine x_goto 14 dJ0_coder_7d493_10 (by decide) ?_
    exact x_zret dJ0_coder_7d493_14 rfl (by decide) (by cases hf; exact hR)
theorem c_J0_coder_7d493_i6 {E : xE} {d : Nat} (hd : 1 ≤ d) (m : xMem) (out : Int32 × xMem) (h : F_J0_coder_7d493_i6 m = some out) : xCi E mJ0_coder_7d493 d [.ref (xsa E 6)] m out.1 out.2 :=
  x_enterF (by decide +kernel) (Nat.le_of_ble_eq_true rfl) (pF_J0_coder_7d493_i6 hd (Q := _) out ⟨rfl, rfl⟩ m h)
-- J0_length_8abf5_i6
def F_J0_length_8abf5_i6 (m : xMem) : Option (Int32 × xMem) :=
  (F_J0_coder_7d493_i6 m).bind fun q_1 => (
  some ((8 : Int32) >>> (q_1.1 &&& 31), q_1.2))
set_option maxHeartbeats 4000000 in
set_option maxRecDepth 100000 in
theorem pF_J0_length_8abf5_i6 {E : xE} {d : Nat} {Q : Option Value → xS → Prop} (hd : 2 ≤ d) (out : Int32 × xMem) (hR : Q (some (.int out.1)) (xf E out.2)) (m : xMem) (hf : F_J0_length_8abf5_i6 m = some out) : xX E mJ0_length_8abf5 d 0 0 0 0 Q 0 [(0, .ref (xsa E 6))] [] (xf E m) := by
  unfold F_J0_length_8abf5_i6 at hf
  refine x_aload_n dJ0_length_8abf5_0 rfl ?_
  refine x_sval dJ0_length_8abf5_1 (by decide) w_1344 ?_
  refine x_svlen (v := 8) dJ0_length_8abf5_4 (by decide) (by decide) ?_
  refine x_aload_n dJ0_length_8abf5_5 rfl ?_
  obtain ⟨q_1, hq_1, hf⟩ := Option.bind_eq_some_iff.mp hf
  refine x_callVs (k := 6) mJ0_coder_7d493 [] [.int ((8 : Int32))] dJ0_length_8abf5_6 cs_RJ0_335 ⟨w_630, w_631⟩ (by decide) rfl rfl (Nat.le_of_ble_eq_true rfl) (by omega) (c_J0_coder_7d493_i6 (d := d - 1) (by omega) m q_1 hq_1) ?_
  refine x_ishr dJ0_length_8abf5_9 ?_
  exact x_iret dJ0_length_8abf5_10 rfl (by cases hf; exact hR)
theorem c_J0_length_8abf5_i6 {E : xE} {d : Nat} (hd : 2 ≤ d) (m : xMem) (out : Int32 × xMem) (h : F_J0_length_8abf5_i6 m = some out) : xCi E mJ0_length_8abf5 d [.ref (xsa E 6)] m out.1 out.2 :=
  x_enterF (by decide +kernel) (Nat.le_of_ble_eq_true rfl) (pF_J0_length_8abf5_i6 hd (Q := _) out ⟨rfl, rfl⟩ m h)
-- J0_isLatin1_aae02_i6
def F_J0_isLatin1_aae02_i6 (m : xMem) : Option (Int32 × xMem) :=
  if (1 : Int32) = 0 then (
    some ((0 : Int32), m))
  else (
    if (0 : Int32) = 0 then (
      some ((1 : Int32), m))
    else (
      some ((0 : Int32), m)))
set_option maxHeartbeats 4000000 in
set_option maxRecDepth 100000 in
theorem pF_J0_isLatin1_aae02_i6 {E : xE} {d : Nat} {Q : Option Value → xS → Prop} (hd : 1 ≤ d) (out : Int32 × xMem) (hR : Q (some (.int out.1)) (xf E out.2)) (m : xMem) (hf : F_J0_isLatin1_aae02_i6 m = some out) : xX E mJ0_isLatin1_aae02 d 0 0 0 0 Q 0 [(0, .ref (xsa E 6))] [] (xf E m) := by
  unfold F_J0_isLatin1_aae02_i6 at hf
  refine x_getsC dJ0_isLatin1_aae02_0 w_633 ?_
  refine x_if_eq 17 dJ0_isLatin1_aae02_3 (by decide) (fun hc => ?_) (fun hc => ?_)
  · replace hf := x_ift hc hf
    refine x_iconst (v := 0) dJ0_isLatin1_aae02_17 (by decide) ?_
    exact x_zret dJ0_isLatin1_aae02_18 rfl (by decide) (by cases hf; exact hR)
  · replace hf := x_iff hc hf
    refine x_aload_n dJ0_isLatin1_aae02_6 rfl ?_
    refine x_scod dJ0_isLatin1_aae02_7 (by decide) w_1345 ?_
    refine x_if_ne 17 dJ0_isLatin1_aae02_10 (by decide) (fun hc => ?_) (fun hc => ?_)
    · replace hf := x_iff hc hf
      refine x_iconst (v := 0) dJ0_isLatin1_aae02_17 (by decide) ?_
      exact x_zret dJ0_isLatin1_aae02_18 rfl (by decide) (by cases hf; exact hR)
    · replace hf := x_ift hc hf
      refine x_iconst (v := 1) dJ0_isLatin1_aae02_13 (by decide) ?_
      refine x_goto 18 dJ0_isLatin1_aae02_14 (by decide) ?_
      exact x_zret dJ0_isLatin1_aae02_18 rfl (by decide) (by cases hf; exact hR)
theorem c_J0_isLatin1_aae02_i6 {E : xE} {d : Nat} (hd : 1 ≤ d) (m : xMem) (out : Int32 × xMem) (h : F_J0_isLatin1_aae02_i6 m = some out) : xCi E mJ0_isLatin1_aae02 d [.ref (xsa E 6)] m out.1 out.2 :=
  x_enterF (by decide +kernel) (Nat.le_of_ble_eq_true rfl) (pF_J0_isLatin1_aae02_i6 hd (Q := _) out ⟨rfl, rfl⟩ m h)
-- J1_charAt_3b067_i6
def F_J1_charAt_3b067_i6 (x1 : Int32) (m : xMem) : Option (Int32 × xMem) :=
  (F_J0_checkIndex_df160 (x1) ((8 : Int32)) m).bind fun q_1 => (
  if xin x1 8 = true then (
  if xnc .char ((((xsb 6 x1.toNatClampNeg) &&& (255 : Int32)).toUInt32 % 65536).toInt32) = true then (
  some ((((xsb 6 x1.toNatClampNeg) &&& (255 : Int32)).toUInt32 % 65536).toInt32, q_1.2))
  else none)
  else none)
set_option maxHeartbeats 4000000 in
set_option maxRecDepth 100000 in
theorem pF_J1_charAt_3b067_i6 {E : xE} {d : Nat} {Q : Option Value → xS → Prop} (hd : 4 ≤ d) (out : Int32 × xMem) (hR : Q (some (.int out.1)) (xf E out.2)) (x1 : Int32) (m : xMem) (hf : F_J1_charAt_3b067_i6 x1 m = some out) : xX E mJ1_charAt_3b067 d 0 0 0 0 Q 0 [(0, .ref (xsv E 6)), (1, .int (x1))] [] (xf E m) := by
  unfold F_J1_charAt_3b067_i6 at hf
  refine x_iload_n dJ1_charAt_3b067_0 rfl ?_
  refine x_aload_n dJ1_charAt_3b067_1 rfl ?_
  refine x_svlen (v := 8) dJ1_charAt_3b067_2 (by decide) (by decide) ?_
  obtain ⟨q_1, hq_1, hf⟩ := Option.bind_eq_some_iff.mp hf
  refine f_cSv mJ0_checkIndex_df160 [.int (x1), .int ((8 : Int32))] [] dJ1_charAt_3b067_3 cs_RJ1_9 w_647 rfl rfl (Nat.le_of_ble_eq_true rfl) (by omega) (c_J0_checkIndex_df160 (d := d - 1) (by omega) (x1) ((8 : Int32)) m q_1 hq_1) ?_
  refine x_aload_n dJ1_charAt_3b067_6 rfl ?_
  refine x_iload_n dJ1_charAt_3b067_7 rfl ?_
  have hg_2 := x_gd hf
  replace hf := hg_2.2
  refine x_svald dJ1_charAt_3b067_8 (by decide) rfl hg_2.1 ?_
  refine x_sipush (v := 255) dJ1_charAt_3b067_9 (by decide) ?_
  refine x_iand dJ1_charAt_3b067_12 ?_
  refine x_i2c dJ1_charAt_3b067_13 ?_
  have hg_3 := x_gd hf
  replace hf := hg_3.2
  exact x_zret dJ1_charAt_3b067_14 rfl (xnc_n hg_3.1) (by cases hf; exact hR)
theorem c_J1_charAt_3b067_i6 {E : xE} {d : Nat} (hd : 4 ≤ d) (x1 : Int32) (m : xMem) (out : Int32 × xMem) (h : F_J1_charAt_3b067_i6 x1 m = some out) : xCi E mJ1_charAt_3b067 d [.ref (xsv E 6), .int x1] m out.1 out.2 :=
  x_enterF (by decide +kernel) (Nat.le_of_ble_eq_true rfl) (pF_J1_charAt_3b067_i6 hd (Q := _) out ⟨rfl, rfl⟩ x1 m h)
-- J0_charAt_5068e_i6
def F_J0_charAt_5068e_i6 (x1 : Int32) (m : xMem) : Option (Int32 × xMem) :=
  (F_J0_isLatin1_aae02_i6 m).bind fun q_1 => (
  if q_1.1 = 0 then (
    none)
  else (
    (F_J1_charAt_3b067_i6 (x1) q_1.2).bind fun q_2 => (
    if xnc .char q_2.1 = true then (
    some (q_2.1, q_2.2))
    else none)))
set_option maxHeartbeats 4000000 in
set_option maxRecDepth 100000 in
theorem pF_J0_charAt_5068e_i6 {E : xE} {d : Nat} {Q : Option Value → xS → Prop} (hd : 5 ≤ d) (out : Int32 × xMem) (hR : Q (some (.int out.1)) (xf E out.2)) (x1 : Int32) (m : xMem) (hf : F_J0_charAt_5068e_i6 x1 m = some out) : xX E mJ0_charAt_5068e d 0 0 0 0 Q 0 [(0, .ref (xsa E 6)), (1, .int (x1))] [] (xf E m) := by
  unfold F_J0_charAt_5068e_i6 at hf
  refine x_aload_n dJ0_charAt_5068e_0 rfl ?_
  obtain ⟨q_1, hq_1, hf⟩ := Option.bind_eq_some_iff.mp hf
  refine x_callVs (k := 6) mJ0_isLatin1_aae02 [] [] dJ0_charAt_5068e_1 cs_RJ0_492 ⟨w_640, w_641⟩ (by decide) rfl rfl (Nat.le_of_ble_eq_true rfl) (by omega) (c_J0_isLatin1_aae02_i6 (d := d - 1) (by omega) m q_1 hq_1) ?_
  refine x_if_eq 16 dJ0_charAt_5068e_4 (by decide) (fun hc => ?_) (fun hc => ?_)
  · replace hf := x_ift hc hf
    cases hf
  · replace hf := x_iff hc hf
    refine x_aload_n dJ0_charAt_5068e_7 rfl ?_
    refine x_sval dJ0_charAt_5068e_8 (by decide) w_1344 ?_
    refine x_iload_n dJ0_charAt_5068e_11 rfl ?_
    obtain ⟨q_2, hq_2, hf⟩ := Option.bind_eq_some_iff.mp hf
    refine f_cSi mJ1_charAt_3b067 [.ref (xsv E 6), .int (x1)] [] dJ0_charAt_5068e_12 cs_RJ0_495 w_644 rfl rfl (Nat.le_of_ble_eq_true rfl) (by omega) (c_J1_charAt_3b067_i6 (d := d - 1) (by omega) (x1) q_1.2 q_2 hq_2) ?_
    have hg_3 := x_gd hf
    replace hf := hg_3.2
    exact x_zret dJ0_charAt_5068e_15 rfl (xnc_n hg_3.1) (by cases hf; exact hR)
theorem c_J0_charAt_5068e_i6 {E : xE} {d : Nat} (hd : 5 ≤ d) (x1 : Int32) (m : xMem) (out : Int32 × xMem) (h : F_J0_charAt_5068e_i6 x1 m = some out) : xCi E mJ0_charAt_5068e d [.ref (xsa E 6), .int x1] m out.1 out.2 :=
  x_enterF (by decide +kernel) (Nat.le_of_ble_eq_true rfl) (pF_J0_charAt_5068e_i6 hd (Q := _) out ⟨rfl, rfl⟩ x1 m h)
-- X7_spells_i6
def L_X7_spells_i6_27 (x1 : Int32) : Nat → Int32 → xMem → Option (Int32 × xMem)
  | 0, _, _ => none
  | fk + 1, x4, m =>
    (F_J0_length_8abf5_i6 m).bind fun q_2 => (
    if q_2.1 ≤ x4 then (
      some ((1 : Int32), q_2.2))
    else (
      if xin (x1 + x4) 600 = true then (
      (F_J0_charAt_5068e_i6 (x4) q_2.2).bind fun q_4 => (
      if (q_2.2.1 ag_tape_signs (x1 + x4).toNatClampNeg) = q_4.1 then (
        L_X7_spells_i6_27 (x1) fk (x4 + 1) q_4.2)
      else (
        some ((0 : Int32), q_4.2))))
      else none))
def F_X7_spells_i6 (x1 : Int32) (x2 : Int32) (m : xMem) : Option (Int32 × xMem) :=
  if x1 < 0 then (
    some ((0 : Int32), m))
  else (
    if (m.1 ag_tape fTape_length) < x2 then (
      some ((0 : Int32), m))
    else (
      (F_J0_length_8abf5_i6 m).bind fun q_1 => (
      if (x2 - x1) = q_1.1 then (
        L_X7_spells_i6_27 (x1) xfuel ((0 : Int32)) q_1.2)
      else (
        some ((0 : Int32), q_1.2)))))
set_option maxHeartbeats 4000000 in
set_option maxRecDepth 100000 in
theorem pL_X7_spells_i6_27 {E : xE} {d : Nat} {Q : Option Value → xS → Prop} (hd : 6 ≤ d) (out : Int32 × xMem) (hR : Q (some (.int out.1)) (xf E out.2)) (x1 : Int32) : ∀ (fk : Nat) (x4 : Int32) (m : xMem), L_X7_spells_i6_27 x1 fk x4 m = some out → xX E mX7_spells d 0 0 0 0 Q 27 [(0, .ref (xB E + 29)), (1, .int (x1)), (3, .ref (xsa E 6)), (4, .int (x4))] [] (xf E m) := by
  intro fk
  induction fk with
  | zero => intro x4 m hf; cases hf
  | succ fk ih =>
    intro x4 m hf
    rw [L_X7_spells_i6_27] at hf
    refine x_iload dX7_spells_27 rfl ?_
    refine x_aload_n dX7_spells_29 rfl ?_
    obtain ⟨q_2, hq_2, hf⟩ := Option.bind_eq_some_iff.mp hf
    refine x_callVs (k := 6) mJ0_length_8abf5 [] [.int (x4)] dX7_spells_30 cs_RX7_36 ⟨w_626, w_627⟩ (by decide) rfl rfl (Nat.le_of_ble_eq_true rfl) (by omega) (c_J0_length_8abf5_i6 (d := d - 1) (by omega) m q_2 hq_2) ?_
    refine x_icmp_ge 62 dX7_spells_33 (by decide) (fun hc => ?_) (fun hc => ?_)
    · replace hf := x_ift hc hf
      refine x_iconst (v := 1) dX7_spells_62 (by decide) ?_
      exact x_zret dX7_spells_63 rfl (by decide) (by cases hf; exact hR)
    · replace hf := x_iff hc hf
      refine x_aload_n dX7_spells_36 rfl ?_
      refine f_getR (b := 30) dX7_spells_37 xcl_7 (by decide) fl_RX7_9 (by decide) sh_29 rfl ?_
      refine x_iload_n dX7_spells_40 rfl ?_
      refine x_iload dX7_spells_41 rfl ?_
      refine x_iadd dX7_spells_43 ?_
      have hg_3 := x_gd hf
      replace hf := hg_3.2
      refine f_bald dX7_spells_44 (by decide) sh_30 hg_3.1 ?_
      refine x_aload_n dX7_spells_45 rfl ?_
      refine x_iload dX7_spells_46 rfl ?_
      obtain ⟨q_4, hq_4, hf⟩ := Option.bind_eq_some_iff.mp hf
      refine x_callVs (k := 6) mJ0_charAt_5068e [.int (x4)] [.int (q_2.2.1 ag_tape_signs (x1 + x4).toNatClampNeg)] dX7_spells_48 cs_RX7_41 ⟨w_636, w_637⟩ (by decide) rfl rfl (Nat.le_of_ble_eq_true rfl) (by omega) (c_J0_charAt_5068e_i6 (d := d - 1) (by omega) (x4) q_2.2 q_4 hq_4) ?_
      refine x_icmp_eq 56 dX7_spells_51 (by decide) (fun hc => ?_) (fun hc => ?_)
      · replace hf := x_ift hc hf
        refine x_iinc (v := x4 + 1) (lv' := [(0, .ref (xB E + 29)), (1, .int (x1)), (3, .ref (xsa E 6)), (4, .int (x4 + 1))]) dX7_spells_56 3 [1, 2, 3, 0] rfl rfl (by decide) rfl ?_
        refine x_goto 27 dX7_spells_59 (by decide) ?_
        exact ih _ _ hf
      · replace hf := x_iff hc hf
        refine x_iconst (v := 0) dX7_spells_54 (by decide) ?_
        exact x_zret dX7_spells_55 rfl (by decide) (by cases hf; exact hR)
set_option maxHeartbeats 4000000 in
set_option maxRecDepth 100000 in
theorem pF_X7_spells_i6 {E : xE} {d : Nat} {Q : Option Value → xS → Prop} (hd : 6 ≤ d) (out : Int32 × xMem) (hR : Q (some (.int out.1)) (xf E out.2)) (x1 : Int32) (x2 : Int32) (m : xMem) (hf : F_X7_spells_i6 x1 x2 m = some out) : xX E mX7_spells d 0 0 0 0 Q 0 [(0, .ref (xB E + 29)), (1, .int (x1)), (2, .int (x2)), (3, .ref (xsa E 6))] [] (xf E m) := by
  unfold F_X7_spells_i6 at hf
  refine x_iload_n dX7_spells_0 rfl ?_
  refine x_if_lt 22 dX7_spells_1 (by decide) (fun hc => ?_) (fun hc => ?_)
  · replace hf := x_ift hc hf
    refine x_iconst (v := 0) dX7_spells_22 (by decide) ?_
    exact x_zret dX7_spells_23 rfl (by decide) (by cases hf; exact hR)
  · replace hf := x_iff hc hf
    refine x_iload_n dX7_spells_4 rfl ?_
    refine x_aload_n dX7_spells_5 rfl ?_
    refine f_getI dX7_spells_6 xcl_7 (by decide) fl_RX7_21 (by decide) sh_29 rfl ?_
    refine x_icmp_gt 22 dX7_spells_9 (by decide) (fun hc => ?_) (fun hc => ?_)
    · replace hf := x_ift hc hf
      refine x_iconst (v := 0) dX7_spells_22 (by decide) ?_
      exact x_zret dX7_spells_23 rfl (by decide) (by cases hf; exact hR)
    · replace hf := x_iff hc hf
      refine x_iload_n dX7_spells_12 rfl ?_
      refine x_iload_n dX7_spells_13 rfl ?_
      refine x_isub dX7_spells_14 ?_
      refine x_aload_n dX7_spells_15 rfl ?_
      obtain ⟨q_1, hq_1, hf⟩ := Option.bind_eq_some_iff.mp hf
      refine x_callVs (k := 6) mJ0_length_8abf5 [] [.int (x2 - x1)] dX7_spells_16 cs_RX7_36 ⟨w_626, w_627⟩ (by decide) rfl rfl (Nat.le_of_ble_eq_true rfl) (by omega) (c_J0_length_8abf5_i6 (d := d - 1) (by omega) m q_1 hq_1) ?_
      refine x_icmp_eq 24 dX7_spells_19 (by decide) (fun hc => ?_) (fun hc => ?_)
      · replace hf := x_ift hc hf
        refine x_iconst (v := 0) dX7_spells_24 (by decide) ?_
        refine x_istore (lv' := [(0, .ref (xB E + 29)), (1, .int (x1)), (3, .ref (xsa E 6)), (4, .int ((0 : Int32)))]) dX7_spells_25 [1, 2, 4, 0] (by decide) rfl ?_
        refine pL_X7_spells_i6_27 hd out hR _ xfuel _ _ hf
      · replace hf := x_iff hc hf
        refine x_iconst (v := 0) dX7_spells_22 (by decide) ?_
        exact x_zret dX7_spells_23 rfl (by decide) (by cases hf; exact hR)
theorem c_X7_spells_i6 {E : xE} {d : Nat} (hd : 6 ≤ d) (x1 : Int32) (x2 : Int32) (m : xMem) (out : Int32 × xMem) (h : F_X7_spells_i6 x1 x2 m = some out) : xCi E mX7_spells d [.ref (xB E + 29), .int x1, .int x2, .ref (xsa E 6)] m out.1 out.2 :=
  x_enter (by decide +kernel) (Nat.le_of_ble_eq_true rfl) (pF_X7_spells_i6 hd (Q := _) out ⟨rfl, rfl⟩ x1 x2 m h)
-- J0_coder_7d493_i7
def F_J0_coder_7d493_i7 (m : xMem) : Option (Int32 × xMem) :=
  if (1 : Int32) = 0 then (
    some ((1 : Int32), m))
  else (
    some ((0 : Int32), m))
set_option maxHeartbeats 4000000 in
set_option maxRecDepth 100000 in
theorem pF_J0_coder_7d493_i7 {E : xE} {d : Nat} {Q : Option Value → xS → Prop} (hd : 1 ≤ d) (out : Int32 × xMem) (hR : Q (some (.int out.1)) (xf E out.2)) (m : xMem) (hf : F_J0_coder_7d493_i7 m = some out) : xX E mJ0_coder_7d493 d 0 0 0 0 Q 0 [(0, .ref (xsa E 7))] [] (xf E m) := by
  unfold F_J0_coder_7d493_i7 at hf
  refine x_getsC dJ0_coder_7d493_0 w_633 ?_
  refine x_if_eq 13 dJ0_coder_7d493_3 (by decide) (fun hc => ?_) (fun hc => ?_)
  · replace hf := x_ift hc hf
    refine x_iconst (v := 1) dJ0_coder_7d493_13 (by decide) ?_
    exact x_zret dJ0_coder_7d493_14 rfl (by decide) (by cases hf; exact hR)
  · replace hf := x_iff hc hf
    refine x_aload_n dJ0_coder_7d493_6 rfl ?_
    refine x_scod dJ0_coder_7d493_7 (by decide) w_1345 ?_
    refine x_goto 14 dJ0_coder_7d493_10 (by decide) ?_
    exact x_zret dJ0_coder_7d493_14 rfl (by decide) (by cases hf; exact hR)
theorem c_J0_coder_7d493_i7 {E : xE} {d : Nat} (hd : 1 ≤ d) (m : xMem) (out : Int32 × xMem) (h : F_J0_coder_7d493_i7 m = some out) : xCi E mJ0_coder_7d493 d [.ref (xsa E 7)] m out.1 out.2 :=
  x_enterF (by decide +kernel) (Nat.le_of_ble_eq_true rfl) (pF_J0_coder_7d493_i7 hd (Q := _) out ⟨rfl, rfl⟩ m h)
-- J0_length_8abf5_i7
def F_J0_length_8abf5_i7 (m : xMem) : Option (Int32 × xMem) :=
  (F_J0_coder_7d493_i7 m).bind fun q_1 => (
  some ((5 : Int32) >>> (q_1.1 &&& 31), q_1.2))
set_option maxHeartbeats 4000000 in
set_option maxRecDepth 100000 in
theorem pF_J0_length_8abf5_i7 {E : xE} {d : Nat} {Q : Option Value → xS → Prop} (hd : 2 ≤ d) (out : Int32 × xMem) (hR : Q (some (.int out.1)) (xf E out.2)) (m : xMem) (hf : F_J0_length_8abf5_i7 m = some out) : xX E mJ0_length_8abf5 d 0 0 0 0 Q 0 [(0, .ref (xsa E 7))] [] (xf E m) := by
  unfold F_J0_length_8abf5_i7 at hf
  refine x_aload_n dJ0_length_8abf5_0 rfl ?_
  refine x_sval dJ0_length_8abf5_1 (by decide) w_1344 ?_
  refine x_svlen (v := 5) dJ0_length_8abf5_4 (by decide) (by decide) ?_
  refine x_aload_n dJ0_length_8abf5_5 rfl ?_
  obtain ⟨q_1, hq_1, hf⟩ := Option.bind_eq_some_iff.mp hf
  refine x_callVs (k := 7) mJ0_coder_7d493 [] [.int ((5 : Int32))] dJ0_length_8abf5_6 cs_RJ0_335 ⟨w_630, w_631⟩ (by decide) rfl rfl (Nat.le_of_ble_eq_true rfl) (by omega) (c_J0_coder_7d493_i7 (d := d - 1) (by omega) m q_1 hq_1) ?_
  refine x_ishr dJ0_length_8abf5_9 ?_
  exact x_iret dJ0_length_8abf5_10 rfl (by cases hf; exact hR)
theorem c_J0_length_8abf5_i7 {E : xE} {d : Nat} (hd : 2 ≤ d) (m : xMem) (out : Int32 × xMem) (h : F_J0_length_8abf5_i7 m = some out) : xCi E mJ0_length_8abf5 d [.ref (xsa E 7)] m out.1 out.2 :=
  x_enterF (by decide +kernel) (Nat.le_of_ble_eq_true rfl) (pF_J0_length_8abf5_i7 hd (Q := _) out ⟨rfl, rfl⟩ m h)
-- J0_isLatin1_aae02_i7
def F_J0_isLatin1_aae02_i7 (m : xMem) : Option (Int32 × xMem) :=
  if (1 : Int32) = 0 then (
    some ((0 : Int32), m))
  else (
    if (0 : Int32) = 0 then (
      some ((1 : Int32), m))
    else (
      some ((0 : Int32), m)))
set_option maxHeartbeats 4000000 in
set_option maxRecDepth 100000 in
theorem pF_J0_isLatin1_aae02_i7 {E : xE} {d : Nat} {Q : Option Value → xS → Prop} (hd : 1 ≤ d) (out : Int32 × xMem) (hR : Q (some (.int out.1)) (xf E out.2)) (m : xMem) (hf : F_J0_isLatin1_aae02_i7 m = some out) : xX E mJ0_isLatin1_aae02 d 0 0 0 0 Q 0 [(0, .ref (xsa E 7))] [] (xf E m) := by
  unfold F_J0_isLatin1_aae02_i7 at hf
  refine x_getsC dJ0_isLatin1_aae02_0 w_633 ?_
  refine x_if_eq 17 dJ0_isLatin1_aae02_3 (by decide) (fun hc => ?_) (fun hc => ?_)
  · replace hf := x_ift hc hf
    refine x_iconst (v := 0) dJ0_isLatin1_aae02_17 (by decide) ?_
    exact x_zret dJ0_isLatin1_aae02_18 rfl (by decide) (by cases hf; exact hR)
  · replace hf := x_iff hc hf
    refine x_aload_n dJ0_isLatin1_aae02_6 rfl ?_
    refine x_scod dJ0_isLatin1_aae02_7 (by decide) w_1345 ?_
    refine x_if_ne 17 dJ0_isLatin1_aae02_10 (by decide) (fun hc => ?_) (fun hc => ?_)
    · replace hf := x_iff hc hf
      refine x_iconst (v := 0) dJ0_isLatin1_aae02_17 (by decide) ?_
      exact x_zret dJ0_isLatin1_aae02_18 rfl (by decide) (by cases hf; exact hR)
    · replace hf := x_ift hc hf
      refine x_iconst (v := 1) dJ0_isLatin1_aae02_13 (by decide) ?_
      refine x_goto 18 dJ0_isLatin1_aae02_14 (by decide) ?_
      exact x_zret dJ0_isLatin1_aae02_18 rfl (by decide) (by cases hf; exact hR)
theorem c_J0_isLatin1_aae02_i7 {E : xE} {d : Nat} (hd : 1 ≤ d) (m : xMem) (out : Int32 × xMem) (h : F_J0_isLatin1_aae02_i7 m = some out) : xCi E mJ0_isLatin1_aae02 d [.ref (xsa E 7)] m out.1 out.2 :=
  x_enterF (by decide +kernel) (Nat.le_of_ble_eq_true rfl) (pF_J0_isLatin1_aae02_i7 hd (Q := _) out ⟨rfl, rfl⟩ m h)
-- J1_charAt_3b067_i7
def F_J1_charAt_3b067_i7 (x1 : Int32) (m : xMem) : Option (Int32 × xMem) :=
  (F_J0_checkIndex_df160 (x1) ((5 : Int32)) m).bind fun q_1 => (
  if xin x1 5 = true then (
  if xnc .char ((((xsb 7 x1.toNatClampNeg) &&& (255 : Int32)).toUInt32 % 65536).toInt32) = true then (
  some ((((xsb 7 x1.toNatClampNeg) &&& (255 : Int32)).toUInt32 % 65536).toInt32, q_1.2))
  else none)
  else none)
set_option maxHeartbeats 4000000 in
set_option maxRecDepth 100000 in
theorem pF_J1_charAt_3b067_i7 {E : xE} {d : Nat} {Q : Option Value → xS → Prop} (hd : 4 ≤ d) (out : Int32 × xMem) (hR : Q (some (.int out.1)) (xf E out.2)) (x1 : Int32) (m : xMem) (hf : F_J1_charAt_3b067_i7 x1 m = some out) : xX E mJ1_charAt_3b067 d 0 0 0 0 Q 0 [(0, .ref (xsv E 7)), (1, .int (x1))] [] (xf E m) := by
  unfold F_J1_charAt_3b067_i7 at hf
  refine x_iload_n dJ1_charAt_3b067_0 rfl ?_
  refine x_aload_n dJ1_charAt_3b067_1 rfl ?_
  refine x_svlen (v := 5) dJ1_charAt_3b067_2 (by decide) (by decide) ?_
  obtain ⟨q_1, hq_1, hf⟩ := Option.bind_eq_some_iff.mp hf
  refine f_cSv mJ0_checkIndex_df160 [.int (x1), .int ((5 : Int32))] [] dJ1_charAt_3b067_3 cs_RJ1_9 w_647 rfl rfl (Nat.le_of_ble_eq_true rfl) (by omega) (c_J0_checkIndex_df160 (d := d - 1) (by omega) (x1) ((5 : Int32)) m q_1 hq_1) ?_
  refine x_aload_n dJ1_charAt_3b067_6 rfl ?_
  refine x_iload_n dJ1_charAt_3b067_7 rfl ?_
  have hg_2 := x_gd hf
  replace hf := hg_2.2
  refine x_svald dJ1_charAt_3b067_8 (by decide) rfl hg_2.1 ?_
  refine x_sipush (v := 255) dJ1_charAt_3b067_9 (by decide) ?_
  refine x_iand dJ1_charAt_3b067_12 ?_
  refine x_i2c dJ1_charAt_3b067_13 ?_
  have hg_3 := x_gd hf
  replace hf := hg_3.2
  exact x_zret dJ1_charAt_3b067_14 rfl (xnc_n hg_3.1) (by cases hf; exact hR)
theorem c_J1_charAt_3b067_i7 {E : xE} {d : Nat} (hd : 4 ≤ d) (x1 : Int32) (m : xMem) (out : Int32 × xMem) (h : F_J1_charAt_3b067_i7 x1 m = some out) : xCi E mJ1_charAt_3b067 d [.ref (xsv E 7), .int x1] m out.1 out.2 :=
  x_enterF (by decide +kernel) (Nat.le_of_ble_eq_true rfl) (pF_J1_charAt_3b067_i7 hd (Q := _) out ⟨rfl, rfl⟩ x1 m h)
-- J0_charAt_5068e_i7
def F_J0_charAt_5068e_i7 (x1 : Int32) (m : xMem) : Option (Int32 × xMem) :=
  (F_J0_isLatin1_aae02_i7 m).bind fun q_1 => (
  if q_1.1 = 0 then (
    none)
  else (
    (F_J1_charAt_3b067_i7 (x1) q_1.2).bind fun q_2 => (
    if xnc .char q_2.1 = true then (
    some (q_2.1, q_2.2))
    else none)))
set_option maxHeartbeats 4000000 in
set_option maxRecDepth 100000 in
theorem pF_J0_charAt_5068e_i7 {E : xE} {d : Nat} {Q : Option Value → xS → Prop} (hd : 5 ≤ d) (out : Int32 × xMem) (hR : Q (some (.int out.1)) (xf E out.2)) (x1 : Int32) (m : xMem) (hf : F_J0_charAt_5068e_i7 x1 m = some out) : xX E mJ0_charAt_5068e d 0 0 0 0 Q 0 [(0, .ref (xsa E 7)), (1, .int (x1))] [] (xf E m) := by
  unfold F_J0_charAt_5068e_i7 at hf
  refine x_aload_n dJ0_charAt_5068e_0 rfl ?_
  obtain ⟨q_1, hq_1, hf⟩ := Option.bind_eq_some_iff.mp hf
  refine x_callVs (k := 7) mJ0_isLatin1_aae02 [] [] dJ0_charAt_5068e_1 cs_RJ0_492 ⟨w_640, w_641⟩ (by decide) rfl rfl (Nat.le_of_ble_eq_true rfl) (by omega) (c_J0_isLatin1_aae02_i7 (d := d - 1) (by omega) m q_1 hq_1) ?_
  refine x_if_eq 16 dJ0_charAt_5068e_4 (by decide) (fun hc => ?_) (fun hc => ?_)
  · replace hf := x_ift hc hf
    cases hf
  · replace hf := x_iff hc hf
    refine x_aload_n dJ0_charAt_5068e_7 rfl ?_
    refine x_sval dJ0_charAt_5068e_8 (by decide) w_1344 ?_
    refine x_iload_n dJ0_charAt_5068e_11 rfl ?_
    obtain ⟨q_2, hq_2, hf⟩ := Option.bind_eq_some_iff.mp hf
    refine f_cSi mJ1_charAt_3b067 [.ref (xsv E 7), .int (x1)] [] dJ0_charAt_5068e_12 cs_RJ0_495 w_644 rfl rfl (Nat.le_of_ble_eq_true rfl) (by omega) (c_J1_charAt_3b067_i7 (d := d - 1) (by omega) (x1) q_1.2 q_2 hq_2) ?_
    have hg_3 := x_gd hf
    replace hf := hg_3.2
    exact x_zret dJ0_charAt_5068e_15 rfl (xnc_n hg_3.1) (by cases hf; exact hR)
theorem c_J0_charAt_5068e_i7 {E : xE} {d : Nat} (hd : 5 ≤ d) (x1 : Int32) (m : xMem) (out : Int32 × xMem) (h : F_J0_charAt_5068e_i7 x1 m = some out) : xCi E mJ0_charAt_5068e d [.ref (xsa E 7), .int x1] m out.1 out.2 :=
  x_enterF (by decide +kernel) (Nat.le_of_ble_eq_true rfl) (pF_J0_charAt_5068e_i7 hd (Q := _) out ⟨rfl, rfl⟩ x1 m h)
-- X7_spells_i7
def L_X7_spells_i7_27 (x1 : Int32) : Nat → Int32 → xMem → Option (Int32 × xMem)
  | 0, _, _ => none
  | fk + 1, x4, m =>
    (F_J0_length_8abf5_i7 m).bind fun q_2 => (
    if q_2.1 ≤ x4 then (
      some ((1 : Int32), q_2.2))
    else (
      if xin (x1 + x4) 600 = true then (
      (F_J0_charAt_5068e_i7 (x4) q_2.2).bind fun q_4 => (
      if (q_2.2.1 ag_tape_signs (x1 + x4).toNatClampNeg) = q_4.1 then (
        L_X7_spells_i7_27 (x1) fk (x4 + 1) q_4.2)
      else (
        some ((0 : Int32), q_4.2))))
      else none))
def F_X7_spells_i7 (x1 : Int32) (x2 : Int32) (m : xMem) : Option (Int32 × xMem) :=
  if x1 < 0 then (
    some ((0 : Int32), m))
  else (
    if (m.1 ag_tape fTape_length) < x2 then (
      some ((0 : Int32), m))
    else (
      (F_J0_length_8abf5_i7 m).bind fun q_1 => (
      if (x2 - x1) = q_1.1 then (
        L_X7_spells_i7_27 (x1) xfuel ((0 : Int32)) q_1.2)
      else (
        some ((0 : Int32), q_1.2)))))
set_option maxHeartbeats 4000000 in
set_option maxRecDepth 100000 in
theorem pL_X7_spells_i7_27 {E : xE} {d : Nat} {Q : Option Value → xS → Prop} (hd : 6 ≤ d) (out : Int32 × xMem) (hR : Q (some (.int out.1)) (xf E out.2)) (x1 : Int32) : ∀ (fk : Nat) (x4 : Int32) (m : xMem), L_X7_spells_i7_27 x1 fk x4 m = some out → xX E mX7_spells d 0 0 0 0 Q 27 [(0, .ref (xB E + 29)), (1, .int (x1)), (3, .ref (xsa E 7)), (4, .int (x4))] [] (xf E m) := by
  intro fk
  induction fk with
  | zero => intro x4 m hf; cases hf
  | succ fk ih =>
    intro x4 m hf
    rw [L_X7_spells_i7_27] at hf
    refine x_iload dX7_spells_27 rfl ?_
    refine x_aload_n dX7_spells_29 rfl ?_
    obtain ⟨q_2, hq_2, hf⟩ := Option.bind_eq_some_iff.mp hf
    refine x_callVs (k := 7) mJ0_length_8abf5 [] [.int (x4)] dX7_spells_30 cs_RX7_36 ⟨w_626, w_627⟩ (by decide) rfl rfl (Nat.le_of_ble_eq_true rfl) (by omega) (c_J0_length_8abf5_i7 (d := d - 1) (by omega) m q_2 hq_2) ?_
    refine x_icmp_ge 62 dX7_spells_33 (by decide) (fun hc => ?_) (fun hc => ?_)
    · replace hf := x_ift hc hf
      refine x_iconst (v := 1) dX7_spells_62 (by decide) ?_
      exact x_zret dX7_spells_63 rfl (by decide) (by cases hf; exact hR)
    · replace hf := x_iff hc hf
      refine x_aload_n dX7_spells_36 rfl ?_
      refine f_getR (b := 30) dX7_spells_37 xcl_7 (by decide) fl_RX7_9 (by decide) sh_29 rfl ?_
      refine x_iload_n dX7_spells_40 rfl ?_
      refine x_iload dX7_spells_41 rfl ?_
      refine x_iadd dX7_spells_43 ?_
      have hg_3 := x_gd hf
      replace hf := hg_3.2
      refine f_bald dX7_spells_44 (by decide) sh_30 hg_3.1 ?_
      refine x_aload_n dX7_spells_45 rfl ?_
      refine x_iload dX7_spells_46 rfl ?_
      obtain ⟨q_4, hq_4, hf⟩ := Option.bind_eq_some_iff.mp hf
      refine x_callVs (k := 7) mJ0_charAt_5068e [.int (x4)] [.int (q_2.2.1 ag_tape_signs (x1 + x4).toNatClampNeg)] dX7_spells_48 cs_RX7_41 ⟨w_636, w_637⟩ (by decide) rfl rfl (Nat.le_of_ble_eq_true rfl) (by omega) (c_J0_charAt_5068e_i7 (d := d - 1) (by omega) (x4) q_2.2 q_4 hq_4) ?_
      refine x_icmp_eq 56 dX7_spells_51 (by decide) (fun hc => ?_) (fun hc => ?_)
      · replace hf := x_ift hc hf
        refine x_iinc (v := x4 + 1) (lv' := [(0, .ref (xB E + 29)), (1, .int (x1)), (3, .ref (xsa E 7)), (4, .int (x4 + 1))]) dX7_spells_56 3 [1, 2, 3, 0] rfl rfl (by decide) rfl ?_
        refine x_goto 27 dX7_spells_59 (by decide) ?_
        exact ih _ _ hf
      · replace hf := x_iff hc hf
        refine x_iconst (v := 0) dX7_spells_54 (by decide) ?_
        exact x_zret dX7_spells_55 rfl (by decide) (by cases hf; exact hR)
set_option maxHeartbeats 4000000 in
set_option maxRecDepth 100000 in
theorem pF_X7_spells_i7 {E : xE} {d : Nat} {Q : Option Value → xS → Prop} (hd : 6 ≤ d) (out : Int32 × xMem) (hR : Q (some (.int out.1)) (xf E out.2)) (x1 : Int32) (x2 : Int32) (m : xMem) (hf : F_X7_spells_i7 x1 x2 m = some out) : xX E mX7_spells d 0 0 0 0 Q 0 [(0, .ref (xB E + 29)), (1, .int (x1)), (2, .int (x2)), (3, .ref (xsa E 7))] [] (xf E m) := by
  unfold F_X7_spells_i7 at hf
  refine x_iload_n dX7_spells_0 rfl ?_
  refine x_if_lt 22 dX7_spells_1 (by decide) (fun hc => ?_) (fun hc => ?_)
  · replace hf := x_ift hc hf
    refine x_iconst (v := 0) dX7_spells_22 (by decide) ?_
    exact x_zret dX7_spells_23 rfl (by decide) (by cases hf; exact hR)
  · replace hf := x_iff hc hf
    refine x_iload_n dX7_spells_4 rfl ?_
    refine x_aload_n dX7_spells_5 rfl ?_
    refine f_getI dX7_spells_6 xcl_7 (by decide) fl_RX7_21 (by decide) sh_29 rfl ?_
    refine x_icmp_gt 22 dX7_spells_9 (by decide) (fun hc => ?_) (fun hc => ?_)
    · replace hf := x_ift hc hf
      refine x_iconst (v := 0) dX7_spells_22 (by decide) ?_
      exact x_zret dX7_spells_23 rfl (by decide) (by cases hf; exact hR)
    · replace hf := x_iff hc hf
      refine x_iload_n dX7_spells_12 rfl ?_
      refine x_iload_n dX7_spells_13 rfl ?_
      refine x_isub dX7_spells_14 ?_
      refine x_aload_n dX7_spells_15 rfl ?_
      obtain ⟨q_1, hq_1, hf⟩ := Option.bind_eq_some_iff.mp hf
      refine x_callVs (k := 7) mJ0_length_8abf5 [] [.int (x2 - x1)] dX7_spells_16 cs_RX7_36 ⟨w_626, w_627⟩ (by decide) rfl rfl (Nat.le_of_ble_eq_true rfl) (by omega) (c_J0_length_8abf5_i7 (d := d - 1) (by omega) m q_1 hq_1) ?_
      refine x_icmp_eq 24 dX7_spells_19 (by decide) (fun hc => ?_) (fun hc => ?_)
      · replace hf := x_ift hc hf
        refine x_iconst (v := 0) dX7_spells_24 (by decide) ?_
        refine x_istore (lv' := [(0, .ref (xB E + 29)), (1, .int (x1)), (3, .ref (xsa E 7)), (4, .int ((0 : Int32)))]) dX7_spells_25 [1, 2, 4, 0] (by decide) rfl ?_
        refine pL_X7_spells_i7_27 hd out hR _ xfuel _ _ hf
      · replace hf := x_iff hc hf
        refine x_iconst (v := 0) dX7_spells_22 (by decide) ?_
        exact x_zret dX7_spells_23 rfl (by decide) (by cases hf; exact hR)
theorem c_X7_spells_i7 {E : xE} {d : Nat} (hd : 6 ≤ d) (x1 : Int32) (x2 : Int32) (m : xMem) (out : Int32 × xMem) (h : F_X7_spells_i7 x1 x2 m = some out) : xCi E mX7_spells d [.ref (xB E + 29), .int x1, .int x2, .ref (xsa E 7)] m out.1 out.2 :=
  x_enter (by decide +kernel) (Nat.le_of_ble_eq_true rfl) (pF_X7_spells_i7 hd (Q := _) out ⟨rfl, rfl⟩ x1 x2 m h)
-- J0_coder_7d493_i8
def F_J0_coder_7d493_i8 (m : xMem) : Option (Int32 × xMem) :=
  if (1 : Int32) = 0 then (
    some ((1 : Int32), m))
  else (
    some ((0 : Int32), m))
set_option maxHeartbeats 4000000 in
set_option maxRecDepth 100000 in
theorem pF_J0_coder_7d493_i8 {E : xE} {d : Nat} {Q : Option Value → xS → Prop} (hd : 1 ≤ d) (out : Int32 × xMem) (hR : Q (some (.int out.1)) (xf E out.2)) (m : xMem) (hf : F_J0_coder_7d493_i8 m = some out) : xX E mJ0_coder_7d493 d 0 0 0 0 Q 0 [(0, .ref (xsa E 8))] [] (xf E m) := by
  unfold F_J0_coder_7d493_i8 at hf
  refine x_getsC dJ0_coder_7d493_0 w_633 ?_
  refine x_if_eq 13 dJ0_coder_7d493_3 (by decide) (fun hc => ?_) (fun hc => ?_)
  · replace hf := x_ift hc hf
    refine x_iconst (v := 1) dJ0_coder_7d493_13 (by decide) ?_
    exact x_zret dJ0_coder_7d493_14 rfl (by decide) (by cases hf; exact hR)
  · replace hf := x_iff hc hf
    refine x_aload_n dJ0_coder_7d493_6 rfl ?_
    refine x_scod dJ0_coder_7d493_7 (by decide) w_1345 ?_
    refine x_goto 14 dJ0_coder_7d493_10 (by decide) ?_
    exact x_zret dJ0_coder_7d493_14 rfl (by decide) (by cases hf; exact hR)
theorem c_J0_coder_7d493_i8 {E : xE} {d : Nat} (hd : 1 ≤ d) (m : xMem) (out : Int32 × xMem) (h : F_J0_coder_7d493_i8 m = some out) : xCi E mJ0_coder_7d493 d [.ref (xsa E 8)] m out.1 out.2 :=
  x_enterF (by decide +kernel) (Nat.le_of_ble_eq_true rfl) (pF_J0_coder_7d493_i8 hd (Q := _) out ⟨rfl, rfl⟩ m h)
-- J0_length_8abf5_i8
def F_J0_length_8abf5_i8 (m : xMem) : Option (Int32 × xMem) :=
  (F_J0_coder_7d493_i8 m).bind fun q_1 => (
  some ((4 : Int32) >>> (q_1.1 &&& 31), q_1.2))
set_option maxHeartbeats 4000000 in
set_option maxRecDepth 100000 in
theorem pF_J0_length_8abf5_i8 {E : xE} {d : Nat} {Q : Option Value → xS → Prop} (hd : 2 ≤ d) (out : Int32 × xMem) (hR : Q (some (.int out.1)) (xf E out.2)) (m : xMem) (hf : F_J0_length_8abf5_i8 m = some out) : xX E mJ0_length_8abf5 d 0 0 0 0 Q 0 [(0, .ref (xsa E 8))] [] (xf E m) := by
  unfold F_J0_length_8abf5_i8 at hf
  refine x_aload_n dJ0_length_8abf5_0 rfl ?_
  refine x_sval dJ0_length_8abf5_1 (by decide) w_1344 ?_
  refine x_svlen (v := 4) dJ0_length_8abf5_4 (by decide) (by decide) ?_
  refine x_aload_n dJ0_length_8abf5_5 rfl ?_
  obtain ⟨q_1, hq_1, hf⟩ := Option.bind_eq_some_iff.mp hf
  refine x_callVs (k := 8) mJ0_coder_7d493 [] [.int ((4 : Int32))] dJ0_length_8abf5_6 cs_RJ0_335 ⟨w_630, w_631⟩ (by decide) rfl rfl (Nat.le_of_ble_eq_true rfl) (by omega) (c_J0_coder_7d493_i8 (d := d - 1) (by omega) m q_1 hq_1) ?_
  refine x_ishr dJ0_length_8abf5_9 ?_
  exact x_iret dJ0_length_8abf5_10 rfl (by cases hf; exact hR)
theorem c_J0_length_8abf5_i8 {E : xE} {d : Nat} (hd : 2 ≤ d) (m : xMem) (out : Int32 × xMem) (h : F_J0_length_8abf5_i8 m = some out) : xCi E mJ0_length_8abf5 d [.ref (xsa E 8)] m out.1 out.2 :=
  x_enterF (by decide +kernel) (Nat.le_of_ble_eq_true rfl) (pF_J0_length_8abf5_i8 hd (Q := _) out ⟨rfl, rfl⟩ m h)
-- J0_isLatin1_aae02_i8
def F_J0_isLatin1_aae02_i8 (m : xMem) : Option (Int32 × xMem) :=
  if (1 : Int32) = 0 then (
    some ((0 : Int32), m))
  else (
    if (0 : Int32) = 0 then (
      some ((1 : Int32), m))
    else (
      some ((0 : Int32), m)))
set_option maxHeartbeats 4000000 in
set_option maxRecDepth 100000 in
theorem pF_J0_isLatin1_aae02_i8 {E : xE} {d : Nat} {Q : Option Value → xS → Prop} (hd : 1 ≤ d) (out : Int32 × xMem) (hR : Q (some (.int out.1)) (xf E out.2)) (m : xMem) (hf : F_J0_isLatin1_aae02_i8 m = some out) : xX E mJ0_isLatin1_aae02 d 0 0 0 0 Q 0 [(0, .ref (xsa E 8))] [] (xf E m) := by
  unfold F_J0_isLatin1_aae02_i8 at hf
  refine x_getsC dJ0_isLatin1_aae02_0 w_633 ?_
  refine x_if_eq 17 dJ0_isLatin1_aae02_3 (by decide) (fun hc => ?_) (fun hc => ?_)
  · replace hf := x_ift hc hf
    refine x_iconst (v := 0) dJ0_isLatin1_aae02_17 (by decide) ?_
    exact x_zret dJ0_isLatin1_aae02_18 rfl (by decide) (by cases hf; exact hR)
  · replace hf := x_iff hc hf
    refine x_aload_n dJ0_isLatin1_aae02_6 rfl ?_
    refine x_scod dJ0_isLatin1_aae02_7 (by decide) w_1345 ?_
    refine x_if_ne 17 dJ0_isLatin1_aae02_10 (by decide) (fun hc => ?_) (fun hc => ?_)
    · replace hf := x_iff hc hf
      refine x_iconst (v := 0) dJ0_isLatin1_aae02_17 (by decide) ?_
      exact x_zret dJ0_isLatin1_aae02_18 rfl (by decide) (by cases hf; exact hR)
    · replace hf := x_ift hc hf
      refine x_iconst (v := 1) dJ0_isLatin1_aae02_13 (by decide) ?_
      refine x_goto 18 dJ0_isLatin1_aae02_14 (by decide) ?_
      exact x_zret dJ0_isLatin1_aae02_18 rfl (by decide) (by cases hf; exact hR)
theorem c_J0_isLatin1_aae02_i8 {E : xE} {d : Nat} (hd : 1 ≤ d) (m : xMem) (out : Int32 × xMem) (h : F_J0_isLatin1_aae02_i8 m = some out) : xCi E mJ0_isLatin1_aae02 d [.ref (xsa E 8)] m out.1 out.2 :=
  x_enterF (by decide +kernel) (Nat.le_of_ble_eq_true rfl) (pF_J0_isLatin1_aae02_i8 hd (Q := _) out ⟨rfl, rfl⟩ m h)
-- J1_charAt_3b067_i8
def F_J1_charAt_3b067_i8 (x1 : Int32) (m : xMem) : Option (Int32 × xMem) :=
  (F_J0_checkIndex_df160 (x1) ((4 : Int32)) m).bind fun q_1 => (
  if xin x1 4 = true then (
  if xnc .char ((((xsb 8 x1.toNatClampNeg) &&& (255 : Int32)).toUInt32 % 65536).toInt32) = true then (
  some ((((xsb 8 x1.toNatClampNeg) &&& (255 : Int32)).toUInt32 % 65536).toInt32, q_1.2))
  else none)
  else none)
set_option maxHeartbeats 4000000 in
set_option maxRecDepth 100000 in
theorem pF_J1_charAt_3b067_i8 {E : xE} {d : Nat} {Q : Option Value → xS → Prop} (hd : 4 ≤ d) (out : Int32 × xMem) (hR : Q (some (.int out.1)) (xf E out.2)) (x1 : Int32) (m : xMem) (hf : F_J1_charAt_3b067_i8 x1 m = some out) : xX E mJ1_charAt_3b067 d 0 0 0 0 Q 0 [(0, .ref (xsv E 8)), (1, .int (x1))] [] (xf E m) := by
  unfold F_J1_charAt_3b067_i8 at hf
  refine x_iload_n dJ1_charAt_3b067_0 rfl ?_
  refine x_aload_n dJ1_charAt_3b067_1 rfl ?_
  refine x_svlen (v := 4) dJ1_charAt_3b067_2 (by decide) (by decide) ?_
  obtain ⟨q_1, hq_1, hf⟩ := Option.bind_eq_some_iff.mp hf
  refine f_cSv mJ0_checkIndex_df160 [.int (x1), .int ((4 : Int32))] [] dJ1_charAt_3b067_3 cs_RJ1_9 w_647 rfl rfl (Nat.le_of_ble_eq_true rfl) (by omega) (c_J0_checkIndex_df160 (d := d - 1) (by omega) (x1) ((4 : Int32)) m q_1 hq_1) ?_
  refine x_aload_n dJ1_charAt_3b067_6 rfl ?_
  refine x_iload_n dJ1_charAt_3b067_7 rfl ?_
  have hg_2 := x_gd hf
  replace hf := hg_2.2
  refine x_svald dJ1_charAt_3b067_8 (by decide) rfl hg_2.1 ?_
  refine x_sipush (v := 255) dJ1_charAt_3b067_9 (by decide) ?_
  refine x_iand dJ1_charAt_3b067_12 ?_
  refine x_i2c dJ1_charAt_3b067_13 ?_
  have hg_3 := x_gd hf
  replace hf := hg_3.2
  exact x_zret dJ1_charAt_3b067_14 rfl (xnc_n hg_3.1) (by cases hf; exact hR)
theorem c_J1_charAt_3b067_i8 {E : xE} {d : Nat} (hd : 4 ≤ d) (x1 : Int32) (m : xMem) (out : Int32 × xMem) (h : F_J1_charAt_3b067_i8 x1 m = some out) : xCi E mJ1_charAt_3b067 d [.ref (xsv E 8), .int x1] m out.1 out.2 :=
  x_enterF (by decide +kernel) (Nat.le_of_ble_eq_true rfl) (pF_J1_charAt_3b067_i8 hd (Q := _) out ⟨rfl, rfl⟩ x1 m h)
-- J0_charAt_5068e_i8
def F_J0_charAt_5068e_i8 (x1 : Int32) (m : xMem) : Option (Int32 × xMem) :=
  (F_J0_isLatin1_aae02_i8 m).bind fun q_1 => (
  if q_1.1 = 0 then (
    none)
  else (
    (F_J1_charAt_3b067_i8 (x1) q_1.2).bind fun q_2 => (
    if xnc .char q_2.1 = true then (
    some (q_2.1, q_2.2))
    else none)))
set_option maxHeartbeats 4000000 in
set_option maxRecDepth 100000 in
theorem pF_J0_charAt_5068e_i8 {E : xE} {d : Nat} {Q : Option Value → xS → Prop} (hd : 5 ≤ d) (out : Int32 × xMem) (hR : Q (some (.int out.1)) (xf E out.2)) (x1 : Int32) (m : xMem) (hf : F_J0_charAt_5068e_i8 x1 m = some out) : xX E mJ0_charAt_5068e d 0 0 0 0 Q 0 [(0, .ref (xsa E 8)), (1, .int (x1))] [] (xf E m) := by
  unfold F_J0_charAt_5068e_i8 at hf
  refine x_aload_n dJ0_charAt_5068e_0 rfl ?_
  obtain ⟨q_1, hq_1, hf⟩ := Option.bind_eq_some_iff.mp hf
  refine x_callVs (k := 8) mJ0_isLatin1_aae02 [] [] dJ0_charAt_5068e_1 cs_RJ0_492 ⟨w_640, w_641⟩ (by decide) rfl rfl (Nat.le_of_ble_eq_true rfl) (by omega) (c_J0_isLatin1_aae02_i8 (d := d - 1) (by omega) m q_1 hq_1) ?_
  refine x_if_eq 16 dJ0_charAt_5068e_4 (by decide) (fun hc => ?_) (fun hc => ?_)
  · replace hf := x_ift hc hf
    cases hf
  · replace hf := x_iff hc hf
    refine x_aload_n dJ0_charAt_5068e_7 rfl ?_
    refine x_sval dJ0_charAt_5068e_8 (by decide) w_1344 ?_
    refine x_iload_n dJ0_charAt_5068e_11 rfl ?_
    obtain ⟨q_2, hq_2, hf⟩ := Option.bind_eq_some_iff.mp hf
    refine f_cSi mJ1_charAt_3b067 [.ref (xsv E 8), .int (x1)] [] dJ0_charAt_5068e_12 cs_RJ0_495 w_644 rfl rfl (Nat.le_of_ble_eq_true rfl) (by omega) (c_J1_charAt_3b067_i8 (d := d - 1) (by omega) (x1) q_1.2 q_2 hq_2) ?_
    have hg_3 := x_gd hf
    replace hf := hg_3.2
    exact x_zret dJ0_charAt_5068e_15 rfl (xnc_n hg_3.1) (by cases hf; exact hR)
theorem c_J0_charAt_5068e_i8 {E : xE} {d : Nat} (hd : 5 ≤ d) (x1 : Int32) (m : xMem) (out : Int32 × xMem) (h : F_J0_charAt_5068e_i8 x1 m = some out) : xCi E mJ0_charAt_5068e d [.ref (xsa E 8), .int x1] m out.1 out.2 :=
  x_enterF (by decide +kernel) (Nat.le_of_ble_eq_true rfl) (pF_J0_charAt_5068e_i8 hd (Q := _) out ⟨rfl, rfl⟩ x1 m h)
-- X7_spells_i8
def L_X7_spells_i8_27 (x1 : Int32) : Nat → Int32 → xMem → Option (Int32 × xMem)
  | 0, _, _ => none
  | fk + 1, x4, m =>
    (F_J0_length_8abf5_i8 m).bind fun q_2 => (
    if q_2.1 ≤ x4 then (
      some ((1 : Int32), q_2.2))
    else (
      if xin (x1 + x4) 600 = true then (
      (F_J0_charAt_5068e_i8 (x4) q_2.2).bind fun q_4 => (
      if (q_2.2.1 ag_tape_signs (x1 + x4).toNatClampNeg) = q_4.1 then (
        L_X7_spells_i8_27 (x1) fk (x4 + 1) q_4.2)
      else (
        some ((0 : Int32), q_4.2))))
      else none))
def F_X7_spells_i8 (x1 : Int32) (x2 : Int32) (m : xMem) : Option (Int32 × xMem) :=
  if x1 < 0 then (
    some ((0 : Int32), m))
  else (
    if (m.1 ag_tape fTape_length) < x2 then (
      some ((0 : Int32), m))
    else (
      (F_J0_length_8abf5_i8 m).bind fun q_1 => (
      if (x2 - x1) = q_1.1 then (
        L_X7_spells_i8_27 (x1) xfuel ((0 : Int32)) q_1.2)
      else (
        some ((0 : Int32), q_1.2)))))
set_option maxHeartbeats 4000000 in
set_option maxRecDepth 100000 in
theorem pL_X7_spells_i8_27 {E : xE} {d : Nat} {Q : Option Value → xS → Prop} (hd : 6 ≤ d) (out : Int32 × xMem) (hR : Q (some (.int out.1)) (xf E out.2)) (x1 : Int32) : ∀ (fk : Nat) (x4 : Int32) (m : xMem), L_X7_spells_i8_27 x1 fk x4 m = some out → xX E mX7_spells d 0 0 0 0 Q 27 [(0, .ref (xB E + 29)), (1, .int (x1)), (3, .ref (xsa E 8)), (4, .int (x4))] [] (xf E m) := by
  intro fk
  induction fk with
  | zero => intro x4 m hf; cases hf
  | succ fk ih =>
    intro x4 m hf
    rw [L_X7_spells_i8_27] at hf
    refine x_iload dX7_spells_27 rfl ?_
    refine x_aload_n dX7_spells_29 rfl ?_
    obtain ⟨q_2, hq_2, hf⟩ := Option.bind_eq_some_iff.mp hf
    refine x_callVs (k := 8) mJ0_length_8abf5 [] [.int (x4)] dX7_spells_30 cs_RX7_36 ⟨w_626, w_627⟩ (by decide) rfl rfl (Nat.le_of_ble_eq_true rfl) (by omega) (c_J0_length_8abf5_i8 (d := d - 1) (by omega) m q_2 hq_2) ?_
    refine x_icmp_ge 62 dX7_spells_33 (by decide) (fun hc => ?_) (fun hc => ?_)
    · replace hf := x_ift hc hf
      refine x_iconst (v := 1) dX7_spells_62 (by decide) ?_
      exact x_zret dX7_spells_63 rfl (by decide) (by cases hf; exact hR)
    · replace hf := x_iff hc hf
      refine x_aload_n dX7_spells_36 rfl ?_
      refine f_getR (b := 30) dX7_spells_37 xcl_7 (by decide) fl_RX7_9 (by decide) sh_29 rfl ?_
      refine x_iload_n dX7_spells_40 rfl ?_
      refine x_iload dX7_spells_41 rfl ?_
      refine x_iadd dX7_spells_43 ?_
      have hg_3 := x_gd hf
      replace hf := hg_3.2
      refine f_bald dX7_spells_44 (by decide) sh_30 hg_3.1 ?_
      refine x_aload_n dX7_spells_45 rfl ?_
      refine x_iload dX7_spells_46 rfl ?_
      obtain ⟨q_4, hq_4, hf⟩ := Option.bind_eq_some_iff.mp hf
      refine x_callVs (k := 8) mJ0_charAt_5068e [.int (x4)] [.int (q_2.2.1 ag_tape_signs (x1 + x4).toNatClampNeg)] dX7_spells_48 cs_RX7_41 ⟨w_636, w_637⟩ (by decide) rfl rfl (Nat.le_of_ble_eq_true rfl) (by omega) (c_J0_charAt_5068e_i8 (d := d - 1) (by omega) (x4) q_2.2 q_4 hq_4) ?_
      refine x_icmp_eq 56 dX7_spells_51 (by decide) (fun hc => ?_) (fun hc => ?_)
      · replace hf := x_ift hc hf
        refine x_iinc (v := x4 + 1) (lv' := [(0, .ref (xB E + 29)), (1, .int (x1)), (3, .ref (xsa E 8)), (4, .int (x4 + 1))]) dX7_spells_56 3 [1, 2, 3, 0] rfl rfl (by decide) rfl ?_
        refine x_goto 27 dX7_spells_59 (by decide) ?_
        exact ih _ _ hf
      · replace hf := x_iff hc hf
        refine x_iconst (v := 0) dX7_spells_54 (by decide) ?_
        exact x_zret dX7_spells_55 rfl (by decide) (by cases hf; exact hR)
set_option maxHeartbeats 4000000 in
set_option maxRecDepth 100000 in
theorem pF_X7_spells_i8 {E : xE} {d : Nat} {Q : Option Value → xS → Prop} (hd : 6 ≤ d) (out : Int32 × xMem) (hR : Q (some (.int out.1)) (xf E out.2)) (x1 : Int32) (x2 : Int32) (m : xMem) (hf : F_X7_spells_i8 x1 x2 m = some out) : xX E mX7_spells d 0 0 0 0 Q 0 [(0, .ref (xB E + 29)), (1, .int (x1)), (2, .int (x2)), (3, .ref (xsa E 8))] [] (xf E m) := by
  unfold F_X7_spells_i8 at hf
  refine x_iload_n dX7_spells_0 rfl ?_
  refine x_if_lt 22 dX7_spells_1 (by decide) (fun hc => ?_) (fun hc => ?_)
  · replace hf := x_ift hc hf
    refine x_iconst (v := 0) dX7_spells_22 (by decide) ?_
    exact x_zret dX7_spells_23 rfl (by decide) (by cases hf; exact hR)
  · replace hf := x_iff hc hf
    refine x_iload_n dX7_spells_4 rfl ?_
    refine x_aload_n dX7_spells_5 rfl ?_
    refine f_getI dX7_spells_6 xcl_7 (by decide) fl_RX7_21 (by decide) sh_29 rfl ?_
    refine x_icmp_gt 22 dX7_spells_9 (by decide) (fun hc => ?_) (fun hc => ?_)
    · replace hf := x_ift hc hf
      refine x_iconst (v := 0) dX7_spells_22 (by decide) ?_
      exact x_zret dX7_spells_23 rfl (by decide) (by cases hf; exact hR)
    · replace hf := x_iff hc hf
      refine x_iload_n dX7_spells_12 rfl ?_
      refine x_iload_n dX7_spells_13 rfl ?_
      refine x_isub dX7_spells_14 ?_
      refine x_aload_n dX7_spells_15 rfl ?_
      obtain ⟨q_1, hq_1, hf⟩ := Option.bind_eq_some_iff.mp hf
      refine x_callVs (k := 8) mJ0_length_8abf5 [] [.int (x2 - x1)] dX7_spells_16 cs_RX7_36 ⟨w_626, w_627⟩ (by decide) rfl rfl (Nat.le_of_ble_eq_true rfl) (by omega) (c_J0_length_8abf5_i8 (d := d - 1) (by omega) m q_1 hq_1) ?_
      refine x_icmp_eq 24 dX7_spells_19 (by decide) (fun hc => ?_) (fun hc => ?_)
      · replace hf := x_ift hc hf
        refine x_iconst (v := 0) dX7_spells_24 (by decide) ?_
        refine x_istore (lv' := [(0, .ref (xB E + 29)), (1, .int (x1)), (3, .ref (xsa E 8)), (4, .int ((0 : Int32)))]) dX7_spells_25 [1, 2, 4, 0] (by decide) rfl ?_
        refine pL_X7_spells_i8_27 hd out hR _ xfuel _ _ hf
      · replace hf := x_iff hc hf
        refine x_iconst (v := 0) dX7_spells_22 (by decide) ?_
        exact x_zret dX7_spells_23 rfl (by decide) (by cases hf; exact hR)
theorem c_X7_spells_i8 {E : xE} {d : Nat} (hd : 6 ≤ d) (x1 : Int32) (x2 : Int32) (m : xMem) (out : Int32 × xMem) (h : F_X7_spells_i8 x1 x2 m = some out) : xCi E mX7_spells d [.ref (xB E + 29), .int x1, .int x2, .ref (xsa E 8)] m out.1 out.2 :=
  x_enter (by decide +kernel) (Nat.le_of_ble_eq_true rfl) (pF_X7_spells_i8 hd (Q := _) out ⟨rfl, rfl⟩ x1 x2 m h)
-- X8_wordToken
def F_X8_wordToken (x1 : Int32) (x2 : Int32) (m : xMem) : Option (Int32 × xMem) :=
  (F_X7_spells (x1) (x2) m).bind fun q_1 => (
  if q_1.1 = 0 then (
    (F_X7_spells_i1 (x1) (x2) q_1.2).bind fun q_2 => (
    if q_2.1 = 0 then (
      (F_X7_spells_i2 (x1) (x2) q_2.2).bind fun q_3 => (
      if q_3.1 = 0 then (
        (F_X7_spells_i3 (x1) (x2) q_3.2).bind fun q_4 => (
        if q_4.1 = 0 then (
          (F_X7_spells_i4 (x1) (x2) q_4.2).bind fun q_5 => (
          if q_5.1 = 0 then (
            (F_X7_spells_i5 (x1) (x2) q_5.2).bind fun q_6 => (
            if q_6.1 = 0 then (
              (F_X7_spells_i6 (x1) (x2) q_6.2).bind fun q_7 => (
              if q_7.1 = 0 then (
                (F_X7_spells_i7 (x1) (x2) q_7.2).bind fun q_8 => (
                if q_8.1 = 0 then (
                  (F_X7_spells_i8 (x1) (x2) q_8.2).bind fun q_9 => (
                  if q_9.1 = 0 then (
                    some ((1 : Int32), q_9.2))
                  else (
                    some ((209 : Int32), q_9.2))))
                else (
                  some ((208 : Int32), q_8.2))))
              else (
                some ((207 : Int32), q_7.2))))
            else (
              some ((206 : Int32), q_6.2))))
          else (
            some ((205 : Int32), q_5.2))))
        else (
          some ((204 : Int32), q_4.2))))
      else (
        some ((203 : Int32), q_3.2))))
    else (
      some ((202 : Int32), q_2.2))))
  else (
    some ((201 : Int32), q_1.2)))
set_option maxHeartbeats 4000000 in
set_option maxRecDepth 100000 in
theorem pF_X8_wordToken {E : xE} {d : Nat} {Q : Option Value → xS → Prop} (hd : 7 ≤ d) (out : Int32 × xMem) (hR : Q (some (.int out.1)) (xf E out.2)) (x1 : Int32) (x2 : Int32) (m : xMem) (hf : F_X8_wordToken x1 x2 m = some out) : xX E mX8_wordToken d 0 0 0 0 Q 0 [(0, .ref (xB E + 29)), (1, .int (x1)), (2, .int (x2))] [] (xf E m) := by
  unfold F_X8_wordToken at hf
  refine x_aload_n dX8_wordToken_0 rfl ?_
  refine x_iload_n dX8_wordToken_1 rfl ?_
  refine x_iload_n dX8_wordToken_2 rfl ?_
  refine x_ldcS (k := 0) dX8_wordToken_3 (by decide) rfl rfl ?_
  obtain ⟨q_1, hq_1, hf⟩ := Option.bind_eq_some_iff.mp hf
  refine f_cVi mX7_spells [.int (x1), .int (x2), .ref (xsa E 0)] [] dX8_wordToken_5 cs_RX8_76 ⟨w_623, w_31⟩ (ci := 7) rfl (by decide) sh_29 rfl rfl (Nat.le_of_ble_eq_true rfl) (by omega) (c_X7_spells (d := d - 1) (by omega) (x1) (x2) m q_1 hq_1) ?_
  refine x_if_eq 15 dX8_wordToken_8 (by decide) (fun hc => ?_) (fun hc => ?_)
  · replace hf := x_ift hc hf
    refine x_aload_n dX8_wordToken_15 rfl ?_
    refine x_iload_n dX8_wordToken_16 rfl ?_
    refine x_iload_n dX8_wordToken_17 rfl ?_
    refine x_ldcS (k := 1) dX8_wordToken_18 (by decide) rfl rfl ?_
    obtain ⟨q_2, hq_2, hf⟩ := Option.bind_eq_some_iff.mp hf
    refine f_cVi mX7_spells [.int (x1), .int (x2), .ref (xsa E 1)] [] dX8_wordToken_20 cs_RX8_76 ⟨w_623, w_31⟩ (ci := 7) rfl (by decide) sh_29 rfl rfl (Nat.le_of_ble_eq_true rfl) (by omega) (c_X7_spells_i1 (d := d - 1) (by omega) (x1) (x2) q_1.2 q_2 hq_2) ?_
    refine x_if_eq 30 dX8_wordToken_23 (by decide) (fun hc => ?_) (fun hc => ?_)
    · replace hf := x_ift hc hf
      refine x_aload_n dX8_wordToken_30 rfl ?_
      refine x_iload_n dX8_wordToken_31 rfl ?_
      refine x_iload_n dX8_wordToken_32 rfl ?_
      refine x_ldcS (k := 2) dX8_wordToken_33 (by decide) rfl rfl ?_
      obtain ⟨q_3, hq_3, hf⟩ := Option.bind_eq_some_iff.mp hf
      refine f_cVi mX7_spells [.int (x1), .int (x2), .ref (xsa E 2)] [] dX8_wordToken_35 cs_RX8_76 ⟨w_623, w_31⟩ (ci := 7) rfl (by decide) sh_29 rfl rfl (Nat.le_of_ble_eq_true rfl) (by omega) (c_X7_spells_i2 (d := d - 1) (by omega) (x1) (x2) q_2.2 q_3 hq_3) ?_
      refine x_if_eq 45 dX8_wordToken_38 (by decide) (fun hc => ?_) (fun hc => ?_)
      · replace hf := x_ift hc hf
        refine x_aload_n dX8_wordToken_45 rfl ?_
        refine x_iload_n dX8_wordToken_46 rfl ?_
        refine x_iload_n dX8_wordToken_47 rfl ?_
        refine x_ldcS (k := 3) dX8_wordToken_48 (by decide) rfl rfl ?_
        obtain ⟨q_4, hq_4, hf⟩ := Option.bind_eq_some_iff.mp hf
        refine f_cVi mX7_spells [.int (x1), .int (x2), .ref (xsa E 3)] [] dX8_wordToken_50 cs_RX8_76 ⟨w_623, w_31⟩ (ci := 7) rfl (by decide) sh_29 rfl rfl (Nat.le_of_ble_eq_true rfl) (by omega) (c_X7_spells_i3 (d := d - 1) (by omega) (x1) (x2) q_3.2 q_4 hq_4) ?_
        refine x_if_eq 60 dX8_wordToken_53 (by decide) (fun hc => ?_) (fun hc => ?_)
        · replace hf := x_ift hc hf
          refine x_aload_n dX8_wordToken_60 rfl ?_
          refine x_iload_n dX8_wordToken_61 rfl ?_
          refine x_iload_n dX8_wordToken_62 rfl ?_
          refine x_ldcS (k := 4) dX8_wordToken_63 (by decide) rfl rfl ?_
          obtain ⟨q_5, hq_5, hf⟩ := Option.bind_eq_some_iff.mp hf
          refine f_cVi mX7_spells [.int (x1), .int (x2), .ref (xsa E 4)] [] dX8_wordToken_65 cs_RX8_76 ⟨w_623, w_31⟩ (ci := 7) rfl (by decide) sh_29 rfl rfl (Nat.le_of_ble_eq_true rfl) (by omega) (c_X7_spells_i4 (d := d - 1) (by omega) (x1) (x2) q_4.2 q_5 hq_5) ?_
          refine x_if_eq 75 dX8_wordToken_68 (by decide) (fun hc => ?_) (fun hc => ?_)
          · replace hf := x_ift hc hf
            refine x_aload_n dX8_wordToken_75 rfl ?_
            refine x_iload_n dX8_wordToken_76 rfl ?_
            refine x_iload_n dX8_wordToken_77 rfl ?_
            refine x_ldcS (k := 5) dX8_wordToken_78 (by decide) rfl rfl ?_
            obtain ⟨q_6, hq_6, hf⟩ := Option.bind_eq_some_iff.mp hf
            refine f_cVi mX7_spells [.int (x1), .int (x2), .ref (xsa E 5)] [] dX8_wordToken_80 cs_RX8_76 ⟨w_623, w_31⟩ (ci := 7) rfl (by decide) sh_29 rfl rfl (Nat.le_of_ble_eq_true rfl) (by omega) (c_X7_spells_i5 (d := d - 1) (by omega) (x1) (x2) q_5.2 q_6 hq_6) ?_
            refine x_if_eq 90 dX8_wordToken_83 (by decide) (fun hc => ?_) (fun hc => ?_)
            · replace hf := x_ift hc hf
              refine x_aload_n dX8_wordToken_90 rfl ?_
              refine x_iload_n dX8_wordToken_91 rfl ?_
              refine x_iload_n dX8_wordToken_92 rfl ?_
              refine x_ldcS (k := 6) dX8_wordToken_93 (by decide) rfl rfl ?_
              obtain ⟨q_7, hq_7, hf⟩ := Option.bind_eq_some_iff.mp hf
              refine f_cVi mX7_spells [.int (x1), .int (x2), .ref (xsa E 6)] [] dX8_wordToken_95 cs_RX8_76 ⟨w_623, w_31⟩ (ci := 7) rfl (by decide) sh_29 rfl rfl (Nat.le_of_ble_eq_true rfl) (by omega) (c_X7_spells_i6 (d := d - 1) (by omega) (x1) (x2) q_6.2 q_7 hq_7) ?_
              refine x_if_eq 105 dX8_wordToken_98 (by decide) (fun hc => ?_) (fun hc => ?_)
              · replace hf := x_ift hc hf
                refine x_aload_n dX8_wordToken_105 rfl ?_
                refine x_iload_n dX8_wordToken_106 rfl ?_
                refine x_iload_n dX8_wordToken_107 rfl ?_
                refine x_ldcS (k := 7) dX8_wordToken_108 (by decide) rfl rfl ?_
                obtain ⟨q_8, hq_8, hf⟩ := Option.bind_eq_some_iff.mp hf
                refine f_cVi mX7_spells [.int (x1), .int (x2), .ref (xsa E 7)] [] dX8_wordToken_110 cs_RX8_76 ⟨w_623, w_31⟩ (ci := 7) rfl (by decide) sh_29 rfl rfl (Nat.le_of_ble_eq_true rfl) (by omega) (c_X7_spells_i7 (d := d - 1) (by omega) (x1) (x2) q_7.2 q_8 hq_8) ?_
                refine x_if_eq 120 dX8_wordToken_113 (by decide) (fun hc => ?_) (fun hc => ?_)
                · replace hf := x_ift hc hf
                  refine x_aload_n dX8_wordToken_120 rfl ?_
                  refine x_iload_n dX8_wordToken_121 rfl ?_
                  refine x_iload_n dX8_wordToken_122 rfl ?_
                  refine x_ldcS (k := 8) dX8_wordToken_123 (by decide) rfl rfl ?_
                  obtain ⟨q_9, hq_9, hf⟩ := Option.bind_eq_some_iff.mp hf
                  refine f_cVi mX7_spells [.int (x1), .int (x2), .ref (xsa E 8)] [] dX8_wordToken_125 cs_RX8_76 ⟨w_623, w_31⟩ (ci := 7) rfl (by decide) sh_29 rfl rfl (Nat.le_of_ble_eq_true rfl) (by omega) (c_X7_spells_i8 (d := d - 1) (by omega) (x1) (x2) q_8.2 q_9 hq_9) ?_
                  refine x_if_eq 137 dX8_wordToken_128 (by decide) (fun hc => ?_) (fun hc => ?_)
                  · replace hf := x_ift hc hf
                    refine x_iconst (v := 1) dX8_wordToken_137 (by decide) ?_
                    exact x_iret dX8_wordToken_138 rfl (by cases hf; exact hR)
                  · replace hf := x_iff hc hf
                    refine x_sipush (v := 209) dX8_wordToken_131 (by decide) ?_
                    refine x_goto 138 dX8_wordToken_134 (by decide) ?_
                    exact x_iret dX8_wordToken_138 rfl (by cases hf; exact hR)
                · replace hf := x_iff hc hf
                  refine x_sipush (v := 208) dX8_wordToken_116 (by decide) ?_
                  exact x_iret dX8_wordToken_119 rfl (by cases hf; exact hR)
              · replace hf := x_iff hc hf
                refine x_sipush (v := 207) dX8_wordToken_101 (by decide) ?_
                exact x_iret dX8_wordToken_104 rfl (by cases hf; exact hR)
            · replace hf := x_iff hc hf
              refine x_sipush (v := 206) dX8_wordToken_86 (by decide) ?_
              exact x_iret dX8_wordToken_89 rfl (by cases hf; exact hR)
          · replace hf := x_iff hc hf
            refine x_sipush (v := 205) dX8_wordToken_71 (by decide) ?_
            exact x_iret dX8_wordToken_74 rfl (by cases hf; exact hR)
        · replace hf := x_iff hc hf
          refine x_sipush (v := 204) dX8_wordToken_56 (by decide) ?_
          exact x_iret dX8_wordToken_59 rfl (by cases hf; exact hR)
      · replace hf := x_iff hc hf
        refine x_sipush (v := 203) dX8_wordToken_41 (by decide) ?_
        exact x_iret dX8_wordToken_44 rfl (by cases hf; exact hR)
    · replace hf := x_iff hc hf
      refine x_sipush (v := 202) dX8_wordToken_26 (by decide) ?_
      exact x_iret dX8_wordToken_29 rfl (by cases hf; exact hR)
  · replace hf := x_iff hc hf
    refine x_sipush (v := 201) dX8_wordToken_11 (by decide) ?_
    exact x_iret dX8_wordToken_14 rfl (by cases hf; exact hR)
theorem c_X8_wordToken {E : xE} {d : Nat} (hd : 7 ≤ d) (x1 : Int32) (x2 : Int32) (m : xMem) (out : Int32 × xMem) (h : F_X8_wordToken x1 x2 m = some out) : xCi E mX8_wordToken d [.ref (xB E + 29), .int x1, .int x2] m out.1 out.2 :=
  x_enter (by decide +kernel) (Nat.le_of_ble_eq_true rfl) (pF_X8_wordToken hd (Q := _) out ⟨rfl, rfl⟩ x1 x2 m h)
-- X8_addFrom
def F_X8_addFrom (x2 : Int32) (m : xMem) : Option (Int32 × xMem) :=
  (F_X7_isLetter (x2) m).bind fun q_1 => (
  if q_1.1 = 0 then (
    (F_X7_isDigit (x2) q_1.2).bind fun q_2 => (
    if q_2.1 = 0 then (
      if xin x2 600 = true then (
      (F_X8_signToken (q_2.2.1 ag_tape_signs x2.toNatClampNeg) q_2.2).bind fun q_4 => (
      (F_X8_add (q_4.1) (x2) ((0 : Int32)) q_4.2).bind fun q_5 => (
      some (0, q_5.2))))
      else none)
    else (
      (F_X7_endOfDigits (x2) q_2.2).bind fun q_6 => (
      (F_X8_addNumber (x2) (q_6.1) q_6.2).bind fun q_7 => (
      some (0, q_7.2))))))
  else (
    (F_X7_endOfLetters (x2) q_1.2).bind fun q_8 => (
    (F_X8_wordToken (x2) (q_8.1) q_8.2).bind fun q_9 => (
    (F_X8_add (q_9.1) (x2) ((0 : Int32)) q_9.2).bind fun q_10 => (
    some (0, q_10.2))))))
set_option maxHeartbeats 4000000 in
set_option maxRecDepth 100000 in
theorem pF_X8_addFrom {E : xE} {d : Nat} {Q : Option Value → xS → Prop} (hd : 8 ≤ d) (out : Int32 × xMem) (hR : Q none (xf E out.2)) (x2 : Int32) (m : xMem) (hf : F_X8_addFrom x2 m = some out) : xX E mX8_addFrom d 0 0 0 0 Q 0 [(0, .ref (xB E + 32)), (1, .ref (xB E + 29)), (2, .int (x2))] [] (xf E m) := by
  unfold F_X8_addFrom at hf
  refine x_aload_n dX8_addFrom_0 rfl ?_
  refine x_iload_n dX8_addFrom_1 rfl ?_
  obtain ⟨q_1, hq_1, hf⟩ := Option.bind_eq_some_iff.mp hf
  refine f_cVi mX7_isLetter [.int (x2)] [] dX8_addFrom_2 cs_RX8_42 ⟨w_597, w_26⟩ (ci := 7) rfl (by decide) sh_29 rfl rfl (Nat.le_of_ble_eq_true rfl) (by omega) (c_X7_isLetter (d := d - 1) (by omega) (x2) m q_1 hq_1) ?_
  refine x_if_eq 27 dX8_addFrom_5 (by decide) (fun hc => ?_) (fun hc => ?_)
  · replace hf := x_ift hc hf
    refine x_aload_n dX8_addFrom_27 rfl ?_
    refine x_iload_n dX8_addFrom_28 rfl ?_
    obtain ⟨q_2, hq_2, hf⟩ := Option.bind_eq_some_iff.mp hf
    refine f_cVi mX7_isDigit [.int (x2)] [] dX8_addFrom_29 cs_RX8_46 ⟨w_602, w_27⟩ (ci := 7) rfl (by decide) sh_29 rfl rfl (Nat.le_of_ble_eq_true rfl) (by omega) (c_X7_isDigit (d := d - 1) (by omega) (x2) q_1.2 q_2 hq_2) ?_
    refine x_if_eq 49 dX8_addFrom_32 (by decide) (fun hc => ?_) (fun hc => ?_)
    · replace hf := x_ift hc hf
      refine x_aload_n dX8_addFrom_49 rfl ?_
      refine x_aload_n dX8_addFrom_50 rfl ?_
      refine f_getR (b := 30) dX8_addFrom_51 xcl_7 (by decide) fl_RX8_67 (by decide) sh_29 rfl ?_
      refine x_iload_n dX8_addFrom_54 rfl ?_
      have hg_3 := x_gd hf
      replace hf := hg_3.2
      refine f_bald dX8_addFrom_55 (by decide) sh_30 hg_3.1 ?_
      obtain ⟨q_4, hq_4, hf⟩ := Option.bind_eq_some_iff.mp hf
      refine f_cSi mX8_signToken [.int (q_2.2.1 ag_tape_signs x2.toNatClampNeg)] [.ref (xB E + 32)] dX8_addFrom_56 cs_RX8_71 w_695 rfl rfl (Nat.le_of_ble_eq_true rfl) (by omega) (c_X8_signToken (d := d - 1) (by omega) (q_2.2.1 ag_tape_signs x2.toNatClampNeg) q_2.2 q_4 hq_4) ?_
      refine x_iload_n dX8_addFrom_59 rfl ?_
      refine x_iconst (v := 0) dX8_addFrom_60 (by decide) ?_
      obtain ⟨q_5, hq_5, hf⟩ := Option.bind_eq_some_iff.mp hf
      refine f_cVv mX8_add [.int (q_4.1), .int (x2), .int ((0 : Int32))] [] dX8_addFrom_61 cs_RX8_38 ⟨w_683, w_32⟩ (ci := 8) rfl (by decide) sh_32 rfl rfl (Nat.le_of_ble_eq_true rfl) (by omega) (c_X8_add (d := d - 1) (by omega) (q_4.1) (x2) ((0 : Int32)) q_4.2 q_5 hq_5) ?_
      exact x_vret dX8_addFrom_64 rfl (by cases hf; exact hR)
    · replace hf := x_iff hc hf
      refine x_aload_n dX8_addFrom_35 rfl ?_
      refine x_aload_n dX8_addFrom_36 rfl ?_
      refine x_iload_n dX8_addFrom_37 rfl ?_
      refine x_aload_n dX8_addFrom_38 rfl ?_
      refine x_iload_n dX8_addFrom_39 rfl ?_
      obtain ⟨q_6, hq_6, hf⟩ := Option.bind_eq_some_iff.mp hf
      refine f_cVi mX7_endOfDigits [.int (x2)] [.int (x2), .ref (xB E + 29), .ref (xB E + 32)] dX8_addFrom_40 cs_RX8_60 ⟨w_687, w_33⟩ (ci := 7) rfl (by decide) sh_29 rfl rfl (Nat.le_of_ble_eq_true rfl) (by omega) (c_X7_endOfDigits (d := d - 1) (by omega) (x2) q_2.2 q_6 hq_6) ?_
      obtain ⟨q_7, hq_7, hf⟩ := Option.bind_eq_some_iff.mp hf
      refine f_cVv mX8_addNumber [.ref (xB E + 29), .int (x2), .int (q_6.1)] [] dX8_addFrom_43 cs_RX8_63 ⟨w_692, w_34⟩ (ci := 8) rfl (by decide) sh_32 rfl rfl (Nat.le_of_ble_eq_true rfl) (by omega) (c_X8_addNumber (d := d - 1) (by omega) (x2) (q_6.1) q_6.2 q_7 hq_7) ?_
      refine x_goto 64 dX8_addFrom_46 (by decide) ?_
      exact x_vret dX8_addFrom_64 rfl (by cases hf; exact hR)
  · replace hf := x_iff hc hf
    refine x_aload_n dX8_addFrom_8 rfl ?_
    refine x_aload_n dX8_addFrom_9 rfl ?_
    refine x_iload_n dX8_addFrom_10 rfl ?_
    refine x_aload_n dX8_addFrom_11 rfl ?_
    refine x_iload_n dX8_addFrom_12 rfl ?_
    obtain ⟨q_8, hq_8, hf⟩ := Option.bind_eq_some_iff.mp hf
    refine f_cVi mX7_endOfLetters [.int (x2)] [.int (x2), .ref (xB E + 29), .ref (xB E + 32)] dX8_addFrom_13 cs_RX8_52 ⟨w_614, w_30⟩ (ci := 7) rfl (by decide) sh_29 rfl rfl (Nat.le_of_ble_eq_true rfl) (by omega) (c_X7_endOfLetters (d := d - 1) (by omega) (x2) q_1.2 q_8 hq_8) ?_
    obtain ⟨q_9, hq_9, hf⟩ := Option.bind_eq_some_iff.mp hf
    refine f_cSi mX8_wordToken [.ref (xB E + 29), .int (x2), .int (q_8.1)] [.ref (xB E + 32)] dX8_addFrom_16 cs_RX8_56 w_618 rfl rfl (Nat.le_of_ble_eq_true rfl) (by omega) (c_X8_wordToken (d := d - 1) (by omega) (x2) (q_8.1) q_8.2 q_9 hq_9) ?_
    refine x_iload_n dX8_addFrom_19 rfl ?_
    refine x_iconst (v := 0) dX8_addFrom_20 (by decide) ?_
    obtain ⟨q_10, hq_10, hf⟩ := Option.bind_eq_some_iff.mp hf
    refine f_cVv mX8_add [.int (q_9.1), .int (x2), .int ((0 : Int32))] [] dX8_addFrom_21 cs_RX8_38 ⟨w_683, w_32⟩ (ci := 8) rfl (by decide) sh_32 rfl rfl (Nat.le_of_ble_eq_true rfl) (by omega) (c_X8_add (d := d - 1) (by omega) (q_9.1) (x2) ((0 : Int32)) q_9.2 q_10 hq_10) ?_
    refine x_goto 64 dX8_addFrom_24 (by decide) ?_
    exact x_vret dX8_addFrom_64 rfl (by cases hf; exact hR)
theorem c_X8_addFrom {E : xE} {d : Nat} (hd : 8 ≤ d) (x2 : Int32) (m : xMem) (out : Int32 × xMem) (h : F_X8_addFrom x2 m = some out) : xCv E mX8_addFrom d [.ref (xB E + 32), .ref (xB E + 29), .int x2] m out.2 :=
  x_enter (by decide +kernel) (Nat.le_of_ble_eq_true rfl) (pF_X8_addFrom hd (Q := _) out ⟨rfl, rfl⟩ x2 m h)
-- X8_scan
def J_X8_scan_29 (rec : Int32 → xMem → Option (Int32 × xMem)) (c35 : xMem → Option (Int32 × xMem)) (x2 : Int32) (m : xMem) : Option (Int32 × xMem) :=
  rec (x2 + 1) m
def L_X8_scan_7 (c35 : xMem → Option (Int32 × xMem)) : Nat → Int32 → xMem → Option (Int32 × xMem)
  | 0, _, _ => none
  | fk + 1, x2, m =>
    if (m.1 ag_tape fTape_length) ≤ x2 then (
      c35 m)
    else (
      (F_X8_startsToken (x2) m).bind fun q_1 => (
      if q_1.1 = 0 then (
        J_X8_scan_29 (fun y_3 m_4 => L_X8_scan_7 c35 fk y_3 m_4) c35 (x2) q_1.2)
      else (
        (F_X8_addFrom (x2) q_1.2).bind fun q_2 => (
        J_X8_scan_29 (fun y_5 m_6 => L_X8_scan_7 c35 fk y_5 m_6) c35 (x2) q_2.2))))
def F_X8_scan (m : xMem) : Option (Int32 × xMem) :=
  L_X8_scan_7 (fun m_7 => (
    (F_X8_add ((0 : Int32)) (m_7.1 ag_tape fTape_length) ((0 : Int32)) m_7).bind fun q_8 => (
    some (0, q_8.2)))) xfuel ((0 : Int32)) (xst m.1 ag_parser_tokens fTokens_size (0 : Int32), m.2)
set_option maxHeartbeats 4000000 in
set_option maxRecDepth 100000 in
theorem pJ_X8_scan_29 {E : xE} {d : Nat} {Q : Option Value → xS → Prop} (hd : 9 ≤ d) (out : Int32 × xMem) (hR : Q none (xf E out.2)) (rec : Int32 → xMem → Option (Int32 × xMem)) (c35 : xMem → Option (Int32 × xMem)) (x2 : Int32) (hrec : ∀ (x2 : Int32) (m : xMem), rec x2 m = some out → xX E mX8_scan d 0 0 0 0 Q 7 [(0, .ref (xB E + 32)), (1, .ref (xB E + 29)), (2, .int (x2))] [] (xf E m)) (hc35 : ∀ (m : xMem), c35 m = some out → xX E mX8_scan d 0 0 0 0 Q 35 [(0, .ref (xB E + 32)), (1, .ref (xB E + 29))] [] (xf E m)) (m : xMem) (hf : J_X8_scan_29 rec c35 x2 m = some out) : xX E mX8_scan d 0 0 0 0 Q 29 [(0, .ref (xB E + 32)), (1, .ref (xB E + 29)), (2, .int (x2))] [] (xf E m) := by
  unfold J_X8_scan_29 at hf
  refine x_iinc (v := x2 + 1) (lv' := [(0, .ref (xB E + 32)), (1, .ref (xB E + 29)), (2, .int (x2 + 1))]) dX8_scan_29 2 [1, 2, 0] rfl rfl (by decide) rfl ?_
  refine x_goto 7 dX8_scan_32 (by decide) ?_
  exact hrec _ _ hf
set_option maxHeartbeats 4000000 in
set_option maxRecDepth 100000 in
theorem pL_X8_scan_7 {E : xE} {d : Nat} {Q : Option Value → xS → Prop} (hd : 9 ≤ d) (out : Int32 × xMem) (hR : Q none (xf E out.2)) (c35 : xMem → Option (Int32 × xMem)) (hc35 : ∀ (m : xMem), c35 m = some out → xX E mX8_scan d 0 0 0 0 Q 35 [(0, .ref (xB E + 32)), (1, .ref (xB E + 29))] [] (xf E m)) : ∀ (fk : Nat) (x2 : Int32) (m : xMem), L_X8_scan_7 c35 fk x2 m = some out → xX E mX8_scan d 0 0 0 0 Q 7 [(0, .ref (xB E + 32)), (1, .ref (xB E + 29)), (2, .int (x2))] [] (xf E m) := by
  intro fk
  induction fk with
  | zero => intro x2 m hf; cases hf
  | succ fk ih =>
    intro x2 m hf
    rw [L_X8_scan_7] at hf
    refine x_iload_n dX8_scan_7 rfl ?_
    refine x_aload_n dX8_scan_8 rfl ?_
    refine f_getI dX8_scan_9 xcl_7 (by decide) fl_RX8_25 (by decide) sh_29 rfl ?_
    refine x_icmp_ge 35 dX8_scan_12 (by decide) (fun hc => ?_) (fun hc => ?_)
    · replace hf := x_ift hc hf
      refine x_lv (lv' := [(0, .ref (xB E + 32)), (1, .ref (xB E + 29))]) [0, 1] rfl ?_
      exact hc35 _ hf
    · replace hf := x_iff hc hf
      refine x_aload_n dX8_scan_15 rfl ?_
      refine x_iload_n dX8_scan_16 rfl ?_
      obtain ⟨q_1, hq_1, hf⟩ := Option.bind_eq_some_iff.mp hf
      refine f_cSi mX8_startsToken [.ref (xB E + 29), .int (x2)] [] dX8_scan_17 cs_RX8_30 w_593 rfl rfl (Nat.le_of_ble_eq_true rfl) (by omega) (c_X8_startsToken (d := d - 1) (by omega) (x2) m q_1 hq_1) ?_
      refine x_if_eq 29 dX8_scan_20 (by decide) (fun hc => ?_) (fun hc => ?_)
      · replace hf := x_ift hc hf
        exact pJ_X8_scan_29 hd out hR _ _ _ (fun y0 m9 h9 => ih y0 m9 h9) hc35 _ hf
      · replace hf := x_iff hc hf
        refine x_aload_n dX8_scan_23 rfl ?_
        refine x_aload_n dX8_scan_24 rfl ?_
        refine x_iload_n dX8_scan_25 rfl ?_
        obtain ⟨q_2, hq_2, hf⟩ := Option.bind_eq_some_iff.mp hf
        refine f_cVv mX8_addFrom [.ref (xB E + 29), .int (x2)] [] dX8_scan_26 cs_RX8_34 ⟨w_610, w_29⟩ (ci := 8) rfl (by decide) sh_32 rfl rfl (Nat.le_of_ble_eq_true rfl) (by omega) (c_X8_addFrom (d := d - 1) (by omega) (x2) q_1.2 q_2 hq_2) ?_
        exact pJ_X8_scan_29 hd out hR _ _ _ (fun y0 m9 h9 => ih y0 m9 h9) hc35 _ hf
set_option maxHeartbeats 4000000 in
set_option maxRecDepth 100000 in
theorem pF_X8_scan {E : xE} {d : Nat} {Q : Option Value → xS → Prop} (hd : 9 ≤ d) (out : Int32 × xMem) (hR : Q none (xf E out.2)) (m : xMem) (hf : F_X8_scan m = some out) : xX E mX8_scan d 0 0 0 0 Q 0 [(0, .ref (xB E + 32)), (1, .ref (xB E + 29))] [] (xf E m) := by
  unfold F_X8_scan at hf
  refine x_aload_n dX8_scan_0 rfl ?_
  refine x_iconst (v := 0) dX8_scan_1 (by decide) ?_
  refine f_putI dX8_scan_2 xcl_8 (by decide) fl_RX8_21 rfl rfl (by decide) sh_32 rfl ?_
  refine x_iconst (v := 0) dX8_scan_5 (by decide) ?_
  refine x_istore_n (lv' := [(0, .ref (xB E + 32)), (1, .ref (xB E + 29)), (2, .int ((0 : Int32)))]) dX8_scan_6 [1, 2, 0] (by decide) rfl ?_
  refine pL_X8_scan_7 hd out hR _ (fun m_7 hf => ?_) xfuel _ _ hf
  refine x_aload_n dX8_scan_35 rfl ?_
  refine x_iconst (v := 0) dX8_scan_36 (by decide) ?_
  refine x_aload_n dX8_scan_37 rfl ?_
  refine f_getI dX8_scan_38 xcl_7 (by decide) fl_RX8_25 (by decide) sh_29 rfl ?_
  refine x_iconst (v := 0) dX8_scan_41 (by decide) ?_
  obtain ⟨q_8, hq_8, hf⟩ := Option.bind_eq_some_iff.mp hf
  refine f_cVv mX8_add [.int ((0 : Int32)), .int (m_7.1 ag_tape fTape_length), .int ((0 : Int32))] [] dX8_scan_42 cs_RX8_38 ⟨w_683, w_32⟩ (ci := 8) rfl (by decide) sh_32 rfl rfl (Nat.le_of_ble_eq_true rfl) (by omega) (c_X8_add (d := d - 1) (by omega) ((0 : Int32)) (m_7.1 ag_tape fTape_length) ((0 : Int32)) m_7 q_8 hq_8) ?_
  exact x_vret dX8_scan_45 rfl (by cases hf; exact hR)
theorem c_X8_scan {E : xE} {d : Nat} (hd : 9 ≤ d) (m : xMem) (out : Int32 × xMem) (h : F_X8_scan m = some out) : xCv E mX8_scan d [.ref (xB E + 32), .ref (xB E + 29)] m out.2 :=
  x_enter (by decide +kernel) (Nat.le_of_ble_eq_true rfl) (pF_X8_scan hd (Q := _) out ⟨rfl, rfl⟩ m h)
-- X6_clear
def F_X6_clear (m : xMem) : Option (Int32 × xMem) :=
  some (0, (xst (xst m.1 ag_parser_draft fScript_size (0 : Int32)) ag_parser_draft fScript_lines (0 : Int32), m.2))
set_option maxHeartbeats 4000000 in
set_option maxRecDepth 100000 in
theorem pF_X6_clear {E : xE} {d : Nat} {Q : Option Value → xS → Prop} (hd : 1 ≤ d) (out : Int32 × xMem) (hR : Q none (xf E out.2)) (m : xMem) (hf : F_X6_clear m = some out) : xX E mX6_clear d 0 0 0 0 Q 0 [(0, .ref (xB E + 36))] [] (xf E m) := by
  unfold F_X6_clear at hf
  refine x_aload_n dX6_clear_0 rfl ?_
  refine x_iconst (v := 0) dX6_clear_1 (by decide) ?_
  refine f_putI dX6_clear_2 xcl_6 (by decide) fl_RX6_24 rfl rfl (by decide) sh_36 rfl ?_
  refine x_aload_n dX6_clear_5 rfl ?_
  refine x_iconst (v := 0) dX6_clear_6 (by decide) ?_
  refine f_putI dX6_clear_7 xcl_6 (by decide) fl_RX6_28 rfl rfl (by decide) sh_36 rfl ?_
  exact x_vret dX6_clear_10 rfl (by cases hf; exact hR)
theorem c_X6_clear {E : xE} {d : Nat} (hd : 1 ≤ d) (m : xMem) (out : Int32 × xMem) (h : F_X6_clear m = some out) : xCv E mX6_clear d [.ref (xB E + 36)] m out.2 :=
  x_enter (by decide +kernel) (Nat.le_of_ble_eq_true rfl) (pF_X6_clear hd (Q := _) out ⟨rfl, rfl⟩ m h)
-- X5_token
def F_X5_token (m : xMem) : Option (Int32 × xMem) :=
  if (m.1 ag_parser_tokens fTokens_size) ≤ (m.1 ag_parser fParser_at) then (
    some ((0 : Int32), m))
  else (
    if xin (m.1 ag_parser fParser_at) 601 = true then (
    some (m.1 ag_parser_tokens_what (m.1 ag_parser fParser_at).toNatClampNeg, m))
    else none)
set_option maxHeartbeats 4000000 in
set_option maxRecDepth 100000 in
theorem pF_X5_token {E : xE} {d : Nat} {Q : Option Value → xS → Prop} (hd : 1 ≤ d) (out : Int32 × xMem) (hR : Q (some (.int out.1)) (xf E out.2)) (m : xMem) (hf : F_X5_token m = some out) : xX E mX5_token d 0 0 0 0 Q 0 [(0, .ref (xB E + 31))] [] (xf E m) := by
  unfold F_X5_token at hf
  refine x_aload_n dX5_token_0 rfl ?_
  refine f_getI dX5_token_1 xcl_5 (by decide) fl_RX5_32 (by decide) sh_31 rfl ?_
  refine x_aload_n dX5_token_4 rfl ?_
  refine f_getR (b := 32) dX5_token_5 xcl_5 (by decide) fl_RX5_12 (by decide) sh_31 rfl ?_
  refine f_getI dX5_token_8 xcl_8 (by decide) fl_RX5_78 (by decide) sh_32 rfl ?_
  refine x_icmp_ge 29 dX5_token_11 (by decide) (fun hc => ?_) (fun hc => ?_)
  · replace hf := x_ift hc hf
    refine x_iconst (v := 0) dX5_token_29 (by decide) ?_
    exact x_iret dX5_token_30 rfl (by cases hf; exact hR)
  · replace hf := x_iff hc hf
    refine x_aload_n dX5_token_14 rfl ?_
    refine f_getR (b := 32) dX5_token_15 xcl_5 (by decide) fl_RX5_12 (by decide) sh_31 rfl ?_
    refine f_getR (b := 33) dX5_token_18 xcl_8 (by decide) fl_RX5_81 (by decide) sh_32 rfl ?_
    refine x_aload_n dX5_token_21 rfl ?_
    refine f_getI dX5_token_22 xcl_5 (by decide) fl_RX5_32 (by decide) sh_31 rfl ?_
    have hg_1 := x_gd hf
    replace hf := hg_1.2
    refine f_iald dX5_token_25 (by decide) sh_33 hg_1.1 ?_
    refine x_goto 30 dX5_token_26 (by decide) ?_
    exact x_iret dX5_token_30 rfl (by cases hf; exact hR)
theorem c_X5_token {E : xE} {d : Nat} (hd : 1 ≤ d) (m : xMem) (out : Int32 × xMem) (h : F_X5_token m = some out) : xCi E mX5_token d [.ref (xB E + 31)] m out.1 out.2 :=
  x_enter (by decide +kernel) (Nat.le_of_ble_eq_true rfl) (pF_X5_token hd (Q := _) out ⟨rfl, rfl⟩ m h)
