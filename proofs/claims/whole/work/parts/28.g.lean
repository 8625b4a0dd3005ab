-- X4_shiftOf
def J_X4_shiftOf_59 (rec : Int32 → Int32 → Int32 → xMem → Option (Int32 × xMem)) (c65 : Int32 → Int32 → xMem → Option (Int32 × xMem)) (x1 : Int32) (x2 : Int32) (x3 : Int32) (x4 : Int32) (m : xMem) : Option (Int32 × xMem) :=
  rec (x2) (x3) (x4 + 1) m
def L_X4_shiftOf_7 (x1 : Int32) (c65 : Int32 → Int32 → xMem → Option (Int32 × xMem)) : Nat → Int32 → Int32 → Int32 → xMem → Option (Int32 × xMem)
  | 0, _, _, _, _ => none
  | fk + 1, x2, x3, x4, m =>
    if (10 : Int32) ≤ x4 then (
      c65 (x2) (x3) m)
    else (
      if xin x4 10 = true then (
      if xin x1 5 = true then (
      if xin x4 10 = true then (
      if xin (0 : Int32) 5 = true then (
      if (m.1 (19 + (x4).toNatClampNeg) x1.toNatClampNeg) = (-1 : Int32) then (
        J_X4_shiftOf_59 (fun y_5 y_6 y_7 m_8 => L_X4_shiftOf_7 x1 c65 fk y_5 y_6 y_7 m_8) c65 (x1) (x2) (x3) (x4) m)
      else (
        if (m.1 (19 + (x4).toNatClampNeg) (0 : Int32).toNatClampNeg) = (-1 : Int32) then (
          J_X4_shiftOf_59 (fun y_9 y_10 y_11 m_12 => L_X4_shiftOf_7 x1 c65 fk y_9 y_10 y_11 m_12) c65 (x1) (x2) (x3) (x4) m)
        else (
          J_X4_shiftOf_59 (fun y_13 y_14 y_15 m_16 => L_X4_shiftOf_7 x1 c65 fk y_13 y_14 y_15 m_16) c65 (x1) (x2 + ((m.1 (19 + (x4).toNatClampNeg) x1.toNatClampNeg) - (m.1 (19 + (x4).toNatClampNeg) (0 : Int32).toNatClampNeg))) (x3 + 1) (x4) m)))
      else none)
      else none)
      else none)
      else none)
def F_X4_shiftOf (x1 : Int32) (m : xMem) : Option (Int32 × xMem) :=
  L_X4_shiftOf_7 (x1) (fun x2_17 x3_18 m_19 => (
    (F_X9_cut (x2_17.toInt64) (x3_18) m_19).bind fun q_20 => (
    some (q_20.1, q_20.2)))) xfuel ((0 : Int32)) ((0 : Int32)) ((0 : Int32)) m
set_option maxHeartbeats 4000000 in
set_option maxRecDepth 100000 in
theorem pJ_X4_shiftOf_59 {E : xE} {d : Nat} {Q : Option Value → xS → Prop} (hd : 2 ≤ d) (out : Int32 × xMem) (hR : Q (some (.int out.1)) (xf E out.2)) (rec : Int32 → Int32 → Int32 → xMem → Option (Int32 × xMem)) (c65 : Int32 → Int32 → xMem → Option (Int32 × xMem)) (x1 : Int32) (x2 : Int32) (x3 : Int32) (x4 : Int32) (hrec : ∀ (x2 : Int32) (x3 : Int32) (x4 : Int32) (m : xMem), rec x2 x3 x4 m = some out → xX E mX4_shiftOf d 0 0 0 0 Q 7 [(0, .ref (xB E + 17)), (1, .int (x1)), (2, .int (x2)), (3, .int (x3)), (4, .int (x4))] [] (xf E m)) (hc65 : ∀ (x2 : Int32) (x3 : Int32) (m : xMem), c65 x2 x3 m = some out → xX E mX4_shiftOf d 0 0 0 0 Q 65 [(2, .int (x2)), (3, .int (x3))] [] (xf E m)) (m : xMem) (hf : J_X4_shiftOf_59 rec c65 x1 x2 x3 x4 m = some out) : xX E mX4_shiftOf d 0 0 0 0 Q 59 [(0, .ref (xB E + 17)), (1, .int (x1)), (2, .int (x2)), (3, .int (x3)), (4, .int (x4))] [] (xf E m) := by
  unfold J_X4_shiftOf_59 at hf
  refine x_iinc (v := x4 + 1) (lv' := [(0, .ref (xB E + 17)), (1, .int (x1)), (2, .int (x2)), (3, .int (x3)), (4, .int (x4 + 1))]) dX4_shiftOf_59 4 [1, 2, 3, 4, 0] rfl rfl (by decide) rfl ?_
  refine x_goto 7 dX4_shiftOf_62 (by decide) ?_
  exact hrec _ _ _ _ hf
set_option maxHeartbeats 4000000 in
set_option maxRecDepth 100000 in
theorem pL_X4_shiftOf_7 {E : xE} {d : Nat} {Q : Option Value → xS → Prop} (hd : 2 ≤ d) (out : Int32 × xMem) (hR : Q (some (.int out.1)) (xf E out.2)) (x1 : Int32) (c65 : Int32 → Int32 → xMem → Option (Int32 × xMem)) (hc65 : ∀ (x2 : Int32) (x3 : Int32) (m : xMem), c65 x2 x3 m = some out → xX E mX4_shiftOf d 0 0 0 0 Q 65 [(2, .int (x2)), (3, .int (x3))] [] (xf E m)) : ∀ (fk : Nat) (x2 : Int32) (x3 : Int32) (x4 : Int32) (m : xMem), L_X4_shiftOf_7 x1 c65 fk x2 x3 x4 m = some out → xX E mX4_shiftOf d 0 0 0 0 Q 7 [(0, .ref (xB E + 17)), (1, .int (x1)), (2, .int (x2)), (3, .int (x3)), (4, .int (x4))] [] (xf E m) := by
  intro fk
  induction fk with
  | zero => intro x2 x3 x4 m hf; cases hf
  | succ fk ih =>
    intro x2 x3 x4 m hf
    rw [L_X4_shiftOf_7] at hf
    refine x_iload dX4_shiftOf_7 rfl ?_
    refine x_bipush (v := 10) dX4_shiftOf_9 (by decide) ?_
    refine x_icmp_ge 65 dX4_shiftOf_11 (by decide) (fun hc => ?_) (fun hc => ?_)
    · replace hf := x_ift hc hf
      refine x_lv (lv' := [(2, .int (x2)), (3, .int (x3))]) [2, 3] rfl ?_
      exact hc65 _ _ _ hf
    · replace hf := x_iff hc hf
      refine x_aload_n dX4_shiftOf_14 rfl ?_
      refine f_getR (b := 18) dX4_shiftOf_15 xcl_4 (by decide) fl_RX4_11 (by decide) sh_17 rfl ?_
      refine x_iload dX4_shiftOf_18 rfl ?_
      have hg_1 := x_gd hf
      replace hf := hg_1.2
      refine f_aald dX4_shiftOf_20 (by decide) sh_18 hg_1.1 ?_
      refine x_iload_n dX4_shiftOf_21 rfl ?_
      have hg_2 := x_gd hf
      replace hf := hg_2.2
      refine f_iald dX4_shiftOf_22 (shn_18 _ (xin_lt hg_1.1)) (shr_18 _ (xin_lt hg_1.1)) hg_2.1 ?_
      refine x_istore (lv' := [(0, .ref (xB E + 17)), (1, .int (x1)), (2, .int (x2)), (3, .int (x3)), (4, .int (x4)), (5, .int (m.1 (19 + (x4).toNatClampNeg) x1.toNatClampNeg))]) dX4_shiftOf_23 [1, 2, 3, 4, 5, 0] (by decide) rfl ?_
      refine x_aload_n dX4_shiftOf_25 rfl ?_
      refine f_getR (b := 18) dX4_shiftOf_26 xcl_4 (by decide) fl_RX4_11 (by decide) sh_17 rfl ?_
      refine x_iload dX4_shiftOf_29 rfl ?_
      have hg_3 := x_gd hf
      replace hf := hg_3.2
      refine f_aald dX4_shiftOf_31 (by decide) sh_18 hg_3.1 ?_
      refine x_iconst (v := 0) dX4_shiftOf_32 (by decide) ?_
      have hg_4 := x_gd hf
      replace hf := hg_4.2
      refine f_iald dX4_shiftOf_33 (shn_18 _ (xin_lt hg_3.1)) (shr_18 _ (xin_lt hg_3.1)) hg_4.1 ?_
      refine x_istore (lv' := [(0, .ref (xB E + 17)), (1, .int (x1)), (2, .int (x2)), (3, .int (x3)), (4, .int (x4)), (5, .int (m.1 (19 + (x4).toNatClampNeg) x1.toNatClampNeg)), (6, .int (m.1 (19 + (x4).toNatClampNeg) (0 : Int32).toNatClampNeg))]) dX4_shiftOf_34 [1, 2, 3, 4, 5, 6, 0] (by decide) rfl ?_
      refine x_iload dX4_shiftOf_36 rfl ?_
      refine x_iconst (v := (-1)) dX4_shiftOf_38 (by decide) ?_
      refine x_icmp_eq 59 dX4_shiftOf_39 (by decide) (fun hc => ?_) (fun hc => ?_)
      · replace hf := x_ift hc hf
        refine x_lv (lv' := [(0, .ref (xB E + 17)), (1, .int (x1)), (2, .int (x2)), (3, .int (x3)), (4, .int (x4))]) [0, 1, 2, 3, 4] rfl ?_
        exact pJ_X4_shiftOf_59 hd out hR _ _ _ _ _ _ (fun y0 y1 y2 m9 h9 => ih y0 y1 y2 m9 h9) hc65 _ hf
      · replace hf := x_iff hc hf
        refine x_iload dX4_shiftOf_42 rfl ?_
        refine x_iconst (v := (-1)) dX4_shiftOf_44 (by decide) ?_
        refine x_icmp_eq 59 dX4_shiftOf_45 (by decide) (fun hc => ?_) (fun hc => ?_)
        · replace hf := x_ift hc hf
          refine x_lv (lv' := [(0, .ref (xB E + 17)), (1, .int (x1)), (2, .int (x2)), (3, .int (x3)), (4, .int (x4))]) [0, 1, 2, 3, 4] rfl ?_
          exact pJ_X4_shiftOf_59 hd out hR _ _ _ _ _ _ (fun y0 y1 y2 m9 h9 => ih y0 y1 y2 m9 h9) hc65 _ hf
        · replace hf := x_iff hc hf
          refine x_iload_n dX4_shiftOf_48 rfl ?_
          refine x_iload dX4_shiftOf_49 rfl ?_
          refine x_iload dX4_shiftOf_51 rfl ?_
          refine x_isub dX4_shiftOf_53 ?_
          refine x_iadd dX4_shiftOf_54 ?_
          refine x_istore_n (lv' := [(0, .ref (xB E + 17)), (1, .int (x1)), (2, .int (x2 + ((m.1 (19 + (x4).toNatClampNeg) x1.toNatClampNeg) - (m.1 (19 + (x4).toNatClampNeg) (0 : Int32).toNatClampNeg)))), (3, .int (x3)), (4, .int (x4))]) dX4_shiftOf_55 [1, 2, 0, 3, 4] (by decide) rfl ?_
          refine x_iinc (v := x3 + 1) (lv' := [(0, .ref (xB E + 17)), (1, .int (x1)), (2, .int (x2 + ((m.1 (19 + (x4).toNatClampNeg) x1.toNatClampNeg) - (m.1 (19 + (x4).toNatClampNeg) (0 : Int32).toNatClampNeg)))), (3, .int (x3 + 1)), (4, .int (x4))]) dX4_shiftOf_56 3 [1, 2, 3, 0, 4] rfl rfl (by decide) rfl ?_
          exact pJ_X4_shiftOf_59 hd out hR _ _ _ _ _ _ (fun y0 y1 y2 m9 h9 => ih y0 y1 y2 m9 h9) hc65 _ hf
set_option maxHeartbeats 4000000 in
set_option maxRecDepth 100000 in
theorem pF_X4_shiftOf {E : xE} {d : Nat} {Q : Option Value → xS → Prop} (hd : 2 ≤ d) (out : Int32 × xMem) (hR : Q (some (.int out.1)) (xf E out.2)) (x1 : Int32) (m : xMem) (hf : F_X4_shiftOf x1 m = some out) : xX E mX4_shiftOf d 0 0 0 0 Q 0 [(0, .ref (xB E + 17)), (1, .int (x1))] [] (xf E m) := by
  unfold F_X4_shiftOf at hf
  refine x_iconst (v := 0) dX4_shiftOf_0 (by decide) ?_
  refine x_istore_n (lv' := [(0, .ref (xB E + 17)), (1, .int (x1)), (2, .int ((0 : Int32)))]) dX4_shiftOf_1 [1, 2, 0] (by decide) rfl ?_
  refine x_iconst (v := 0) dX4_shiftOf_2 (by decide) ?_
  refine x_istore_n (lv' := [(0, .ref (xB E + 17)), (1, .int (x1)), (2, .int ((0 : Int32))), (3, .int ((0 : Int32)))]) dX4_shiftOf_3 [1, 2, 3, 0] (by decide) rfl ?_
  refine x_iconst (v := 0) dX4_shiftOf_4 (by decide) ?_
  refine x_istore (lv' := [(0, .ref (xB E + 17)), (1, .int (x1)), (2, .int ((0 : Int32))), (3, .int ((0 : Int32))), (4, .int ((0 : Int32)))]) dX4_shiftOf_5 [1, 2, 3, 4, 0] (by decide) rfl ?_
  refine pL_X4_shiftOf_7 hd out hR _ _ (fun x2_17 x3_18 m_19 hf => ?_) xfuel _ _ _ _ hf
  refine x_iload_n dX4_shiftOf_65 rfl ?_
  refine x_i2l dX4_shiftOf_66 ?_
  refine x_iload_n dX4_shiftOf_67 rfl ?_
  obtain ⟨q_20, hq_20, hf⟩ := Option.bind_eq_some_iff.mp hf
  refine f_cSi mX9_cut [.long (x2_17.toInt64), .int (x3_18)] [] dX4_shiftOf_68 cs_RX4_22 w_457 rfl rfl (Nat.le_of_ble_eq_true rfl) (by omega) (c_X9_cut (d := d - 1) (by omega) (x2_17.toInt64) (x3_18) m_19 q_20 hq_20) ?_
  exact x_iret dX4_shiftOf_71 rfl (by cases hf; exact hR)
theorem c_X4_shiftOf {E : xE} {d : Nat} (hd : 2 ≤ d) (x1 : Int32) (m : xMem) (out : Int32 × xMem) (h : F_X4_shiftOf x1 m = some out) : xCi E mX4_shiftOf d [.ref (xB E + 17), .int x1] m out.1 out.2 :=
  x_enter (by decide +kernel) (Nat.le_of_ble_eq_true rfl) (pF_X4_shiftOf hd (Q := _) out ⟨rfl, rfl⟩ x1 m h)
-- X4_onScale
def F_X4_onScale (x1 : Int32) (x2 : Int32) (m : xMem) : Option (Int32 × xMem) :=
  if xin x1 10 = true then (
  if xin x2 5 = true then (
  (F_X4_shiftOf (x2) m).bind fun q_3 => (
  some (if ((0 : Int32)) < (if ((m.1 (19 + (x1).toNatClampNeg) x2.toNatClampNeg) - q_3.1) < ((100 : Int32)) then ((m.1 (19 + (x1).toNatClampNeg) x2.toNatClampNeg) - q_3.1) else ((100 : Int32))) then (if ((m.1 (19 + (x1).toNatClampNeg) x2.toNatClampNeg) - q_3.1) < ((100 : Int32)) then ((m.1 (19 + (x1).toNatClampNeg) x2.toNatClampNeg) - q_3.1) else ((100 : Int32))) else ((0 : Int32)), q_3.2)))
  else none)
  else none
set_option maxHeartbeats 4000000 in
set_option maxRecDepth 100000 in
theorem pF_X4_onScale {E : xE} {d : Nat} {Q : Option Value → xS → Prop} (hd : 3 ≤ d) (out : Int32 × xMem) (hR : Q (some (.int out.1)) (xf E out.2)) (x1 : Int32) (x2 : Int32) (m : xMem) (hf : F_X4_onScale x1 x2 m = some out) : xX E mX4_onScale d 0 0 0 0 Q 0 [(0, .ref (xB E + 17)), (1, .int (x1)), (2, .int (x2))] [] (xf E m) := by
  unfold F_X4_onScale at hf
  refine x_aload_n dX4_onScale_0 rfl ?_
  refine f_getR (b := 18) dX4_onScale_1 xcl_4 (by decide) fl_RX4_11 (by decide) sh_17 rfl ?_
  refine x_iload_n dX4_onScale_4 rfl ?_
  have hg_1 := x_gd hf
  replace hf := hg_1.2
  refine f_aald dX4_onScale_5 (by decide) sh_18 hg_1.1 ?_
  refine x_iload_n dX4_onScale_6 rfl ?_
  have hg_2 := x_gd hf
  replace hf := hg_2.2
  refine f_iald dX4_onScale_7 (shn_18 _ (xin_lt hg_1.1)) (shr_18 _ (xin_lt hg_1.1)) hg_2.1 ?_
  refine x_aload_n dX4_onScale_8 rfl ?_
  refine x_iload_n dX4_onScale_9 rfl ?_
  obtain ⟨q_3, hq_3, hf⟩ := Option.bind_eq_some_iff.mp hf
  refine f_cVi mX4_shiftOf [.int (x2)] [.int (m.1 (19 + (x1).toNatClampNeg) x2.toNatClampNeg)] dX4_onScale_10 cs_RX4_26 ⟨w_764, w_48⟩ (ci := 4) rfl (by decide) sh_17 rfl rfl (Nat.le_of_ble_eq_true rfl) (by omega) (c_X4_shiftOf (d := d - 1) (by omega) (x2) m q_3 hq_3) ?_
  refine x_isub dX4_onScale_13 ?_
  refine x_istore_n (lv' := [(3, .int ((m.1 (19 + (x1).toNatClampNeg) x2.toNatClampNeg) - q_3.1))]) dX4_onScale_14 [0] (by decide) rfl ?_
  refine x_iconst (v := 0) dX4_onScale_15 (by decide) ?_
  refine x_bipush (v := 100) dX4_onScale_16 (by decide) ?_
  refine x_iload_n dX4_onScale_18 rfl ?_
  refine x_mmin dX4_onScale_19 wm_min_RX4_30 wms_min w_99 wmc_min (Nat.le_of_ble_eq_true rfl) ?_
  refine x_mmax dX4_onScale_22 wm_max_RX4_36 wms_max w_99 wmc_max (Nat.le_of_ble_eq_true rfl) ?_
  exact x_iret dX4_onScale_25 rfl (by cases hf; exact hR)
theorem c_X4_onScale {E : xE} {d : Nat} (hd : 3 ≤ d) (x1 : Int32) (x2 : Int32) (m : xMem) (out : Int32 × xMem) (h : F_X4_onScale x1 x2 m = some out) : xCi E mX4_onScale d [.ref (xB E + 17), .int x1, .int x2] m out.1 out.2 :=
  x_enter (by decide +kernel) (Nat.le_of_ble_eq_true rfl) (pF_X4_onScale hd (Q := _) out ⟨rfl, rfl⟩ x1 x2 m h)
-- X4_describe
def J_X4_describe_71 (rec : Int32 → Int32 → Int32 → Int32 → Int32 → xMem → Option (Int32 × xMem)) (c77 : Int32 → Int32 → Int32 → Int32 → xMem → Option (Int32 × xMem)) (x1 : Int32) (x3 : Int32) (x4 : Int32) (x5 : Int32) (x6 : Int32) (x7 : Int32) (m : xMem) : Option (Int32 × xMem) :=
  rec (x3) (x4) (x5) (x6) (x7 + 1) m
def L_X4_describe_15 (x1 : Int32) (c77 : Int32 → Int32 → Int32 → Int32 → xMem → Option (Int32 × xMem)) : Nat → Int32 → Int32 → Int32 → Int32 → Int32 → xMem → Option (Int32 × xMem)
  | 0, _, _, _, _, _, _ => none
  | fk + 1, x3, x4, x5, x6, x7, m =>
    if (5 : Int32) ≤ x7 then (
      c77 (x3) (x4) (x5) (x6) m)
    else (
      if xin x1 10 = true then (
      if xin x7 5 = true then (
      if (m.1 (19 + (x1).toNatClampNeg) x7.toNatClampNeg) = (-1 : Int32) then (
        J_X4_describe_71 (fun y_4 y_5 y_6 y_7 y_8 m_9 => L_X4_describe_15 x1 c77 fk y_4 y_5 y_6 y_7 y_8 m_9) c77 (x1) (x3) (x4) (x5) (x6) (x7) m)
      else (
        (F_X4_onScale (x1) (x7) m).bind fun q_3 => (
        J_X4_describe_71 (fun y_10 y_11 y_12 y_13 y_14 m_15 => L_X4_describe_15 x1 c77 fk y_10 y_11 y_12 y_13 y_14 m_15) c77 (x1) (x3 + 1) (x4 + q_3.1) (if (q_3.1) < (x5) then (q_3.1) else (x5)) (if (x6) < (q_3.1) then (q_3.1) else (x6)) (x7) q_3.2)))
      else none)
      else none)
def F_X4_describe (x1 : Int32) (m : xMem) : Option (Int32 × xMem) :=
  L_X4_describe_15 (x1) (fun x3_16 x4_17 x5_18 x6_19 m_20 => (
    if xin (0 : Int32) 6 = true then (
    (F_X9_cut (x4_17.toInt64) (x3_16) (xst m_20.1 ag_named (0 : Int32).toNatClampNeg x3_16, m_20.2)).bind fun q_22 => (
    if xin (1 : Int32) 6 = true then (
    if x3_16 = 0 then (
      if xin (2 : Int32) 6 = true then (
      if xin (3 : Int32) 6 = true then (
      some (0, (xst (xst (xst q_22.2.1 ag_named (1 : Int32).toNatClampNeg q_22.1) ag_named (2 : Int32).toNatClampNeg (0 : Int32)) ag_named (3 : Int32).toNatClampNeg x6_19, q_22.2.2)))
      else none)
      else none)
    else (
      if xin (2 : Int32) 6 = true then (
      if xin (3 : Int32) 6 = true then (
      some (0, (xst (xst (xst q_22.2.1 ag_named (1 : Int32).toNatClampNeg q_22.1) ag_named (2 : Int32).toNatClampNeg x5_18) ag_named (3 : Int32).toNatClampNeg x6_19, q_22.2.2)))
      else none)
      else none))
    else none))
    else none)) xfuel ((0 : Int32)) ((0 : Int32)) ((100 : Int32)) ((0 : Int32)) ((0 : Int32)) m
set_option maxHeartbeats 4000000 in
set_option maxRecDepth 100000 in
theorem pJ_X4_describe_71 {E : xE} {d : Nat} {Q : Option Value → xS → Prop} (hd : 4 ≤ d) (out : Int32 × xMem) (hR : Q none (xf E out.2)) (rec : Int32 → Int32 → Int32 → Int32 → Int32 → xMem → Option (Int32 × xMem)) (c77 : Int32 → Int32 → Int32 → Int32 → xMem → Option (Int32 × xMem)) (x1 : Int32) (x3 : Int32) (x4 : Int32) (x5 : Int32) (x6 : Int32) (x7 : Int32) (hrec : ∀ (x3 : Int32) (x4 : Int32) (x5 : Int32) (x6 : Int32) (x7 : Int32) (m : xMem), rec x3 x4 x5 x6 x7 m = some out → xX E mX4_describe d 0 0 0 0 Q 15 [(0, .ref (xB E + 17)), (1, .int (x1)), (2, .ref (xB E + 86)), (3, .int (x3)), (4, .int (x4)), (5, .int (x5)), (6, .int (x6)), (7, .int (x7))] [] (xf E m)) (hc77 : ∀ (x3 : Int32) (x4 : Int32) (x5 : Int32) (x6 : Int32) (m : xMem), c77 x3 x4 x5 x6 m = some out → xX E mX4_describe d 0 0 0 0 Q 77 [(2, .ref (xB E + 86)), (3, .int (x3)), (4, .int (x4)), (5, .int (x5)), (6, .int (x6))] [] (xf E m)) (m : xMem) (hf : J_X4_describe_71 rec c77 x1 x3 x4 x5 x6 x7 m = some out) : xX E mX4_describe d 0 0 0 0 Q 71 [(0, .ref (xB E + 17)), (1, .int (x1)), (2, .ref (xB E + 86)), (3, .int (x3)), (4, .int (x4)), (5, .int (x5)), (6, .int (x6)), (7, .int (x7))] [] (xf E m) := by
  unfold J_X4_describe_71 at hf
  refine x_iinc (v := x7 + 1) (lv' := [(0, .ref (xB E + 17)), (1, .int (x1)), (2, .ref (xB E + 86)), (3, .int (x3)), (4, .int (x4)), (5, .int (x5)), (6, .int (x6)), (7, .int (x7 + 1))]) dX4_describe_71 7 [1, 2, 3, 4, 5, 6, 7, 0] rfl rfl (by decide) rfl ?_
  refine x_goto 15 dX4_describe_74 (by decide) ?_
  exact hrec _ _ _ _ _ _ hf
set_option maxHeartbeats 4000000 in
set_option maxRecDepth 100000 in
theorem pL_X4_describe_15 {E : xE} {d : Nat} {Q : Option Value → xS → Prop} (hd : 4 ≤ d) (out : Int32 × xMem) (hR : Q none (xf E out.2)) (x1 : Int32) (c77 : Int32 → Int32 → Int32 → Int32 → xMem → Option (Int32 × xMem)) (hc77 : ∀ (x3 : Int32) (x4 : Int32) (x5 : Int32) (x6 : Int32) (m : xMem), c77 x3 x4 x5 x6 m = some out → xX E mX4_describe d 0 0 0 0 Q 77 [(2, .ref (xB E + 86)), (3, .int (x3)), (4, .int (x4)), (5, .int (x5)), (6, .int (x6))] [] (xf E m)) : ∀ (fk : Nat) (x3 : Int32) (x4 : Int32) (x5 : Int32) (x6 : Int32) (x7 : Int32) (m : xMem), L_X4_describe_15 x1 c77 fk x3 x4 x5 x6 x7 m = some out → xX E mX4_describe d 0 0 0 0 Q 15 [(0, .ref (xB E + 17)), (1, .int (x1)), (2, .ref (xB E + 86)), (3, .int (x3)), (4, .int (x4)), (5, .int (x5)), (6, .int (x6)), (7, .int (x7))] [] (xf E m) := by
  intro fk
  induction fk with
  | zero => intro x3 x4 x5 x6 x7 m hf; cases hf
  | succ fk ih =>
    intro x3 x4 x5 x6 x7 m hf
    rw [L_X4_describe_15] at hf
    refine x_iload dX4_describe_15 rfl ?_
    refine x_iconst (v := 5) dX4_describe_17 (by decide) ?_
    refine x_icmp_ge 77 dX4_describe_18 (by decide) (fun hc => ?_) (fun hc => ?_)
    · replace hf := x_ift hc hf
      refine x_lv (lv' := [(2, .ref (xB E + 86)), (3, .int (x3)), (4, .int (x4)), (5, .int (x5)), (6, .int (x6))]) [2, 3, 4, 5, 6] rfl ?_
      exact hc77 _ _ _ _ _ hf
    · replace hf := x_iff hc hf
      refine x_aload_n dX4_describe_21 rfl ?_
      refine f_getR (b := 18) dX4_describe_22 xcl_4 (by decide) fl_RX4_11 (by decide) sh_17 rfl ?_
      refine x_iload_n dX4_describe_25 rfl ?_
      have hg_1 := x_gd hf
      replace hf := hg_1.2
      refine f_aald dX4_describe_26 (by decide) sh_18 hg_1.1 ?_
      refine x_iload dX4_describe_27 rfl ?_
      have hg_2 := x_gd hf
      replace hf := hg_2.2
      refine f_iald dX4_describe_29 (shn_18 _ (xin_lt hg_1.1)) (shr_18 _ (xin_lt hg_1.1)) hg_2.1 ?_
      refine x_iconst (v := (-1)) dX4_describe_30 (by decide) ?_
      refine x_icmp_eq 71 dX4_describe_31 (by decide) (fun hc => ?_) (fun hc => ?_)
      · replace hf := x_ift hc hf
        exact pJ_X4_describe_71 hd out hR _ _ _ _ _ _ _ _ (fun y0 y1 y2 y3 y4 m9 h9 => ih y0 y1 y2 y3 y4 m9 h9) hc77 _ hf
      · replace hf := x_iff hc hf
        refine x_aload_n dX4_describe_34 rfl ?_
        refine x_iload_n dX4_describe_35 rfl ?_
        refine x_iload dX4_describe_36 rfl ?_
        obtain ⟨q_3, hq_3, hf⟩ := Option.bind_eq_some_iff.mp hf
        refine f_cVi mX4_onScale [.int (x1), .int (x7)] [] dX4_describe_38 cs_RX4_39 ⟨w_760, w_47⟩ (ci := 4) rfl (by decide) sh_17 rfl rfl (Nat.le_of_ble_eq_true rfl) (by omega) (c_X4_onScale (d := d - 1) (by omega) (x1) (x7) m q_3 hq_3) ?_
        refine x_istore (lv' := [(0, .ref (xB E + 17)), (1, .int (x1)), (2, .ref (xB E + 86)), (3, .int (x3)), (4, .int (x4)), (5, .int (x5)), (6, .int (x6)), (7, .int (x7)), (8, .int (q_3.1))]) dX4_describe_41 [1, 2, 3, 4, 5, 6, 7, 8, 0] (by decide) rfl ?_
        refine x_iinc (v := x3 + 1) (lv' := [(0, .ref (xB E + 17)), (1, .int (x1)), (2, .ref (xB E + 86)), (3, .int (x3 + 1)), (4, .int (x4)), (5, .int (x5)), (6, .int (x6)), (7, .int (x7)), (8, .int (q_3.1))]) dX4_describe_43 3 [1, 2, 3, 0, 4, 5, 6, 7, 8] rfl rfl (by decide) rfl ?_
        refine x_iload dX4_describe_46 rfl ?_
        refine x_iload dX4_describe_48 rfl ?_
        refine x_iadd dX4_describe_50 ?_
        refine x_istore (lv' := [(0, .ref (xB E + 17)), (1, .int (x1)), (2, .ref (xB E + 86)), (3, .int (x3 + 1)), (4, .int (x4 + q_3.1)), (5, .int (x5)), (6, .int (x6)), (7, .int (x7)), (8, .int (q_3.1))]) dX4_describe_51 [1, 2, 3, 4, 0, 5, 6, 7, 8] (by decide) rfl ?_
        refine x_iload dX4_describe_53 rfl ?_
        refine x_iload dX4_describe_55 rfl ?_
        refine x_mmin dX4_describe_57 wm_min_RX4_30 wms_min w_99 wmc_min (Nat.le_of_ble_eq_true rfl) ?_
        refine x_istore (lv' := [(0, .ref (xB E + 17)), (1, .int (x1)), (2, .ref (xB E + 86)), (3, .int (x3 + 1)), (4, .int (x4 + q_3.1)), (5, .int (if (q_3.1) < (x5) then (q_3.1) else (x5))), (6, .int (x6)), (7, .int (x7)), (8, .int (q_3.1))]) dX4_describe_60 [1, 2, 3, 4, 5, 0, 6, 7, 8] (by decide) rfl ?_
        refine x_iload dX4_describe_62 rfl ?_
        refine x_iload dX4_describe_64 rfl ?_
        refine x_mmax dX4_describe_66 wm_max_RX4_36 wms_max w_99 wmc_max (Nat.le_of_ble_eq_true rfl) ?_
        refine x_istore (lv' := [(0, .ref (xB E + 17)), (1, .int (x1)), (2, .ref (xB E + 86)), (3, .int (x3 + 1)), (4, .int (x4 + q_3.1)), (5, .int (if (q_3.1) < (x5) then (q_3.1) else (x5))), (6, .int (if (x6) < (q_3.1) then (q_3.1) else (x6))), (7, .int (x7))]) dX4_describe_69 [1, 2, 3, 4, 5, 6, 0, 7] (by decide) rfl ?_
        exact pJ_X4_describe_71 hd out hR _ _ _ _ _ _ _ _ (fun y0 y1 y2 y3 y4 m9 h9 => ih y0 y1 y2 y3 y4 m9 h9) hc77 _ hf
set_option maxHeartbeats 4000000 in
set_option maxRecDepth 100000 in
theorem pF_X4_describe {E : xE} {d : Nat} {Q : Option Value → xS → Prop} (hd : 4 ≤ d) (out : Int32 × xMem) (hR : Q none (xf E out.2)) (x1 : Int32) (m : xMem) (hf : F_X4_describe x1 m = some out) : xX E mX4_describe d 0 0 0 0 Q 0 [(0, .ref (xB E + 17)), (1, .int (x1)), (2, .ref (xB E + 86))] [] (xf E m) := by
  unfold F_X4_describe at hf
  refine x_iconst (v := 0) dX4_describe_0 (by decide) ?_
  refine x_istore_n (lv' := [(0, .ref (xB E + 17)), (1, .int (x1)), (2, .ref (xB E + 86)), (3, .int ((0 : Int32)))]) dX4_describe_1 [1, 2, 3, 0] (by decide) rfl ?_
  refine x_iconst (v := 0) dX4_describe_2 (by decide) ?_
  refine x_istore (lv' := [(0, .ref (xB E + 17)), (1, .int (x1)), (2, .ref (xB E + 86)), (3, .int ((0 : Int32))), (4, .int ((0 : Int32)))]) dX4_describe_3 [1, 2, 3, 4, 0] (by decide) rfl ?_
  refine x_bipush (v := 100) dX4_describe_5 (by decide) ?_
  refine x_istore (lv' := [(0, .ref (xB E + 17)), (1, .int (x1)), (2, .ref (xB E + 86)), (3, .int ((0 : Int32))), (4, .int ((0 : Int32))), (5, .int ((100 : Int32)))]) dX4_describe_7 [1, 2, 3, 4, 5, 0] (by decide) rfl ?_
  refine x_iconst (v := 0) dX4_describe_9 (by decide) ?_
  refine x_istore (lv' := [(0, .ref (xB E + 17)), (1, .int (x1)), (2, .ref (xB E + 86)), (3, .int ((0 : Int32))), (4, .int ((0 : Int32))), (5, .int ((100 : Int32))), (6, .int ((0 : Int32)))]) dX4_describe_10 [1, 2, 3, 4, 5, 6, 0] (by decide) rfl ?_
  refine x_iconst (v := 0) dX4_describe_12 (by decide) ?_
  refine x_istore (lv' := [(0, .ref (xB E + 17)), (1, .int (x1)), (2, .ref (xB E + 86)), (3, .int ((0 : Int32))), (4, .int ((0 : Int32))), (5, .int ((100 : Int32))), (6, .int ((0 : Int32))), (7, .int ((0 : Int32)))]) dX4_describe_13 [1, 2, 3, 4, 5, 6, 7, 0] (by decide) rfl ?_
  refine pL_X4_describe_15 hd out hR _ _ (fun x3_16 x4_17 x5_18 x6_19 m_20 hf => ?_) xfuel _ _ _ _ _ _ hf
  refine x_aload_n dX4_describe_77 rfl ?_
  refine x_iconst (v := 0) dX4_describe_78 (by decide) ?_
  refine x_iload_n dX4_describe_79 rfl ?_
  have hg_21 := x_gd hf
  replace hf := hg_21.2
  refine f_iast dX4_describe_80 (by decide) sh_86 hg_21.1 ?_
  refine x_aload_n dX4_describe_81 rfl ?_
  refine x_iconst (v := 1) dX4_describe_82 (by decide) ?_
  refine x_iload dX4_describe_83 rfl ?_
  refine x_i2l dX4_describe_85 ?_
  refine x_iload_n dX4_describe_86 rfl ?_
  obtain ⟨q_22, hq_22, hf⟩ := Option.bind_eq_some_iff.mp hf
  refine f_cSi mX9_cut [.long (x4_17.toInt64), .int (x3_16)] [.int ((1 : Int32)), .ref (xB E + 86)] dX4_describe_87 cs_RX4_22 w_457 rfl rfl (Nat.le_of_ble_eq_true rfl) (by omega) (c_X9_cut (d := d - 1) (by omega) (x4_17.toInt64) (x3_16) (xst m_20.1 ag_named (0 : Int32).toNatClampNeg x3_16, m_20.2) q_22 hq_22) ?_
  have hg_23 := x_gd hf
  replace hf := hg_23.2
  refine f_iast dX4_describe_90 (by decide) sh_86 hg_23.1 ?_
  refine x_aload_n dX4_describe_91 rfl ?_
  refine x_iconst (v := 2) dX4_describe_92 (by decide) ?_
  refine x_iload_n dX4_describe_93 rfl ?_
  refine x_if_ne 101 dX4_describe_94 (by decide) (fun hc => ?_) (fun hc => ?_)
  · replace hf := x_iff hc hf
    refine x_iload dX4_describe_101 rfl ?_
    have hg_24 := x_gd hf
    replace hf := hg_24.2
    refine f_iast dX4_describe_103 (by decide) sh_86 hg_24.1 ?_
    refine x_aload_n dX4_describe_104 rfl ?_
    refine x_iconst (v := 3) dX4_describe_105 (by decide) ?_
    refine x_iload dX4_describe_106 rfl ?_
    have hg_25 := x_gd hf
    replace hf := hg_25.2
    refine f_iast dX4_describe_108 (by decide) sh_86 hg_25.1 ?_
    exact x_vret dX4_describe_109 rfl (by cases hf; exact hR)
  · replace hf := x_ift hc hf
    refine x_iconst (v := 0) dX4_describe_97 (by decide) ?_
    refine x_goto 103 dX4_describe_98 (by decide) ?_
    have hg_26 := x_gd hf
    replace hf := hg_26.2
    refine f_iast dX4_describe_103 (by decide) sh_86 hg_26.1 ?_
    refine x_aload_n dX4_describe_104 rfl ?_
    refine x_iconst (v := 3) dX4_describe_105 (by decide) ?_
    refine x_iload dX4_describe_106 rfl ?_
    have hg_27 := x_gd hf
    replace hf := hg_27.2
    refine f_iast dX4_describe_108 (by decide) sh_86 hg_27.1 ?_
    exact x_vret dX4_describe_109 rfl (by cases hf; exact hR)
theorem c_X4_describe {E : xE} {d : Nat} (hd : 4 ≤ d) (x1 : Int32) (m : xMem) (out : Int32 × xMem) (h : F_X4_describe x1 m = some out) : xCv E mX4_describe d [.ref (xB E + 17), .int x1, .ref (xB E + 86)] m out.2 :=
  x_enter (by decide +kernel) (Nat.le_of_ble_eq_true rfl) (pF_X4_describe hd (Q := _) out ⟨rfl, rfl⟩ x1 m h)
-- X2_countOf
def J_X2_countOf_25 (rec : Int32 → Int32 → xMem → Option (Int32 × xMem)) (x1 : Int32) (x2 : Int32) (x3 : Int32) (m : xMem) : Option (Int32 × xMem) :=
  rec (x2) (x3 + 1) m
def L_X2_countOf_4 (x1 : Int32) : Nat → Int32 → Int32 → xMem → Option (Int32 × xMem)
  | 0, _, _, _ => none
  | fk + 1, x2, x3, m =>
    if (m.1 ag_facts fFacts_size) ≤ x3 then (
      some (x2, m))
    else (
      if xin x3 60 = true then (
      if (m.1 ag_facts_place x3.toNatClampNeg) = x1 then (
        J_X2_countOf_25 (fun y_2 y_3 m_4 => L_X2_countOf_4 x1 fk y_2 y_3 m_4) (x1) (x2 + 1) (x3) m)
      else (
        J_X2_countOf_25 (fun y_5 y_6 m_7 => L_X2_countOf_4 x1 fk y_5 y_6 m_7) (x1) (x2) (x3) m))
      else none)
def F_X2_countOf (x1 : Int32) (m : xMem) : Option (Int32 × xMem) :=
  L_X2_countOf_4 (x1) xfuel ((0 : Int32)) ((0 : Int32)) m
set_option maxHeartbeats 4000000 in
set_option maxRecDepth 100000 in
theorem pJ_X2_countOf_25 {E : xE} {d : Nat} {Q : Option Value → xS → Prop} (hd : 1 ≤ d) (out : Int32 × xMem) (hR : Q (some (.int out.1)) (xf E out.2)) (rec : Int32 → Int32 → xMem → Option (Int32 × xMem)) (x1 : Int32) (x2 : Int32) (x3 : Int32) (hrec : ∀ (x2 : Int32) (x3 : Int32) (m : xMem), rec x2 x3 m = some out → xX E mX2_countOf d 0 0 0 0 Q 4 [(0, .ref (xB E + 1)), (1, .int (x1)), (2, .int (x2)), (3, .int (x3))] [] (xf E m)) (m : xMem) (hf : J_X2_countOf_25 rec x1 x2 x3 m = some out) : xX E mX2_countOf d 0 0 0 0 Q 25 [(0, .ref (xB E + 1)), (1, .int (x1)), (2, .int (x2)), (3, .int (x3))] [] (xf E m) := by
  unfold J_X2_countOf_25 at hf
  refine x_iinc (v := x3 + 1) (lv' := [(0, .ref (xB E + 1)), (1, .int (x1)), (2, .int (x2)), (3, .int (x3 + 1))]) dX2_countOf_25 3 [1, 2, 3, 0] rfl rfl (by decide) rfl ?_
  refine x_goto 4 dX2_countOf_28 (by decide) ?_
  exact hrec _ _ _ hf
set_option maxHeartbeats 4000000 in
set_option maxRecDepth 100000 in
theorem pL_X2_countOf_4 {E : xE} {d : Nat} {Q : Option Value → xS → Prop} (hd : 1 ≤ d) (out : Int32 × xMem) (hR : Q (some (.int out.1)) (xf E out.2)) (x1 : Int32) : ∀ (fk : Nat) (x2 : Int32) (x3 : Int32) (m : xMem), L_X2_countOf_4 x1 fk x2 x3 m = some out → xX E mX2_countOf d 0 0 0 0 Q 4 [(0, .ref (xB E + 1)), (1, .int (x1)), (2, .int (x2)), (3, .int (x3))] [] (xf E m) := by
  intro fk
  induction fk with
  | zero => intro x2 x3 m hf; cases hf
  | succ fk ih =>
    intro x2 x3 m hf
    rw [L_X2_countOf_4] at hf
    refine x_iload_n dX2_countOf_4 rfl ?_
    refine x_aload_n dX2_countOf_5 rfl ?_
    refine f_getI dX2_countOf_6 xcl_2 (by decide) fl_RX2_36 (by decide) sh_1 rfl ?_
    refine x_icmp_ge 31 dX2_countOf_9 (by decide) (fun hc => ?_) (fun hc => ?_)
    · replace hf := x_ift hc hf
      refine x_iload_n dX2_countOf_31 rfl ?_
      exact x_iret dX2_countOf_32 rfl (by cases hf; exact hR)
    · replace hf := x_iff hc hf
      refine x_aload_n dX2_countOf_12 rfl ?_
      refine f_getR (b := 3) dX2_countOf_13 xcl_2 (by decide) fl_RX2_15 (by decide) sh_1 rfl ?_
      refine x_iload_n dX2_countOf_16 rfl ?_
      have hg_1 := x_gd hf
      replace hf := hg_1.2
      refine f_iald dX2_countOf_17 (by decide) sh_3 hg_1.1 ?_
      refine x_iload_n dX2_countOf_18 rfl ?_
      refine x_icmp_ne 25 dX2_countOf_19 (by decide) (fun hc => ?_) (fun hc => ?_)
      · replace hf := x_iff hc hf
        exact pJ_X2_countOf_25 hd out hR _ _ _ _ (fun y0 y1 m9 h9 => ih y0 y1 m9 h9) _ hf
      · replace hf := x_ift hc hf
        refine x_iinc (v := x2 + 1) (lv' := [(0, .ref (xB E + 1)), (1, .int (x1)), (2, .int (x2 + 1)), (3, .int (x3))]) dX2_countOf_22 2 [1, 2, 0, 3] rfl rfl (by decide) rfl ?_
        exact pJ_X2_countOf_25 hd out hR _ _ _ _ (fun y0 y1 m9 h9 => ih y0 y1 m9 h9) _ hf
set_option maxHeartbeats 4000000 in
set_option maxRecDepth 100000 in
theorem pF_X2_countOf {E : xE} {d : Nat} {Q : Option Value → xS → Prop} (hd : 1 ≤ d) (out : Int32 × xMem) (hR : Q (some (.int out.1)) (xf E out.2)) (x1 : Int32) (m : xMem) (hf : F_X2_countOf x1 m = some out) : xX E mX2_countOf d 0 0 0 0 Q 0 [(0, .ref (xB E + 1)), (1, .int (x1))] [] (xf E m) := by
  unfold F_X2_countOf at hf
  refine x_iconst (v := 0) dX2_countOf_0 (by decide) ?_
  refine x_istore_n (lv' := [(0, .ref (xB E + 1)), (1, .int (x1)), (2, .int ((0 : Int32)))]) dX2_countOf_1 [1, 2, 0] (by decide) rfl ?_
  refine x_iconst (v := 0) dX2_countOf_2 (by decide) ?_
  refine x_istore_n (lv' := [(0, .ref (xB E + 1)), (1, .int (x1)), (2, .int ((0 : Int32))), (3, .int ((0 : Int32)))]) dX2_countOf_3 [1, 2, 3, 0] (by decide) rfl ?_
  refine pL_X2_countOf_4 hd out hR _ xfuel _ _ _ hf
theorem c_X2_countOf {E : xE} {d : Nat} (hd : 1 ≤ d) (x1 : Int32) (m : xMem) (out : Int32 × xMem) (h : F_X2_countOf x1 m = some out) : xCi E mX2_countOf d [.ref (xB E + 1), .int x1] m out.1 out.2 :=
  x_enter (by decide +kernel) (Nat.le_of_ble_eq_true rfl) (pF_X2_countOf hd (Q := _) out ⟨rfl, rfl⟩ x1 m h)
-- X6_joined
def F_X6_joined (x0 : Int32) (x1 : Int32) (x2 : Int32) (m : xMem) : Option (Int32 × xMem) :=
  if x0 = 43 then (
    some (x1 + x2, m))
  else (
  if x0 = 45 then (
    some (x1 - x2, m))
  else (
  if x0 = 60 then (
    if x2 ≤ x1 then (
      some ((0 : Int32), m))
    else (
      some ((1 : Int32), m)))
  else (
  if x0 = 61 then (
    if x1 = x2 then (
      some ((1 : Int32), m))
    else (
      some ((0 : Int32), m)))
  else (
    if x1 = 0 then (
      some ((0 : Int32), m))
    else (
      if x2 = 0 then (
        some ((0 : Int32), m))
      else (
        some ((1 : Int32), m)))))))
set_option maxHeartbeats 4000000 in
set_option maxRecDepth 100000 in
theorem pF_X6_joined {E : xE} {d : Nat} {Q : Option Value → xS → Prop} (hd : 1 ≤ d) (out : Int32 × xMem) (hR : Q (some (.int out.1)) (xf E out.2)) (x0 : Int32) (x1 : Int32) (x2 : Int32) (m : xMem) (hf : F_X6_joined x0 x1 x2 m = some out) : xX E mX6_joined d 0 0 0 0 Q 0 [(0, .int (x0)), (1, .int (x1)), (2, .int (x2))] [] (xf E m) := by
  unfold F_X6_joined at hf
  refine x_iload_n dX6_joined_0 rfl ?_
  by_cases hc : x0 = 43
  · replace hf := x_ift hc hf
    refine x_lookup 44 dX6_joined_1 (by decide) (by rw [hc]; try rfl) (by decide) ?_
    refine x_iload_n dX6_joined_44 rfl ?_
    refine x_iload_n dX6_joined_45 rfl ?_
    refine x_iadd dX6_joined_46 ?_
    exact x_iret dX6_joined_47 rfl (by cases hf; exact hR)
  replace hf := x_iff hc hf
  have hn43 := hc
  by_cases hc : x0 = 45
  · replace hf := x_ift hc hf
    refine x_lookup 48 dX6_joined_1 (by decide) (by rw [hc]; try rfl) (by decide) ?_
    refine x_iload_n dX6_joined_48 rfl ?_
    refine x_iload_n dX6_joined_49 rfl ?_
    refine x_isub dX6_joined_50 ?_
    exact x_iret dX6_joined_51 rfl (by cases hf; exact hR)
  replace hf := x_iff hc hf
  have hn45 := hc
  by_cases hc : x0 = 60
  · replace hf := x_ift hc hf
    refine x_lookup 52 dX6_joined_1 (by decide) (by rw [hc]; try rfl) (by decide) ?_
    refine x_iload_n dX6_joined_52 rfl ?_
    refine x_iload_n dX6_joined_53 rfl ?_
    refine x_icmp_ge 61 dX6_joined_54 (by decide) (fun hc => ?_) (fun hc => ?_)
    · replace hf := x_ift hc hf
      refine x_iconst (v := 0) dX6_joined_61 (by decide) ?_
      exact x_iret dX6_joined_62 rfl (by cases hf; exact hR)
    · replace hf := x_iff hc hf
      refine x_iconst (v := 1) dX6_joined_57 (by decide) ?_
      refine x_goto 62 dX6_joined_58 (by decide) ?_
      exact x_iret dX6_joined_62 rfl (by cases hf; exact hR)
  replace hf := x_iff hc hf
  have hn60 := hc
  by_cases hc : x0 = 61
  · replace hf := x_ift hc hf
    refine x_lookup 63 dX6_joined_1 (by decide) (by rw [hc]; try rfl) (by decide) ?_
    refine x_iload_n dX6_joined_63 rfl ?_
    refine x_iload_n dX6_joined_64 rfl ?_
    refine x_icmp_ne 72 dX6_joined_65 (by decide) (fun hc => ?_) (fun hc => ?_)
    · replace hf := x_iff hc hf
      refine x_iconst (v := 0) dX6_joined_72 (by decide) ?_
      exact x_iret dX6_joined_73 rfl (by cases hf; exact hR)
    · replace hf := x_ift hc hf
      refine x_iconst (v := 1) dX6_joined_68 (by decide) ?_
      refine x_goto 73 dX6_joined_69 (by decide) ?_
      exact x_iret dX6_joined_73 rfl (by cases hf; exact hR)
  replace hf := x_iff hc hf
  have hn61 := hc
  refine x_lookup 74 dX6_joined_1 (by decide) (xlook_out (by simp only [List.forall_mem_cons, List.not_mem_nil, false_implies, implies_true, and_true]; exact ⟨hn43, hn45, hn60, hn61⟩)) (by decide) ?_
  refine x_iload_n dX6_joined_74 rfl ?_
  refine x_if_eq 86 dX6_joined_75 (by decide) (fun hc => ?_) (fun hc => ?_)
  · replace hf := x_ift hc hf
    refine x_iconst (v := 0) dX6_joined_86 (by decide) ?_
    exact x_iret dX6_joined_87 rfl (by cases hf; exact hR)
  · replace hf := x_iff hc hf
    refine x_iload_n dX6_joined_78 rfl ?_
    refine x_if_eq 86 dX6_joined_79 (by decide) (fun hc => ?_) (fun hc => ?_)
    · replace hf := x_ift hc hf
      refine x_iconst (v := 0) dX6_joined_86 (by decide) ?_
      exact x_iret dX6_joined_87 rfl (by cases hf; exact hR)
    · replace hf := x_iff hc hf
      refine x_iconst (v := 1) dX6_joined_82 (by decide) ?_
      refine x_goto 87 dX6_joined_83 (by decide) ?_
      exact x_iret dX6_joined_87 rfl (by cases hf; exact hR)
theorem c_X6_joined {E : xE} {d : Nat} (hd : 1 ≤ d) (x0 : Int32) (x1 : Int32) (x2 : Int32) (m : xMem) (out : Int32 × xMem) (h : F_X6_joined x0 x1 x2 m = some out) : xCi E mX6_joined d [.int x0, .int x1, .int x2] m out.1 out.2 :=
  x_enter (by decide +kernel) (Nat.le_of_ble_eq_true rfl) (pF_X6_joined hd (Q := _) out ⟨rfl, rfl⟩ x0 x1 x2 m h)
-- X6_valueOf
def J_X6_valueOf_114 (rec : Int32 → Int32 → xMem → Option (Int32 × xMem)) (c120 : Int32 → xMem → Option (Int32 × xMem)) (x2 : Int32) (x4 : Int32) (x5 : Int32) (m : xMem) : Option (Int32 × xMem) :=
  rec (x4) (x5 + 1) m
def J_X6_valueOf_35 (rec : Int32 → Int32 → xMem → Option (Int32 × xMem)) (c120 : Int32 → xMem → Option (Int32 × xMem)) (x2 : Int32) (x4 : Int32) (x5 : Int32) (x6 : Int32) (m : xMem) : Option (Int32 × xMem) :=
  if (32 : Int32) ≤ x4 then (
    J_X6_valueOf_114 rec c120 (x2) (x4) (x5) m)
  else (
    if x6 < 0 then (
      if xin ((-x6) - (204 : Int32)) 6 = true then (
      if xin x4 32 = true then (
      J_X6_valueOf_114 rec c120 (x2) (x4 + 1) (x5) (xst m.1 ag_script_waiting x4.toNatClampNeg (m.1 ag_named ((-x6) - (204 : Int32)).toNatClampNeg), m.2))
      else none)
      else none)
    else (
      if xin x4 32 = true then (
      J_X6_valueOf_114 rec c120 (x2) (x4 + 1) (x5) (xst m.1 ag_script_waiting x4.toNatClampNeg x6, m.2))
      else none))
def L_X6_valueOf_6 (x2 : Int32) (c120 : Int32 → xMem → Option (Int32 × xMem)) : Nat → Int32 → Int32 → xMem → Option (Int32 × xMem)
  | 0, _, _, _ => none
  | fk + 1, x4, x5, m =>
    if x2 ≤ x5 then (
      c120 (x4) m)
    else (
      if xin x5 600 = true then (
      if 0 ≤ (m.1 ag_script_code x5.toNatClampNeg) then (
        J_X6_valueOf_35 (fun y_19 y_20 m_21 => L_X6_valueOf_6 x2 c120 fk y_19 y_20 m_21) c120 (x2) (x4) (x5) (m.1 ag_script_code x5.toNatClampNeg) m)
      else (
        (F_X9_isName (-(m.1 ag_script_code x5.toNatClampNeg)) m).bind fun q_14 => (
        if q_14.1 = 0 then (
          if x4 < (2 : Int32) then (
            J_X6_valueOf_114 (fun y_22 y_23 m_24 => L_X6_valueOf_6 x2 c120 fk y_22 y_23 m_24) c120 (x2) (x4) (x5) q_14.2)
          else (
            if xin ((x4 + (-1 : Int32)) - (1 : Int32)) 32 = true then (
            if xin (x4 + (-1 : Int32)) 32 = true then (
            (F_X6_joined (-(m.1 ag_script_code x5.toNatClampNeg)) (q_14.2.1 ag_script_waiting ((x4 + (-1 : Int32)) - (1 : Int32)).toNatClampNeg) (q_14.2.1 ag_script_waiting (x4 + (-1 : Int32)).toNatClampNeg) q_14.2).bind fun q_17 => (
            if xin ((x4 + (-1 : Int32)) - (1 : Int32)) 32 = true then (
            J_X6_valueOf_114 (fun y_25 y_26 m_27 => L_X6_valueOf_6 x2 c120 fk y_25 y_26 m_27) c120 (x2) (x4 + (-1 : Int32)) (x5) (xst q_17.2.1 ag_script_waiting ((x4 + (-1 : Int32)) - (1 : Int32)).toNatClampNeg q_17.1, q_17.2.2))
            else none))
            else none)
            else none))
        else (
          J_X6_valueOf_35 (fun y_28 y_29 m_30 => L_X6_valueOf_6 x2 c120 fk y_28 y_29 m_30) c120 (x2) (x4) (x5) (m.1 ag_script_code x5.toNatClampNeg) q_14.2))))
      else none)
def F_X6_valueOf (x1 : Int32) (x2 : Int32) (m : xMem) : Option (Int32 × xMem) :=
  L_X6_valueOf_6 (x2) (fun x4_31 m_32 => (
    if x4_31 = 0 then (
      some ((0 : Int32), m_32))
    else (
      if xin (x4_31 - (1 : Int32)) 32 = true then (
      some (m_32.1 ag_script_waiting (x4_31 - (1 : Int32)).toNatClampNeg, m_32))
      else none))) xfuel ((0 : Int32)) (x1) m
set_option maxHeartbeats 4000000 in
set_option maxRecDepth 100000 in
theorem pJ_X6_valueOf_114 {E : xE} {d : Nat} {Q : Option Value → xS → Prop} (hd : 2 ≤ d) (out : Int32 × xMem) (hR : Q (some (.int out.1)) (xf E out.2)) (rec : Int32 → Int32 → xMem → Option (Int32 × xMem)) (c120 : Int32 → xMem → Option (Int32 × xMem)) (x2 : Int32) (x4 : Int32) (x5 : Int32) (hrec : ∀ (x4 : Int32) (x5 : Int32) (m : xMem), rec x4 x5 m = some out → xX E mX6_valueOf d 0 0 0 0 Q 6 [(0, .ref (xB E + 41)), (2, .int (x2)), (3, .ref (xB E + 86)), (4, .int (x4)), (5, .int (x5))] [] (xf E m)) (hc120 : ∀ (x4 : Int32) (m : xMem), c120 x4 m = some out → xX E mX6_valueOf d 0 0 0 0 Q 120 [(0, .ref (xB E + 41)), (4, .int (x4))] [] (xf E m)) (m : xMem) (hf : J_X6_valueOf_114 rec c120 x2 x4 x5 m = some out) : xX E mX6_valueOf d 0 0 0 0 Q 114 [(0, .ref (xB E + 41)), (2, .int (x2)), (3, .ref (xB E + 86)), (4, .int (x4)), (5, .int (x5))] [] (xf E m) := by
  unfold J_X6_valueOf_114 at hf
  refine x_iinc (v := x5 + 1) (lv' := [(0, .ref (xB E + 41)), (2, .int (x2)), (3, .ref (xB E + 86)), (4, .int (x4)), (5, .int (x5 + 1))]) dX6_valueOf_114 4 [1, 2, 3, 4, 0] rfl rfl (by decide) rfl ?_
  refine x_goto 6 dX6_valueOf_117 (by decide) ?_
  exact hrec _ _ _ hf
set_option maxHeartbeats 4000000 in
set_option maxRecDepth 100000 in
theorem pJ_X6_valueOf_35 {E : xE} {d : Nat} {Q : Option Value → xS → Prop} (hd : 2 ≤ d) (out : Int32 × xMem) (hR : Q (some (.int out.1)) (xf E out.2)) (rec : Int32 → Int32 → xMem → Option (Int32 × xMem)) (c120 : Int32 → xMem → Option (Int32 × xMem)) (x2 : Int32) (x4 : Int32) (x5 : Int32) (x6 : Int32) (hrec : ∀ (x4 : Int32) (x5 : Int32) (m : xMem), rec x4 x5 m = some out → xX E mX6_valueOf d 0 0 0 0 Q 6 [(0, .ref (xB E + 41)), (2, .int (x2)), (3, .ref (xB E + 86)), (4, .int (x4)), (5, .int (x5))] [] (xf E m)) (hc120 : ∀ (x4 : Int32) (m : xMem), c120 x4 m = some out → xX E mX6_valueOf d 0 0 0 0 Q 120 [(0, .ref (xB E + 41)), (4, .int (x4))] [] (xf E m)) (m : xMem) (hf : J_X6_valueOf_35 rec c120 x2 x4 x5 x6 m = some out) : xX E mX6_valueOf d 0 0 0 0 Q 35 [(0, .ref (xB E + 41)), (2, .int (x2)), (3, .ref (xB E + 86)), (4, .int (x4)), (5, .int (x5)), (6, .int (x6))] [] (xf E m) := by
  unfold J_X6_valueOf_35 at hf
  refine x_iload dX6_valueOf_35 rfl ?_
  refine x_bipush (v := 32) dX6_valueOf_37 (by decide) ?_
  refine x_icmp_ge 114 dX6_valueOf_39 (by decide) (fun hc => ?_) (fun hc => ?_)
  · replace hf := x_ift hc hf
    refine x_lv (lv' := [(0, .ref (xB E + 41)), (2, .int (x2)), (3, .ref (xB E + 86)), (4, .int (x4)), (5, .int (x5))]) [0, 1, 2, 3, 4] rfl ?_
    exact pJ_X6_valueOf_114 hd out hR _ _ _ _ _ hrec hc120 _ hf
  · replace hf := x_iff hc hf
    refine x_aload_n dX6_valueOf_42 rfl ?_
    refine f_getR (b := 45) dX6_valueOf_43 xcl_6 (by decide) fl_RX6_21 (by decide) sh_41 rfl ?_
    refine x_iload dX6_valueOf_46 rfl ?_
    refine x_iload dX6_valueOf_48 rfl ?_
    refine x_if_lt 58 dX6_valueOf_50 (by decide) (fun hc => ?_) (fun hc => ?_)
    · replace hf := x_ift hc hf
      refine x_aload_n dX6_valueOf_58 rfl ?_
      refine x_iload dX6_valueOf_59 rfl ?_
      refine x_ineg dX6_valueOf_61 ?_
      refine x_sipush (v := 204) dX6_valueOf_62 (by decide) ?_
      refine x_isub dX6_valueOf_65 ?_
      have hg_2 := x_gd hf
      replace hf := hg_2.2
      refine f_iald dX6_valueOf_66 (by decide) sh_86 hg_2.1 ?_
      have hg_3 := x_gd hf
      replace hf := hg_3.2
      refine f_iast dX6_valueOf_67 (by decide) sh_45 hg_3.1 ?_
      refine x_iinc (v := x4 + 1) (lv' := [(0, .ref (xB E + 41)), (2, .int (x2)), (3, .ref (xB E + 86)), (4, .int (x4 + 1)), (5, .int (x5))]) dX6_valueOf_68 3 [1, 2, 3, 0, 4] rfl rfl (by decide) rfl ?_
      refine x_goto 114 dX6_valueOf_71 (by decide) ?_
      exact pJ_X6_valueOf_114 hd out hR _ _ _ _ _ hrec hc120 _ hf
    · replace hf := x_iff hc hf
      refine x_iload dX6_valueOf_53 rfl ?_
      refine x_goto 67 dX6_valueOf_55 (by decide) ?_
      have hg_4 := x_gd hf
      replace hf := hg_4.2
      refine f_iast dX6_valueOf_67 (by decide) sh_45 hg_4.1 ?_
      refine x_iinc (v := x4 + 1) (lv' := [(0, .ref (xB E + 41)), (2, .int (x2)), (3, .ref (xB E + 86)), (4, .int (x4 + 1)), (5, .int (x5))]) dX6_valueOf_68 3 [1, 2, 3, 0, 4] rfl rfl (by decide) rfl ?_
      refine x_goto 114 dX6_valueOf_71 (by decide) ?_
      exact pJ_X6_valueOf_114 hd out hR _ _ _ _ _ hrec hc120 _ hf
set_option maxHeartbeats 4000000 in
set_option maxRecDepth 100000 in
theorem pL_X6_valueOf_6 {E : xE} {d : Nat} {Q : Option Value → xS → Prop} (hd : 2 ≤ d) (out : Int32 × xMem) (hR : Q (some (.int out.1)) (xf E out.2)) (x2 : Int32) (c120 : Int32 → xMem → Option (Int32 × xMem)) (hc120 : ∀ (x4 : Int32) (m : xMem), c120 x4 m = some out → xX E mX6_valueOf d 0 0 0 0 Q 120 [(0, .ref (xB E + 41)), (4, .int (x4))] [] (xf E m)) : ∀ (fk : Nat) (x4 : Int32) (x5 : Int32) (m : xMem), L_X6_valueOf_6 x2 c120 fk x4 x5 m = some out → xX E mX6_valueOf d 0 0 0 0 Q 6 [(0, .ref (xB E + 41)), (2, .int (x2)), (3, .ref (xB E + 86)), (4, .int (x4)), (5, .int (x5))] [] (xf E m) := by
  intro fk
  induction fk with
  | zero => intro x4 x5 m hf; cases hf
  | succ fk ih =>
    intro x4 x5 m hf
    rw [L_X6_valueOf_6] at hf
    refine x_iload dX6_valueOf_6 rfl ?_
    refine x_iload_n dX6_valueOf_8 rfl ?_
    refine x_icmp_ge 120 dX6_valueOf_9 (by decide) (fun hc => ?_) (fun hc => ?_)
    · replace hf := x_ift hc hf
      refine x_lv (lv' := [(0, .ref (xB E + 41)), (4, .int (x4))]) [0, 3] rfl ?_
      exact hc120 _ _ hf
    · replace hf := x_iff hc hf
      refine x_aload_n dX6_valueOf_12 rfl ?_
      refine f_getR (b := 42) dX6_valueOf_13 xcl_6 (by decide) fl_RX6_9 (by decide) sh_41 rfl ?_
      refine x_iload dX6_valueOf_16 rfl ?_
      have hg_1 := x_gd hf
      replace hf := hg_1.2
      refine f_iald dX6_valueOf_18 (by decide) sh_42 hg_1.1 ?_
      refine x_istore (lv' := [(0, .ref (xB E + 41)), (2, .int (x2)), (3, .ref (xB E + 86)), (4, .int (x4)), (5, .int (x5)), (6, .int (m.1 ag_script_code x5.toNatClampNeg))]) dX6_valueOf_19 [1, 2, 3, 4, 5, 0] (by decide) rfl ?_
      refine x_iload dX6_valueOf_21 rfl ?_
      refine x_if_ge 35 dX6_valueOf_23 (by decide) (fun hc => ?_) (fun hc => ?_)
      · replace hf := x_ift hc hf
        exact pJ_X6_valueOf_35 hd out hR _ _ _ _ _ _ (fun y0 y1 m9 h9 => ih y0 y1 m9 h9) hc120 _ hf
      · replace hf := x_iff hc hf
        refine x_iload dX6_valueOf_26 rfl ?_
        refine x_ineg dX6_valueOf_28 ?_
        obtain ⟨q_14, hq_14, hf⟩ := Option.bind_eq_some_iff.mp hf
        refine f_cSi mX9_isName [.int (-(m.1 ag_script_code x5.toNatClampNeg))] [] dX6_valueOf_29 cs_RX6_41 w_726 rfl rfl (Nat.le_of_ble_eq_true rfl) (by omega) (c_X9_isName (d := d - 1) (by omega) (-(m.1 ag_script_code x5.toNatClampNeg)) m q_14 hq_14) ?_
        refine x_if_eq 74 dX6_valueOf_32 (by decide) (fun hc => ?_) (fun hc => ?_)
        · replace hf := x_ift hc hf
          refine x_iload dX6_valueOf_74 rfl ?_
          refine x_iconst (v := 2) dX6_valueOf_76 (by decide) ?_
          refine x_icmp_lt 114 dX6_valueOf_77 (by decide) (fun hc => ?_) (fun hc => ?_)
          · replace hf := x_ift hc hf
            refine x_lv (lv' := [(0, .ref (xB E + 41)), (2, .int (x2)), (3, .ref (xB E + 86)), (4, .int (x4)), (5, .int (x5))]) [0, 1, 2, 3, 4] rfl ?_
            exact pJ_X6_valueOf_114 hd out hR _ _ _ _ _ (fun y0 y1 m9 h9 => ih y0 y1 m9 h9) hc120 _ hf
          · replace hf := x_iff hc hf
            refine x_iinc (v := x4 + (-1 : Int32)) (lv' := [(0, .ref (xB E + 41)), (2, .int (x2)), (3, .ref (xB E + 86)), (4, .int (x4 + (-1 : Int32))), (5, .int (x5)), (6, .int (m.1 ag_script_code x5.toNatClampNeg))]) dX6_valueOf_80 3 [1, 2, 3, 0, 4, 5] rfl rfl (by decide) rfl ?_
            refine x_aload_n dX6_valueOf_83 rfl ?_
            refine f_getR (b := 45) dX6_valueOf_84 xcl_6 (by decide) fl_RX6_21 (by decide) sh_41 rfl ?_
            refine x_iload dX6_valueOf_87 rfl ?_
            refine x_iconst (v := 1) dX6_valueOf_89 (by decide) ?_
            refine x_isub dX6_valueOf_90 ?_
            refine x_iload dX6_valueOf_91 rfl ?_
            refine x_ineg dX6_valueOf_93 ?_
            refine x_aload_n dX6_valueOf_94 rfl ?_
            refine f_getR (b := 45) dX6_valueOf_95 xcl_6 (by decide) fl_RX6_21 (by decide) sh_41 rfl ?_
            refine x_iload dX6_valueOf_98 rfl ?_
            refine x_iconst (v := 1) dX6_valueOf_100 (by decide) ?_
            refine x_isub dX6_valueOf_101 ?_
            have hg_15 := x_gd hf
            replace hf := hg_15.2
            refine f_iald dX6_valueOf_102 (by decide) sh_45 hg_15.1 ?_
            refine x_aload_n dX6_valueOf_103 rfl ?_
            refine f_getR (b := 45) dX6_valueOf_104 xcl_6 (by decide) fl_RX6_21 (by decide) sh_41 rfl ?_
            refine x_iload dX6_valueOf_107 rfl ?_
            have hg_16 := x_gd hf
            replace hf := hg_16.2
            refine f_iald dX6_valueOf_109 (by decide) sh_45 hg_16.1 ?_
            obtain ⟨q_17, hq_17, hf⟩ := Option.bind_eq_some_iff.mp hf
            refine f_cSi mX6_joined [.int (-(m.1 ag_script_code x5.toNatClampNeg)), .int (q_14.2.1 ag_script_waiting ((x4 + (-1 : Int32)) - (1 : Int32)).toNatClampNeg), .int (q_14.2.1 ag_script_waiting (x4 + (-1 : Int32)).toNatClampNeg)] [.int ((x4 + (-1 : Int32)) - (1 : Int32)), .ref (xB E + 45)] dX6_valueOf_110 cs_RX6_45 w_785 rfl rfl (Nat.le_of_ble_eq_true rfl) (by omega) (c_X6_joined (d := d - 1) (by omega) (-(m.1 ag_script_code x5.toNatClampNeg)) (q_14.2.1 ag_script_waiting ((x4 + (-1 : Int32)) - (1 : Int32)).toNatClampNeg) (q_14.2.1 ag_script_waiting (x4 + (-1 : Int32)).toNatClampNeg) q_14.2 q_17 hq_17) ?_
            have hg_18 := x_gd hf
            replace hf := hg_18.2
            refine f_iast dX6_valueOf_113 (by decide) sh_45 hg_18.1 ?_
            refine x_lv (lv' := [(0, .ref (xB E + 41)), (2, .int (x2)), (3, .ref (xB E + 86)), (4, .int (x4 + (-1 : Int32))), (5, .int (x5))]) [0, 1, 2, 3, 4] rfl ?_
            exact pJ_X6_valueOf_114 hd out hR _ _ _ _ _ (fun y0 y1 m9 h9 => ih y0 y1 m9 h9) hc120 _ hf
        · replace hf := x_iff hc hf
          exact pJ_X6_valueOf_35 hd out hR _ _ _ _ _ _ (fun y0 y1 m9 h9 => ih y0 y1 m9 h9) hc120 _ hf
set_option maxHeartbeats 4000000 in
set_option maxRecDepth 100000 in
theorem pF_X6_valueOf {E : xE} {d : Nat} {Q : Option Value → xS → Prop} (hd : 2 ≤ d) (out : Int32 × xMem) (hR : Q (some (.int out.1)) (xf E out.2)) (x1 : Int32) (x2 : Int32) (m : xMem) (hf : F_X6_valueOf x1 x2 m = some out) : xX E mX6_valueOf d 0 0 0 0 Q 0 [(0, .ref (xB E + 41)), (1, .int (x1)), (2, .int (x2)), (3, .ref (xB E + 86))] [] (xf E m) := by
  unfold F_X6_valueOf at hf
  refine x_iconst (v := 0) dX6_valueOf_0 (by decide) ?_
  refine x_istore (lv' := [(0, .ref (xB E + 41)), (1, .int (x1)), (2, .int (x2)), (3, .ref (xB E + 86)), (4, .int ((0 : Int32)))]) dX6_valueOf_1 [1, 2, 3, 4, 0] (by decide) rfl ?_
  refine x_iload_n dX6_valueOf_3 rfl ?_
  refine x_istore (lv' := [(0, .ref (xB E + 41)), (2, .int (x2)), (3, .ref (xB E + 86)), (4, .int ((0 : Int32))), (5, .int (x1))]) dX6_valueOf_4 [1, 3, 4, 5, 0] (by decide) rfl ?_
  refine pL_X6_valueOf_6 hd out hR _ _ (fun x4_31 m_32 hf => ?_) xfuel _ _ _ hf
  refine x_iload dX6_valueOf_120 rfl ?_
  refine x_if_ne 129 dX6_valueOf_122 (by decide) (fun hc => ?_) (fun hc => ?_)
  · replace hf := x_iff hc hf
    refine x_aload_n dX6_valueOf_129 rfl ?_
    refine f_getR (b := 45) dX6_valueOf_130 xcl_6 (by decide) fl_RX6_21 (by decide) sh_41 rfl ?_
    refine x_iload dX6_valueOf_133 rfl ?_
    refine x_iconst (v := 1) dX6_valueOf_135 (by decide) ?_
    refine x_isub dX6_valueOf_136 ?_
    have hg_33 := x_gd hf
    replace hf := hg_33.2
    refine f_iald dX6_valueOf_137 (by decide) sh_45 hg_33.1 ?_
    exact x_iret dX6_valueOf_138 rfl (by cases hf; exact hR)
  · replace hf := x_ift hc hf
    refine x_iconst (v := 0) dX6_valueOf_125 (by decide) ?_
    refine x_goto 138 dX6_valueOf_126 (by decide) ?_
    exact x_iret dX6_valueOf_138 rfl (by cases hf; exact hR)
theorem c_X6_valueOf {E : xE} {d : Nat} (hd : 2 ≤ d) (x1 : Int32) (x2 : Int32) (m : xMem) (out : Int32 × xMem) (h : F_X6_valueOf x1 x2 m = some out) : xCi E mX6_valueOf d [.ref (xB E + 41), .int x1, .int x2, .ref (xB E + 86)] m out.1 out.2 :=
  x_enter (by decide +kernel) (Nat.le_of_ble_eq_true rfl) (pF_X6_valueOf hd (Q := _) out ⟨rfl, rfl⟩ x1 x2 m h)
-- X6_starsFor
def L_X6_starsFor_4 : Nat → Int32 → Int32 → xMem → Option (Int32 × xMem)
  | 0, _, _, _ => none
  | fk + 1, x2, x3, m =>
    if (m.1 ag_script fScript_lines) ≤ x3 then (
      some ((0 : Int32), m))
    else (
      if xin x3 16 = true then (
      (F_X6_valueOf (x2) (m.1 ag_script_endOf x3.toNatClampNeg) m).bind fun q_2 => (
      if q_2.1 = 0 then (
        if xin x3 16 = true then (
        L_X6_starsFor_4 fk (q_2.2.1 ag_script_endOf x3.toNatClampNeg) (x3 + 1) q_2.2)
        else none)
      else (
        if xin x3 16 = true then (
        some (q_2.2.1 ag_script_starsIn x3.toNatClampNeg, q_2.2))
        else none)))
      else none)
def F_X6_starsFor (m : xMem) : Option (Int32 × xMem) :=
  L_X6_starsFor_4 xfuel ((0 : Int32)) ((0 : Int32)) m
set_option maxHeartbeats 4000000 in
set_option maxRecDepth 100000 in
theorem pL_X6_starsFor_4 {E : xE} {d : Nat} {Q : Option Value → xS → Prop} (hd : 3 ≤ d) (out : Int32 × xMem) (hR : Q (some (.int out.1)) (xf E out.2)) : ∀ (fk : Nat) (x2 : Int32) (x3 : Int32) (m : xMem), L_X6_starsFor_4 fk x2 x3 m = some out → xX E mX6_starsFor d 0 0 0 0 Q 4 [(0, .ref (xB E + 41)), (1, .ref (xB E + 86)), (2, .int (x2)), (3, .int (x3))] [] (xf E m) := by
  intro fk
  induction fk with
  | zero => intro x2 x3 m hf; cases hf
  | succ fk ih =>
    intro x2 x3 m hf
    rw [L_X6_starsFor_4] at hf
    refine x_iload_n dX6_starsFor_4 rfl ?_
    refine x_aload_n dX6_starsFor_5 rfl ?_
    refine f_getI dX6_starsFor_6 xcl_6 (by decide) fl_RX6_28 (by decide) sh_41 rfl ?_
    refine x_icmp_ge 47 dX6_starsFor_9 (by decide) (fun hc => ?_) (fun hc => ?_)
    · replace hf := x_ift hc hf
      refine x_iconst (v := 0) dX6_starsFor_47 (by decide) ?_
      exact x_iret dX6_starsFor_48 rfl (by cases hf; exact hR)
    · replace hf := x_iff hc hf
      refine x_aload_n dX6_starsFor_12 rfl ?_
      refine x_iload_n dX6_starsFor_13 rfl ?_
      refine x_aload_n dX6_starsFor_14 rfl ?_
      refine f_getR (b := 43) dX6_starsFor_15 xcl_6 (by decide) fl_RX6_15 (by decide) sh_41 rfl ?_
      refine x_iload_n dX6_starsFor_18 rfl ?_
      have hg_1 := x_gd hf
      replace hf := hg_1.2
      refine f_iald dX6_starsFor_19 (by decide) sh_43 hg_1.1 ?_
      refine x_aload_n dX6_starsFor_20 rfl ?_
      obtain ⟨q_2, hq_2, hf⟩ := Option.bind_eq_some_iff.mp hf
      refine f_cVi mX6_valueOf [.int (x2), .int (m.1 ag_script_endOf x3.toNatClampNeg), .ref (xB E + 86)] [] dX6_starsFor_21 cs_RX6_37 ⟨w_781, w_51⟩ (ci := 6) rfl (by decide) sh_41 rfl rfl (Nat.le_of_ble_eq_true rfl) (by omega) (c_X6_valueOf (d := d - 1) (by omega) (x2) (m.1 ag_script_endOf x3.toNatClampNeg) m q_2 hq_2) ?_
      refine x_if_eq 34 dX6_starsFor_24 (by decide) (fun hc => ?_) (fun hc => ?_)
      · replace hf := x_ift hc hf
        refine x_aload_n dX6_starsFor_34 rfl ?_
        refine f_getR (b := 43) dX6_starsFor_35 xcl_6 (by decide) fl_RX6_15 (by decide) sh_41 rfl ?_
        refine x_iload_n dX6_starsFor_38 rfl ?_
        have hg_3 := x_gd hf
        replace hf := hg_3.2
        refine f_iald dX6_starsFor_39 (by decide) sh_43 hg_3.1 ?_
        refine x_istore_n (lv' := [(0, .ref (xB E + 41)), (1, .ref (xB E + 86)), (2, .int (q_2.2.1 ag_script_endOf x3.toNatClampNeg)), (3, .int (x3))]) dX6_starsFor_40 [1, 2, 0, 3] (by decide) rfl ?_
        refine x_iinc (v := x3 + 1) (lv' := [(0, .ref (xB E + 41)), (1, .ref (xB E + 86)), (2, .int (q_2.2.1 ag_script_endOf x3.toNatClampNeg)), (3, .int (x3 + 1))]) dX6_starsFor_41 3 [1, 2, 3, 0] rfl rfl (by decide) rfl ?_
        refine x_goto 4 dX6_starsFor_44 (by decide) ?_
        exact ih _ _ _ hf
      · replace hf := x_iff hc hf
        refine x_aload_n dX6_starsFor_27 rfl ?_
        refine f_getR (b := 44) dX6_starsFor_28 xcl_6 (by decide) fl_RX6_18 (by decide) sh_41 rfl ?_
        refine x_iload_n dX6_starsFor_31 rfl ?_
        have hg_4 := x_gd hf
        replace hf := hg_4.2
        refine f_iald dX6_starsFor_32 (by decide) sh_44 hg_4.1 ?_
        exact x_iret dX6_starsFor_33 rfl (by cases hf; exact hR)
set_option maxHeartbeats 4000000 in
set_option maxRecDepth 100000 in
theorem pF_X6_starsFor {E : xE} {d : Nat} {Q : Option Value → xS → Prop} (hd : 3 ≤ d) (out : Int32 × xMem) (hR : Q (some (.int out.1)) (xf E out.2)) (m : xMem) (hf : F_X6_starsFor m = some out) : xX E mX6_starsFor d 0 0 0 0 Q 0 [(0, .ref (xB E + 41)), (1, .ref (xB E + 86))] [] (xf E m) := by
  unfold F_X6_starsFor at hf
  refine x_iconst (v := 0) dX6_starsFor_0 (by decide) ?_
  refine x_istore_n (lv' := [(0, .ref (xB E + 41)), (1, .ref (xB E + 86)), (2, .int ((0 : Int32)))]) dX6_starsFor_1 [1, 2, 0] (by decide) rfl ?_
  refine x_iconst (v := 0) dX6_starsFor_2 (by decide) ?_
  refine x_istore_n (lv' := [(0, .ref (xB E + 41)), (1, .ref (xB E + 86)), (2, .int ((0 : Int32))), (3, .int ((0 : Int32)))]) dX6_starsFor_3 [1, 2, 3, 0] (by decide) rfl ?_
  refine pL_X6_starsFor_4 hd out hR xfuel _ _ _ hf
theorem c_X6_starsFor {E : xE} {d : Nat} (hd : 3 ≤ d) (m : xMem) (out : Int32 × xMem) (h : F_X6_starsFor m = some out) : xCi E mX6_starsFor d [.ref (xB E + 41), .ref (xB E + 86)] m out.1 out.2 :=
  x_enter (by decide +kernel) (Nat.le_of_ble_eq_true rfl) (pF_X6_starsFor hd (Q := _) out ⟨rfl, rfl⟩ m h)
-- X9_starsOf
def F_X9_starsOf (x1 : Int32) (m : xMem) : Option (Int32 × xMem) :=
  (F_X4_describe (x1) m).bind fun q_1 => (
  (F_X2_countOf (x1) q_1.2).bind fun q_2 => (
  if xin (4 : Int32) 6 = true then (
  if xin x1 10 = true then (
  if ((xst q_2.2.1 ag_named (4 : Int32).toNatClampNeg q_2.1) ag_praised x1.toNatClampNeg) = 0 then (
    if xin (5 : Int32) 6 = true then (
    (F_X6_starsFor (xst (xst q_2.2.1 ag_named (4 : Int32).toNatClampNeg q_2.1) ag_named (5 : Int32).toNatClampNeg (0 : Int32), q_2.2.2)).bind fun q_6 => (
    some (q_6.1, q_6.2)))
    else none)
  else (
    if xin (5 : Int32) 6 = true then (
    (F_X6_starsFor (xst (xst q_2.2.1 ag_named (4 : Int32).toNatClampNeg q_2.1) ag_named (5 : Int32).toNatClampNeg (1 : Int32), q_2.2.2)).bind fun q_8 => (
    some (q_8.1, q_8.2)))
    else none))
  else none)
  else none))
set_option maxHeartbeats 4000000 in
set_option maxRecDepth 100000 in
theorem pF_X9_starsOf {E : xE} {d : Nat} {Q : Option Value → xS → Prop} (hd : 5 ≤ d) (out : Int32 × xMem) (hR : Q (some (.int out.1)) (xf E out.2)) (x1 : Int32) (m : xMem) (hf : F_X9_starsOf x1 m = some out) : xX E mX9_starsOf d 0 0 0 0 Q 0 [(0, .ref (xB E + 0)), (1, .int (x1))] [] (xf E m) := by
  unfold F_X9_starsOf at hf
  refine x_aload_n dX9_starsOf_0 rfl ?_
  refine f_getR (b := 17) dX9_starsOf_1 xcl_9 (by decide) fl_RX9_26 (by decide) sh_0 rfl ?_
  refine x_iload_n dX9_starsOf_4 rfl ?_
  refine x_aload_n dX9_starsOf_5 rfl ?_
  refine f_getR (b := 86) dX9_starsOf_6 xcl_9 (by decide) fl_RX9_73 (by decide) sh_0 rfl ?_
  obtain ⟨q_1, hq_1, hf⟩ := Option.bind_eq_some_iff.mp hf
  refine f_cVv mX4_describe [.int (x1), .ref (xB E + 86)] [] dX9_starsOf_9 cs_RX9_269 ⟨w_756, w_46⟩ (ci := 4) rfl (by decide) sh_17 rfl rfl (Nat.le_of_ble_eq_true rfl) (by omega) (c_X4_describe (d := d - 1) (by omega) (x1) m q_1 hq_1) ?_
  refine x_aload_n dX9_starsOf_12 rfl ?_
  refine f_getR (b := 86) dX9_starsOf_13 xcl_9 (by decide) fl_RX9_73 (by decide) sh_0 rfl ?_
  refine x_iconst (v := 4) dX9_starsOf_16 (by decide) ?_
  refine x_aload_n dX9_starsOf_17 rfl ?_
  refine f_getR (b := 1) dX9_starsOf_18 xcl_9 (by decide) fl_RX9_12 (by decide) sh_0 rfl ?_
  refine x_iload_n dX9_starsOf_21 rfl ?_
  obtain ⟨q_2, hq_2, hf⟩ := Option.bind_eq_some_iff.mp hf
  refine f_cVi mX2_countOf [.int (x1)] [.int ((4 : Int32)), .ref (xB E + 86)] dX9_starsOf_22 cs_RX9_273 ⟨w_773, w_49⟩ (ci := 2) rfl (by decide) sh_1 rfl rfl (Nat.le_of_ble_eq_true rfl) (by omega) (c_X2_countOf (d := d - 1) (by omega) (x1) q_1.2 q_2 hq_2) ?_
  have hg_3 := x_gd hf
  replace hf := hg_3.2
  refine f_iast dX9_starsOf_25 (by decide) sh_86 hg_3.1 ?_
  refine x_aload_n dX9_starsOf_26 rfl ?_
  refine f_getR (b := 86) dX9_starsOf_27 xcl_9 (by decide) fl_RX9_73 (by decide) sh_0 rfl ?_
  refine x_iconst (v := 5) dX9_starsOf_30 (by decide) ?_
  refine x_aload_n dX9_starsOf_31 rfl ?_
  refine f_getR (b := 85) dX9_starsOf_32 xcl_9 (by decide) fl_RX9_69 (by decide) sh_0 rfl ?_
  refine x_iload_n dX9_starsOf_35 rfl ?_
  have hg_4 := x_gd hf
  replace hf := hg_4.2
  refine f_zald dX9_starsOf_36 (by decide) sh_85 hg_4.1 ?_
  refine x_if_eq 44 dX9_starsOf_37 (by decide) (fun hc => ?_) (fun hc => ?_)
  · replace hf := x_ift hc hf
    refine x_iconst (v := 0) dX9_starsOf_44 (by decide) ?_
    have hg_5 := x_gd hf
    replace hf := hg_5.2
    refine f_iast dX9_starsOf_45 (by decide) sh_86 hg_5.1 ?_
    refine x_aload_n dX9_starsOf_46 rfl ?_
    refine f_getR (b := 41) dX9_starsOf_47 xcl_9 (by decide) fl_RX9_47 (by decide) sh_0 rfl ?_
    refine x_aload_n dX9_starsOf_50 rfl ?_
    refine f_getR (b := 86) dX9_starsOf_51 xcl_9 (by decide) fl_RX9_73 (by decide) sh_0 rfl ?_
    obtain ⟨q_6, hq_6, hf⟩ := Option.bind_eq_some_iff.mp hf
    refine f_cVi mX6_starsFor [.ref (xB E + 86)] [] dX9_starsOf_54 cs_RX9_276 ⟨w_777, w_50⟩ (ci := 6) rfl (by decide) sh_41 rfl rfl (Nat.le_of_ble_eq_true rfl) (by omega) (c_X6_starsFor (d := d - 1) (by omega) (xst (xst q_2.2.1 ag_named (4 : Int32).toNatClampNeg q_2.1) ag_named (5 : Int32).toNatClampNeg (0 : Int32), q_2.2.2) q_6 hq_6) ?_
    exact x_iret dX9_starsOf_57 rfl (by cases hf; exact hR)
  · replace hf := x_iff hc hf
    refine x_iconst (v := 1) dX9_starsOf_40 (by decide) ?_
    refine x_goto 45 dX9_starsOf_41 (by decide) ?_
    have hg_7 := x_gd hf
    replace hf := hg_7.2
    refine f_iast dX9_starsOf_45 (by decide) sh_86 hg_7.1 ?_
    refine x_aload_n dX9_starsOf_46 rfl ?_
    refine f_getR (b := 41) dX9_starsOf_47 xcl_9 (by decide) fl_RX9_47 (by decide) sh_0 rfl ?_
    refine x_aload_n dX9_starsOf_50 rfl ?_
    refine f_getR (b := 86) dX9_starsOf_51 xcl_9 (by decide) fl_RX9_73 (by decide) sh_0 rfl ?_
    obtain ⟨q_8, hq_8, hf⟩ := Option.bind_eq_some_iff.mp hf
    refine f_cVi mX6_starsFor [.ref (xB E + 86)] [] dX9_starsOf_54 cs_RX9_276 ⟨w_777, w_50⟩ (ci := 6) rfl (by decide) sh_41 rfl rfl (Nat.le_of_ble_eq_true rfl) (by omega) (c_X6_starsFor (d := d - 1) (by omega) (xst (xst q_2.2.1 ag_named (4 : Int32).toNatClampNeg q_2.1) ag_named (5 : Int32).toNatClampNeg (1 : Int32), q_2.2.2) q_8 hq_8) ?_
    exact x_iret dX9_starsOf_57 rfl (by cases hf; exact hR)
theorem c_X9_starsOf {E : xE} {d : Nat} (hd : 5 ≤ d) (x1 : Int32) (m : xMem) (out : Int32 × xMem) (h : F_X9_starsOf x1 m = some out) : xCi E mX9_starsOf d [.ref (xB E + 0), .int x1] m out.1 out.2 :=
  x_enter (by decide +kernel) (Nat.le_of_ble_eq_true rfl) (pF_X9_starsOf hd (Q := _) out ⟨rfl, rfl⟩ x1 m h)
-- X9_stars
def F_X9_stars (x1 : Int32) (m : xMem) : Option (Int32 × xMem) :=
  (F_X9_isPlace (x1) m).bind fun q_1 => (
  if q_1.1 = 0 then (
    some ((-1 : Int32), q_1.2))
  else (
    (F_X9_starsOf (x1) q_1.2).bind fun q_2 => (
    some (q_2.1, q_2.2))))
set_option maxHeartbeats 4000000 in
set_option maxRecDepth 100000 in
theorem pF_X9_stars {E : xE} {d : Nat} {Q : Option Value → xS → Prop} (hd : 6 ≤ d) (out : Int32 × xMem) (hR : Q (some (.int out.1)) (xf E out.2)) (x1 : Int32) (m : xMem) (hf : F_X9_stars x1 m = some out) : xX E mX9_stars d 0 0 0 0 Q 0 [(0, .ref (xB E + 0)), (1, .int (x1))] [] (xf E m) := by
  unfold F_X9_stars at hf
  refine x_iload_n dX9_stars_0 rfl ?_
  obtain ⟨q_1, hq_1, hf⟩ := Option.bind_eq_some_iff.mp hf
  refine f_cSi mX9_isPlace [.int (x1)] [] dX9_stars_1 cs_RX9_94 w_399 rfl rfl (Nat.le_of_ble_eq_true rfl) (by omega) (c_X9_isPlace (d := d - 1) (by omega) (x1) m q_1 hq_1) ?_
  refine x_if_eq 15 dX9_stars_4 (by decide) (fun hc => ?_) (fun hc => ?_)
  · replace hf := x_ift hc hf
    refine x_iconst (v := (-1)) dX9_stars_15 (by decide) ?_
    exact x_iret dX9_stars_16 rfl (by cases hf; exact hR)
  · replace hf := x_iff hc hf
    refine x_aload_n dX9_stars_7 rfl ?_
    refine x_iload_n dX9_stars_8 rfl ?_
    obtain ⟨q_2, hq_2, hf⟩ := Option.bind_eq_some_iff.mp hf
    refine f_cVi mX9_starsOf [.int (x1)] [] dX9_stars_9 cs_RX9_191 ⟨w_752, w_45⟩ (ci := 9) rfl (by decide) sh_0 rfl rfl (Nat.le_of_ble_eq_true rfl) (by omega) (c_X9_starsOf (d := d - 1) (by omega) (x1) q_1.2 q_2 hq_2) ?_
    refine x_goto 16 dX9_stars_12 (by decide) ?_
    exact x_iret dX9_stars_16 rfl (by cases hf; exact hR)
theorem c_X9_stars {E : xE} {d : Nat} (hd : 6 ≤ d) (x1 : Int32) (m : xMem) (out : Int32 × xMem) (h : F_X9_stars x1 m = some out) : xCi E mX9_stars d [.ref (xB E + 0), .int x1] m out.1 out.2 :=
  x_enter (by decide +kernel) (Nat.le_of_ble_eq_true rfl) (pF_X9_stars hd (Q := _) out ⟨rfl, rfl⟩ x1 m h)
-- X10_worth
def J_X10_worth_186 (rec : Int32 → Int32 → xMem → Option (Int32 × xMem)) (x2 : Int32) (x3 : Int32) (m : xMem) : Option (Int32 × xMem) :=
  rec (x2 + 1) (x3) m
def J_X10_worth_33 (rec : Int32 → Int32 → xMem → Option (Int32 × xMem)) (x2 : Int32) (x3 : Int32) (x4 : Int32) (m : xMem) : Option (Int32 × xMem) :=
  if x4 = (1 : Int32) then (
    if xin x2 1320 = true then (
    if xin x3 660 = true then (
    J_X10_worth_186 rec (x2) (x3 + 1) (xst m.1 am_pile x3.toNatClampNeg (m.1 am_one x2.toNatClampNeg), m.2))
    else none)
    else none)
  else (
    if xin x2 1320 = true then (
    if xin (m.1 am_one x2.toNatClampNeg) 6 = true then (
    if xin x3 660 = true then (
    J_X10_worth_186 rec (x2) (x3 + 1) (xst m.1 am_pile x3.toNatClampNeg (m.1 am_known (m.1 am_one x2.toNatClampNeg).toNatClampNeg), m.2))
    else none)
    else none)
    else none)
def L_X10_worth_4 : Nat → Int32 → Int32 → xMem → Option (Int32 × xMem)
  | 0, _, _, _ => none
  | fk + 1, x2, x3, m =>
    if xin x2 1320 = true then (
    if (m.1 am_op x2.toNatClampNeg) = 0 then (
      if xin (0 : Int32) 660 = true then (
      some (m.1 am_pile (0 : Int32).toNatClampNeg, m))
      else none)
    else (
      if xin x2 1320 = true then (
      if (m.1 am_op x2.toNatClampNeg) = (1 : Int32) then (
        J_X10_worth_33 (fun y_26 y_27 m_28 => L_X10_worth_4 fk y_26 y_27 m_28) (x2) (x3) (m.1 am_op x2.toNatClampNeg) m)
      else (
        if (m.1 am_op x2.toNatClampNeg) = (2 : Int32) then (
          J_X10_worth_33 (fun y_29 y_30 m_31 => L_X10_worth_4 fk y_29 y_30 m_31) (x2) (x3) (m.1 am_op x2.toNatClampNeg) m)
        else (
          if xin (x3 + (-1 : Int32)) 660 = true then (
          if xin ((x3 + (-1 : Int32)) - (1 : Int32)) 660 = true then (
          if (m.1 am_op x2.toNatClampNeg) = (3 : Int32) then (
            if xin ((x3 + (-1 : Int32)) - (1 : Int32)) 660 = true then (
            J_X10_worth_186 (fun y_32 y_33 m_34 => L_X10_worth_4 fk y_32 y_33 m_34) (x2) (x3 + (-1 : Int32)) (xst m.1 am_pile ((x3 + (-1 : Int32)) - (1 : Int32)).toNatClampNeg ((m.1 am_pile ((x3 + (-1 : Int32)) - (1 : Int32)).toNatClampNeg) + (m.1 am_pile (x3 + (-1 : Int32)).toNatClampNeg)), m.2))
            else none)
          else (
            if (m.1 am_op x2.toNatClampNeg) = (4 : Int32) then (
              if xin ((x3 + (-1 : Int32)) - (1 : Int32)) 660 = true then (
              J_X10_worth_186 (fun y_35 y_36 m_37 => L_X10_worth_4 fk y_35 y_36 m_37) (x2) (x3 + (-1 : Int32)) (xst m.1 am_pile ((x3 + (-1 : Int32)) - (1 : Int32)).toNatClampNeg ((m.1 am_pile ((x3 + (-1 : Int32)) - (1 : Int32)).toNatClampNeg) - (m.1 am_pile (x3 + (-1 : Int32)).toNatClampNeg)), m.2))
              else none)
            else (
              if (m.1 am_op x2.toNatClampNeg) = (5 : Int32) then (
                if (m.1 am_pile (x3 + (-1 : Int32)).toNatClampNeg) ≤ (m.1 am_pile ((x3 + (-1 : Int32)) - (1 : Int32)).toNatClampNeg) then (
                  if xin ((x3 + (-1 : Int32)) - (1 : Int32)) 660 = true then (
                  J_X10_worth_186 (fun y_38 y_39 m_40 => L_X10_worth_4 fk y_38 y_39 m_40) (x2) (x3 + (-1 : Int32)) (xst m.1 am_pile ((x3 + (-1 : Int32)) - (1 : Int32)).toNatClampNeg (0 : Int32), m.2))
                  else none)
                else (
                  if xin ((x3 + (-1 : Int32)) - (1 : Int32)) 660 = true then (
                  J_X10_worth_186 (fun y_41 y_42 m_43 => L_X10_worth_4 fk y_41 y_42 m_43) (x2) (x3 + (-1 : Int32)) (xst m.1 am_pile ((x3 + (-1 : Int32)) - (1 : Int32)).toNatClampNeg (1 : Int32), m.2))
                  else none))
              else (
                if (m.1 am_op x2.toNatClampNeg) = (6 : Int32) then (
                  if (m.1 am_pile ((x3 + (-1 : Int32)) - (1 : Int32)).toNatClampNeg) = (m.1 am_pile (x3 + (-1 : Int32)).toNatClampNeg) then (
                    if xin ((x3 + (-1 : Int32)) - (1 : Int32)) 660 = true then (
                    J_X10_worth_186 (fun y_44 y_45 m_46 => L_X10_worth_4 fk y_44 y_45 m_46) (x2) (x3 + (-1 : Int32)) (xst m.1 am_pile ((x3 + (-1 : Int32)) - (1 : Int32)).toNatClampNeg (1 : Int32), m.2))
                    else none)
                  else (
                    if xin ((x3 + (-1 : Int32)) - (1 : Int32)) 660 = true then (
                    J_X10_worth_186 (fun y_47 y_48 m_49 => L_X10_worth_4 fk y_47 y_48 m_49) (x2) (x3 + (-1 : Int32)) (xst m.1 am_pile ((x3 + (-1 : Int32)) - (1 : Int32)).toNatClampNeg (0 : Int32), m.2))
                    else none))
                else (
                  if (m.1 am_pile ((x3 + (-1 : Int32)) - (1 : Int32)).toNatClampNeg) = 0 then (
                    if xin ((x3 + (-1 : Int32)) - (1 : Int32)) 660 = true then (
                    J_X10_worth_186 (fun y_50 y_51 m_52 => L_X10_worth_4 fk y_50 y_51 m_52) (x2) (x3 + (-1 : Int32)) (xst m.1 am_pile ((x3 + (-1 : Int32)) - (1 : Int32)).toNatClampNeg (0 : Int32), m.2))
                    else none)
                  else (
                    if (m.1 am_pile (x3 + (-1 : Int32)).toNatClampNeg) = 0 then (
                      if xin ((x3 + (-1 : Int32)) - (1 : Int32)) 660 = true then (
                      J_X10_worth_186 (fun y_53 y_54 m_55 => L_X10_worth_4 fk y_53 y_54 m_55) (x2) (x3 + (-1 : Int32)) (xst m.1 am_pile ((x3 + (-1 : Int32)) - (1 : Int32)).toNatClampNeg (0 : Int32), m.2))
                      else none)
                    else (
                      if xin ((x3 + (-1 : Int32)) - (1 : Int32)) 660 = true then (
                      J_X10_worth_186 (fun y_56 y_57 m_58 => L_X10_worth_4 fk y_56 y_57 m_58) (x2) (x3 + (-1 : Int32)) (xst m.1 am_pile ((x3 + (-1 : Int32)) - (1 : Int32)).toNatClampNeg (1 : Int32), m.2))
                      else none)))))))
          else none)
          else none)))
      else none))
    else none
def F_X10_worth (x1 : Int32) (m : xMem) : Option (Int32 × xMem) :=
  L_X10_worth_4 xfuel (x1) ((0 : Int32)) m
set_option maxHeartbeats 4000000 in
set_option maxRecDepth 100000 in
theorem pJ_X10_worth_186 {E : xE} {d : Nat} {Q : Option Value → xS → Prop} (hd : 1 ≤ d) (out : Int32 × xMem) (hR : Q (some (.int out.1)) (xf E out.2)) (rec : Int32 → Int32 → xMem → Option (Int32 × xMem)) (x2 : Int32) (x3 : Int32) (hrec : ∀ (x2 : Int32) (x3 : Int32) (m : xMem), rec x2 x3 m = some out → xX E mX10_worth d 0 0 0 0 Q 4 [(0, .ref (xB E + 87)), (2, .int (x2)), (3, .int (x3))] [] (xf E m)) (m : xMem) (hf : J_X10_worth_186 rec x2 x3 m = some out) : xX E mX10_worth d 0 0 0 0 Q 186 [(0, .ref (xB E + 87)), (2, .int (x2)), (3, .int (x3))] [] (xf E m) := by
  unfold J_X10_worth_186 at hf
  refine x_iinc (v := x2 + 1) (lv' := [(0, .ref (xB E + 87)), (2, .int (x2 + 1)), (3, .int (x3))]) dX10_worth_186 1 [1, 0, 2] rfl rfl (by decide) rfl ?_
  refine x_goto 4 dX10_worth_189 (by decide) ?_
  exact hrec _ _ _ hf
set_option maxHeartbeats 4000000 in
set_option maxRecDepth 100000 in
theorem pJ_X10_worth_33 {E : xE} {d : Nat} {Q : Option Value → xS → Prop} (hd : 1 ≤ d) (out : Int32 × xMem) (hR : Q (some (.int out.1)) (xf E out.2)) (rec : Int32 → Int32 → xMem → Option (Int32 × xMem)) (x2 : Int32) (x3 : Int32) (x4 : Int32) (hrec : ∀ (x2 : Int32) (x3 : Int32) (m : xMem), rec x2 x3 m = some out → xX E mX10_worth d 0 0 0 0 Q 4 [(0, .ref (xB E + 87)), (2, .int (x2)), (3, .int (x3))] [] (xf E m)) (m : xMem) (hf : J_X10_worth_33 rec x2 x3 x4 m = some out) : xX E mX10_worth d 0 0 0 0 Q 33 [(0, .ref (xB E + 87)), (2, .int (x2)), (3, .int (x3)), (4, .int (x4))] [] (xf E m) := by
  unfold J_X10_worth_33 at hf
  refine x_aload_n dX10_worth_33 rfl ?_
  refine f_getR (b := 102) dX10_worth_34 xcl_10 (by decide) fl_RX10_82 (by decide) sh_87 rfl ?_
  refine x_iload_n dX10_worth_37 rfl ?_
  refine x_iload dX10_worth_38 rfl ?_
  refine x_iconst (v := 1) dX10_worth_40 (by decide) ?_
  refine x_icmp_ne 53 dX10_worth_41 (by decide) (fun hc => ?_) (fun hc => ?_)
  · replace hf := x_iff hc hf
    refine x_aload_n dX10_worth_53 rfl ?_
    refine f_getR (b := 101) dX10_worth_54 xcl_10 (by decide) fl_RX10_79 (by decide) sh_87 rfl ?_
    refine x_aload_n dX10_worth_57 rfl ?_
    refine f_getR (b := 97) dX10_worth_58 xcl_10 (by decide) fl_RX10_67 (by decide) sh_87 rfl ?_
    refine x_iload_n dX10_worth_61 rfl ?_
    have hg_4 := x_gd hf
    replace hf := hg_4.2
    refine f_iald dX10_worth_62 (by decide) sh_97 hg_4.1 ?_
    have hg_5 := x_gd hf
    replace hf := hg_5.2
    refine f_iald dX10_worth_63 (by decide) sh_101 hg_5.1 ?_
    have hg_6 := x_gd hf
    replace hf := hg_6.2
    refine f_iast dX10_worth_64 (by decide) sh_102 hg_6.1 ?_
    refine x_iinc (v := x3 + 1) (lv' := [(0, .ref (xB E + 87)), (2, .int (x2)), (3, .int (x3 + 1))]) dX10_worth_65 2 [1, 2, 0] rfl rfl (by decide) rfl ?_
    refine x_goto 186 dX10_worth_68 (by decide) ?_
    exact pJ_X10_worth_186 hd out hR _ _ _ hrec _ hf
  · replace hf := x_ift hc hf
    refine x_aload_n dX10_worth_44 rfl ?_
    refine f_getR (b := 97) dX10_worth_45 xcl_10 (by decide) fl_RX10_67 (by decide) sh_87 rfl ?_
    refine x_iload_n dX10_worth_48 rfl ?_
    have hg_7 := x_gd hf
    replace hf := hg_7.2
    refine f_iald dX10_worth_49 (by decide) sh_97 hg_7.1 ?_
    refine x_goto 64 dX10_worth_50 (by decide) ?_
    have hg_8 := x_gd hf
    replace hf := hg_8.2
    refine f_iast dX10_worth_64 (by decide) sh_102 hg_8.1 ?_
    refine x_iinc (v := x3 + 1) (lv' := [(0, .ref (xB E + 87)), (2, .int (x2)), (3, .int (x3 + 1))]) dX10_worth_65 2 [1, 2, 0] rfl rfl (by decide) rfl ?_
    refine x_goto 186 dX10_worth_68 (by decide) ?_
    exact pJ_X10_worth_186 hd out hR _ _ _ hrec _ hf
set_option maxHeartbeats 4000000 in
set_option maxRecDepth 100000 in
theorem pL_X10_worth_4 {E : xE} {d : Nat} {Q : Option Value → xS → Prop} (hd : 1 ≤ d) (out : Int32 × xMem) (hR : Q (some (.int out.1)) (xf E out.2)) : ∀ (fk : Nat) (x2 : Int32) (x3 : Int32) (m : xMem), L_X10_worth_4 fk x2 x3 m = some out → xX E mX10_worth d 0 0 0 0 Q 4 [(0, .ref (xB E + 87)), (2, .int (x2)), (3, .int (x3))] [] (xf E m) := by
  intro fk
  induction fk with
  | zero => intro x2 x3 m hf; cases hf
  | succ fk ih =>
    intro x2 x3 m hf
    rw [L_X10_worth_4] at hf
    refine x_aload_n dX10_worth_4 rfl ?_
    refine f_getR (b := 96) dX10_worth_5 xcl_10 (by decide) fl_RX10_64 (by decide) sh_87 rfl ?_
    refine x_iload_n dX10_worth_8 rfl ?_
    have hg_1 := x_gd hf
    replace hf := hg_1.2
    refine f_iald dX10_worth_9 (by decide) sh_96 hg_1.1 ?_
    refine x_if_eq 192 dX10_worth_10 (by decide) (fun hc => ?_) (fun hc => ?_)
    · replace hf := x_ift hc hf
      refine x_aload_n dX10_worth_192 rfl ?_
      refine f_getR (b := 102) dX10_worth_193 xcl_10 (by decide) fl_RX10_82 (by decide) sh_87 rfl ?_
      refine x_iconst (v := 0) dX10_worth_196 (by decide) ?_
      have hg_2 := x_gd hf
      replace hf := hg_2.2
      refine f_iald dX10_worth_197 (by decide) sh_102 hg_2.1 ?_
      exact x_iret dX10_worth_198 rfl (by cases hf; exact hR)
    · replace hf := x_iff hc hf
      refine x_aload_n dX10_worth_13 rfl ?_
      refine f_getR (b := 96) dX10_worth_14 xcl_10 (by decide) fl_RX10_64 (by decide) sh_87 rfl ?_
      refine x_iload_n dX10_worth_17 rfl ?_
      have hg_3 := x_gd hf
      replace hf := hg_3.2
      refine f_iald dX10_worth_18 (by decide) sh_96 hg_3.1 ?_
      refine x_istore (lv' := [(0, .ref (xB E + 87)), (2, .int (x2)), (3, .int (x3)), (4, .int (m.1 am_op x2.toNatClampNeg))]) dX10_worth_19 [1, 2, 3, 0] (by decide) rfl ?_
      refine x_iload dX10_worth_21 rfl ?_
      refine x_iconst (v := 1) dX10_worth_23 (by decide) ?_
      refine x_icmp_eq 33 dX10_worth_24 (by decide) (fun hc => ?_) (fun hc => ?_)
      · replace hf := x_ift hc hf
        exact pJ_X10_worth_33 hd out hR _ _ _ _ (fun y0 y1 m9 h9 => ih y0 y1 m9 h9) _ hf
      · replace hf := x_iff hc hf
        refine x_iload dX10_worth_27 rfl ?_
        refine x_iconst (v := 2) dX10_worth_29 (by decide) ?_
        refine x_icmp_ne 71 dX10_worth_30 (by decide) (fun hc => ?_) (fun hc => ?_)
        · replace hf := x_iff hc hf
          refine x_iinc (v := x3 + (-1 : Int32)) (lv' := [(0, .ref (xB E + 87)), (2, .int (x2)), (3, .int (x3 + (-1 : Int32))), (4, .int (m.1 am_op x2.toNatClampNeg))]) dX10_worth_71 2 [1, 2, 0, 3] rfl rfl (by decide) rfl ?_
          refine x_aload_n dX10_worth_74 rfl ?_
          refine f_getR (b := 102) dX10_worth_75 xcl_10 (by decide) fl_RX10_82 (by decide) sh_87 rfl ?_
          refine x_iload_n dX10_worth_78 rfl ?_
          have hg_15 := x_gd hf
          replace hf := hg_15.2
          refine f_iald dX10_worth_79 (by decide) sh_102 hg_15.1 ?_
          refine x_istore (lv' := [(0, .ref (xB E + 87)), (2, .int (x2)), (3, .int (x3 + (-1 : Int32))), (4, .int (m.1 am_op x2.toNatClampNeg)), (5, .int (m.1 am_pile (x3 + (-1 : Int32)).toNatClampNeg))]) dX10_worth_80 [1, 2, 3, 4, 0] (by decide) rfl ?_
          refine x_aload_n dX10_worth_82 rfl ?_
          refine f_getR (b := 102) dX10_worth_83 xcl_10 (by decide) fl_RX10_82 (by decide) sh_87 rfl ?_
          refine x_iload_n dX10_worth_86 rfl ?_
          refine x_iconst (v := 1) dX10_worth_87 (by decide) ?_
          refine x_isub dX10_worth_88 ?_
          have hg_16 := x_gd hf
          replace hf := hg_16.2
          refine f_iald dX10_worth_89 (by decide) sh_102 hg_16.1 ?_
          refine x_istore (lv' := [(0, .ref (xB E + 87)), (2, .int (x2)), (3, .int (x3 + (-1 : Int32))), (4, .int (m.1 am_op x2.toNatClampNeg)), (5, .int (m.1 am_pile (x3 + (-1 : Int32)).toNatClampNeg)), (6, .int (m.1 am_pile ((x3 + (-1 : Int32)) - (1 : Int32)).toNatClampNeg))]) dX10_worth_90 [1, 2, 3, 4, 5, 0] (by decide) rfl ?_
          refine x_aload_n dX10_worth_92 rfl ?_
          refine f_getR (b := 102) dX10_worth_93 xcl_10 (by decide) fl_RX10_82 (by decide) sh_87 rfl ?_
          refine x_iload_n dX10_worth_96 rfl ?_
          refine x_iconst (v := 1) dX10_worth_97 (by decide) ?_
          refine x_isub dX10_worth_98 ?_
          refine x_iload dX10_worth_99 rfl ?_
          refine x_iconst (v := 3) dX10_worth_101 (by decide) ?_
          refine x_icmp_ne 113 dX10_worth_102 (by decide) (fun hc => ?_) (fun hc => ?_)
          · replace hf := x_iff hc hf
            refine x_iload dX10_worth_113 rfl ?_
            refine x_iconst (v := 4) dX10_worth_115 (by decide) ?_
            refine x_icmp_ne 127 dX10_worth_116 (by decide) (fun hc => ?_) (fun hc => ?_)
            · replace hf := x_iff hc hf
              refine x_iload dX10_worth_127 rfl ?_
              refine x_iconst (v := 5) dX10_worth_129 (by decide) ?_
              refine x_icmp_ne 148 dX10_worth_130 (by decide) (fun hc => ?_) (fun hc => ?_)
              · replace hf := x_iff hc hf
                refine x_iload dX10_worth_148 rfl ?_
                refine x_bipush (v := 6) dX10_worth_150 (by decide) ?_
                refine x_icmp_ne 170 dX10_worth_152 (by decide) (fun hc => ?_) (fun hc => ?_)
                · replace hf := x_iff hc hf
                  refine x_iload dX10_worth_170 rfl ?_
                  refine x_if_eq 184 dX10_worth_172 (by decide) (fun hc => ?_) (fun hc => ?_)
                  · replace hf := x_ift hc hf
                    refine x_iconst (v := 0) dX10_worth_184 (by decide) ?_
                    have hg_17 := x_gd hf
                    replace hf := hg_17.2
                    refine f_iast dX10_worth_185 (by decide) sh_102 hg_17.1 ?_
                    refine x_lv (lv' := [(0, .ref (xB E + 87)), (2, .int (x2)), (3, .int (x3 + (-1 : Int32)))]) [0, 1, 2] rfl ?_
                    exact pJ_X10_worth_186 hd out hR _ _ _ (fun y0 y1 m9 h9 => ih y0 y1 m9 h9) _ hf
                  · replace hf := x_iff hc hf
                    refine x_iload dX10_worth_175 rfl ?_
                    refine x_if_eq 184 dX10_worth_177 (by decide) (fun hc => ?_) (fun hc => ?_)
                    · replace hf := x_ift hc hf
                      refine x_iconst (v := 0) dX10_worth_184 (by decide) ?_
                      have hg_18 := x_gd hf
                      replace hf := hg_18.2
                      refine f_iast dX10_worth_185 (by decide) sh_102 hg_18.1 ?_
                      refine x_lv (lv' := [(0, .ref (xB E + 87)), (2, .int (x2)), (3, .int (x3 + (-1 : Int32)))]) [0, 1, 2] rfl ?_
                      exact pJ_X10_worth_186 hd out hR _ _ _ (fun y0 y1 m9 h9 => ih y0 y1 m9 h9) _ hf
                    · replace hf := x_iff hc hf
                      refine x_iconst (v := 1) dX10_worth_180 (by decide) ?_
                      refine x_goto 185 dX10_worth_181 (by decide) ?_
                      have hg_19 := x_gd hf
                      replace hf := hg_19.2
                      refine f_iast dX10_worth_185 (by decide) sh_102 hg_19.1 ?_
                      refine x_lv (lv' := [(0, .ref (xB E + 87)), (2, .int (x2)), (3, .int (x3 + (-1 : Int32)))]) [0, 1, 2] rfl ?_
                      exact pJ_X10_worth_186 hd out hR _ _ _ (fun y0 y1 m9 h9 => ih y0 y1 m9 h9) _ hf
                · replace hf := x_ift hc hf
                  refine x_iload dX10_worth_155 rfl ?_
                  refine x_iload dX10_worth_157 rfl ?_
                  refine x_icmp_ne 166 dX10_worth_159 (by decide) (fun hc => ?_) (fun hc => ?_)
                  · replace hf := x_iff hc hf
                    refine x_iconst (v := 0) dX10_worth_166 (by decide) ?_
                    refine x_goto 185 dX10_worth_167 (by decide) ?_
                    have hg_20 := x_gd hf
                    replace hf := hg_20.2
                    refine f_iast dX10_worth_185 (by decide) sh_102 hg_20.1 ?_
                    refine x_lv (lv' := [(0, .ref (xB E + 87)), (2, .int (x2)), (3, .int (x3 + (-1 : Int32)))]) [0, 1, 2] rfl ?_
                    exact pJ_X10_worth_186 hd out hR _ _ _ (fun y0 y1 m9 h9 => ih y0 y1 m9 h9) _ hf
                  · replace hf := x_ift hc hf
                    refine x_iconst (v := 1) dX10_worth_162 (by decide) ?_
                    refine x_goto 185 dX10_worth_163 (by decide) ?_
                    have hg_21 := x_gd hf
                    replace hf := hg_21.2
                    refine f_iast dX10_worth_185 (by decide) sh_102 hg_21.1 ?_
                    refine x_lv (lv' := [(0, .ref (xB E + 87)), (2, .int (x2)), (3, .int (x3 + (-1 : Int32)))]) [0, 1, 2] rfl ?_
                    exact pJ_X10_worth_186 hd out hR _ _ _ (fun y0 y1 m9 h9 => ih y0 y1 m9 h9) _ hf
              · replace hf := x_ift hc hf
                refine x_iload dX10_worth_133 rfl ?_
                refine x_iload dX10_worth_135 rfl ?_
                refine x_icmp_ge 144 dX10_worth_137 (by decide) (fun hc => ?_) (fun hc => ?_)
                · replace hf := x_ift hc hf
                  refine x_iconst (v := 0) dX10_worth_144 (by decide) ?_
                  refine x_goto 185 dX10_worth_145 (by decide) ?_
                  have hg_22 := x_gd hf
                  replace hf := hg_22.2
                  refine f_iast dX10_worth_185 (by decide) sh_102 hg_22.1 ?_
                  refine x_lv (lv' := [(0, .ref (xB E + 87)), (2, .int (x2)), (3, .int (x3 + (-1 : Int32)))]) [0, 1, 2] rfl ?_
                  exact pJ_X10_worth_186 hd out hR _ _ _ (fun y0 y1 m9 h9 => ih y0 y1 m9 h9) _ hf
                · replace hf := x_iff hc hf
                  refine x_iconst (v := 1) dX10_worth_140 (by decide) ?_
                  refine x_goto 185 dX10_worth_141 (by decide) ?_
                  have hg_23 := x_gd hf
                  replace hf := hg_23.2
                  refine f_iast dX10_worth_185 (by decide) sh_102 hg_23.1 ?_
                  refine x_lv (lv' := [(0, .ref (xB E + 87)), (2, .int (x2)), (3, .int (x3 + (-1 : Int32)))]) [0, 1, 2] rfl ?_
                  exact pJ_X10_worth_186 hd out hR _ _ _ (fun y0 y1 m9 h9 => ih y0 y1 m9 h9) _ hf
            · replace hf := x_ift hc hf
              refine x_iload dX10_worth_119 rfl ?_
              refine x_iload dX10_worth_121 rfl ?_
              refine x_isub dX10_worth_123 ?_
              refine x_goto 185 dX10_worth_124 (by decide) ?_
              have hg_24 := x_gd hf
              replace hf := hg_24.2
              refine f_iast dX10_worth_185 (by decide) sh_102 hg_24.1 ?_
              refine x_lv (lv' := [(0, .ref (xB E + 87)), (2, .int (x2)), (3, .int (x3 + (-1 : Int32)))]) [0, 1, 2] rfl ?_
              exact pJ_X10_worth_186 hd out hR _ _ _ (fun y0 y1 m9 h9 => ih y0 y1 m9 h9) _ hf
          · replace hf := x_ift hc hf
            refine x_iload dX10_worth_105 rfl ?_
            refine x_iload dX10_worth_107 rfl ?_
            refine x_iadd dX10_worth_109 ?_
            refine x_goto 185 dX10_worth_110 (by decide) ?_
            have hg_25 := x_gd hf
            replace hf := hg_25.2
            refine f_iast dX10_worth_185 (by decide) sh_102 hg_25.1 ?_
            refine x_lv (lv' := [(0, .ref (xB E + 87)), (2, .int (x2)), (3, .int (x3 + (-1 : Int32)))]) [0, 1, 2] rfl ?_
            exact pJ_X10_worth_186 hd out hR _ _ _ (fun y0 y1 m9 h9 => ih y0 y1 m9 h9) _ hf
        · replace hf := x_ift hc hf
          exact pJ_X10_worth_33 hd out hR _ _ _ _ (fun y0 y1 m9 h9 => ih y0 y1 m9 h9) _ hf
set_option maxHeartbeats 4000000 in
set_option maxRecDepth 100000 in
theorem pF_X10_worth {E : xE} {d : Nat} {Q : Option Value → xS → Prop} (hd : 1 ≤ d) (out : Int32 × xMem) (hR : Q (some (.int out.1)) (xf E out.2)) (x1 : Int32) (m : xMem) (hf : F_X10_worth x1 m = some out) : xX E mX10_worth d 0 0 0 0 Q 0 [(0, .ref (xB E + 87)), (1, .int (x1))] [] (xf E m) := by
  unfold F_X10_worth at hf
  refine x_iload_n dX10_worth_0 rfl ?_
  refine x_istore_n (lv' := [(0, .ref (xB E + 87)), (2, .int (x1))]) dX10_worth_1 [1, 0] (by decide) rfl ?_
  refine x_iconst (v := 0) dX10_worth_2 (by decide) ?_
  refine x_istore_n (lv' := [(0, .ref (xB E + 87)), (2, .int (x1)), (3, .int ((0 : Int32)))]) dX10_worth_3 [1, 2, 0] (by decide) rfl ?_
  refine pL_X10_worth_4 hd out hR xfuel _ _ _ hf
theorem c_X10_worth {E : xE} {d : Nat} (hd : 1 ≤ d) (x1 : Int32) (m : xMem) (out : Int32 × xMem) (h : F_X10_worth x1 m = some out) : xCi E mX10_worth d [.ref (xB E + 87), .int x1] m out.1 out.2 :=
  x_enter (by decide +kernel) (Nat.le_of_ble_eq_true rfl) (pF_X10_worth hd (Q := _) out ⟨rfl, rfl⟩ x1 m h)
-- X10_starsOf
def J_X10_starsOf_126 (rec : Int32 → Int32 → Int32 → Int32 → Int32 → xMem → Option (Int32 × xMem)) (c132 : Int32 → Int32 → Int32 → Int32 → xMem → Option (Int32 × xMem)) (x1 : Int32) (x2 : Int32) (x3 : Int32) (x4 : Int32) (x5 : Int32) (x6 : Int32) (m : xMem) : Option (Int32 × xMem) :=
  rec (x2) (x3) (x4) (x5) (x6 + 1) m
def J_X10_starsOf_116 (rec : Int32 → Int32 → Int32 → Int32 → Int32 → xMem → Option (Int32 × xMem)) (c132 : Int32 → Int32 → Int32 → Int32 → xMem → Option (Int32 × xMem)) (x1 : Int32) (x2 : Int32) (x3 : Int32) (x4 : Int32) (x6 : Int32) (x7 : Int32) (s0 : Int32) (m : xMem) : Option (Int32 × xMem) :=
  J_X10_starsOf_126 rec c132 (x1) (x2 + 1) (x3 + x7) (x4) (s0) (x6) m
def J_X10_starsOf_109 (rec : Int32 → Int32 → Int32 → Int32 → Int32 → xMem → Option (Int32 × xMem)) (c132 : Int32 → Int32 → Int32 → Int32 → xMem → Option (Int32 × xMem)) (x1 : Int32) (x2 : Int32) (x3 : Int32) (x4 : Int32) (x6 : Int32) (x7 : Int32) (m : xMem) : Option (Int32 × xMem) :=
  J_X10_starsOf_116 rec c132 (x1) (x2) (x3) (x4) (x6) (x7) (x7) m
def J_X10_starsOf_96 (rec : Int32 → Int32 → Int32 → Int32 → Int32 → xMem → Option (Int32 × xMem)) (c132 : Int32 → Int32 → Int32 → Int32 → xMem → Option (Int32 × xMem)) (x1 : Int32) (x2 : Int32) (x3 : Int32) (x5 : Int32) (x6 : Int32) (x7 : Int32) (s0 : Int32) (m : xMem) : Option (Int32 × xMem) :=
  if x2 = 0 then (
    J_X10_starsOf_109 rec c132 (x1) (x2) (x3) (s0) (x6) (x7) m)
  else (
    if x7 ≤ x5 then (
      J_X10_starsOf_116 rec c132 (x1) (x2) (x3) (s0) (x6) (x7) (x5) m)
    else (
      J_X10_starsOf_109 rec c132 (x1) (x2) (x3) (s0) (x6) (x7) m))
def J_X10_starsOf_89 (rec : Int32 → Int32 → Int32 → Int32 → Int32 → xMem → Option (Int32 × xMem)) (c132 : Int32 → Int32 → Int32 → Int32 → xMem → Option (Int32 × xMem)) (x1 : Int32) (x2 : Int32) (x3 : Int32) (x5 : Int32) (x6 : Int32) (x7 : Int32) (m : xMem) : Option (Int32 × xMem) :=
  J_X10_starsOf_96 rec c132 (x1) (x2) (x3) (x5) (x6) (x7) (x7) m
def J_X10_starsOf_76 (rec : Int32 → Int32 → Int32 → Int32 → Int32 → xMem → Option (Int32 × xMem)) (c132 : Int32 → Int32 → Int32 → Int32 → xMem → Option (Int32 × xMem)) (x1 : Int32) (x2 : Int32) (x3 : Int32) (x4 : Int32) (x5 : Int32) (x6 : Int32) (s0 : Int32) (m : xMem) : Option (Int32 × xMem) :=
  if x2 = 0 then (
    J_X10_starsOf_89 rec c132 (x1) (x2) (x3) (x5) (x6) (s0) m)
  else (
    if x4 ≤ s0 then (
      J_X10_starsOf_96 rec c132 (x1) (x2) (x3) (x5) (x6) (s0) (x4) m)
    else (
      J_X10_starsOf_89 rec c132 (x1) (x2) (x3) (x5) (x6) (s0) m))
def L_X10_starsOf_13 (x1 : Int32) (c132 : Int32 → Int32 → Int32 → Int32 → xMem → Option (Int32 × xMem)) : Nat → Int32 → Int32 → Int32 → Int32 → Int32 → xMem → Option (Int32 × xMem)
  | 0, _, _, _, _, _, _ => none
  | fk + 1, x2, x3, x4, x5, x6, m =>
    if (5 : Int32) ≤ x6 then (
      c132 (x2) (x3) (x4) (x5) m)
    else (
      if xin (((5 : Int32) * x1) + x6) 50 = true then (
      if (m.1 am_marks (((5 : Int32) * x1) + x6).toNatClampNeg) < 0 then (
        J_X10_starsOf_126 (fun y_58 y_59 y_60 y_61 y_62 m_63 => L_X10_starsOf_13 x1 c132 fk y_58 y_59 y_60 y_61 y_62 m_63) c132 (x1) (x2) (x3) (x4) (x5) (x6) m)
      else (
        if xin (((5 : Int32) * x1) + x6) 50 = true then (
        (F_X10_shiftOf (x6) m).bind fun q_3 => (
        if 0 ≤ ((m.1 am_marks (((5 : Int32) * x1) + x6).toNatClampNeg) - q_3.1) then (
          if ((m.1 am_marks (((5 : Int32) * x1) + x6).toNatClampNeg) - q_3.1) ≤ (100 : Int32) then (
            J_X10_starsOf_76 (fun y_64 y_65 y_66 y_67 y_68 m_69 => L_X10_starsOf_13 x1 c132 fk y_64 y_65 y_66 y_67 y_68 m_69) c132 (x1) (x2) (x3) (x4) (x5) (x6) ((m.1 am_marks (((5 : Int32) * x1) + x6).toNatClampNeg) - q_3.1) q_3.2)
          else (
            J_X10_starsOf_76 (fun y_70 y_71 y_72 y_73 y_74 m_75 => L_X10_starsOf_13 x1 c132 fk y_70 y_71 y_72 y_73 y_74 m_75) c132 (x1) (x2) (x3) (x4) (x5) (x6) ((100 : Int32)) q_3.2))
        else (
          J_X10_starsOf_76 (fun y_76 y_77 y_78 y_79 y_80 m_81 => L_X10_starsOf_13 x1 c132 fk y_76 y_77 y_78 y_79 y_80 m_81) c132 (x1) (x2) (x3) (x4) (x5) (x6) ((0 : Int32)) q_3.2)))
        else none))
      else none)
def L_X10_starsOf_182 (x1 : Int32) (c222 : xMem → Option (Int32 × xMem)) : Nat → Int32 → xMem → Option (Int32 × xMem)
  | 0, _, _ => none
  | fk + 1, x6, m =>
    if (m.1 am fGuideBookModel_facts) ≤ x6 then (
      c222 m)
    else (
      if xin (4 : Int32) 6 = true then (
      if xin x6 60 = true then (
      if (m.1 am_placeOf x6.toNatClampNeg) = x1 then (
        if xin (4 : Int32) 6 = true then (
        L_X10_starsOf_182 (x1) c222 fk (x6 + 1) (xst m.1 am_known (4 : Int32).toNatClampNeg ((m.1 am_known (4 : Int32).toNatClampNeg) + (1 : Int32)), m.2))
        else none)
      else (
        if xin (4 : Int32) 6 = true then (
        L_X10_starsOf_182 (x1) c222 fk (x6 + 1) (xst m.1 am_known (4 : Int32).toNatClampNeg ((m.1 am_known (4 : Int32).toNatClampNeg) + (0 : Int32)), m.2))
        else none))
      else none)
      else none)
def L_X10_starsOf_251 : Nat → Int32 → xMem → Option (Int32 × xMem)
  | 0, _, _ => none
  | fk + 1, x6, m =>
    if xin (m.1 am fGuideBookModel_holds) 2 = true then (
    if (((16 : Int32) * (m.1 am fGuideBookModel_holds)) + (m.1 am_lines (m.1 am fGuideBookModel_holds).toNatClampNeg)) ≤ x6 then (
      some ((0 : Int32), m))
    else (
      if xin x6 32 = true then (
      (F_X10_worth (m.1 am_lineAt x6.toNatClampNeg) m).bind fun q_102 => (
      if q_102.1 = 0 then (
        L_X10_starsOf_251 fk (x6 + 1) q_102.2)
      else (
        if xin x6 32 = true then (
        some (q_102.2.1 am_lineN x6.toNatClampNeg, q_102.2))
        else none)))
      else none))
    else none
def F_X10_starsOf (x1 : Int32) (m : xMem) : Option (Int32 × xMem) :=
  L_X10_starsOf_13 (x1) (fun x2_82 x3_83 x4_84 x5_85 m_86 => (
    if xin (0 : Int32) 6 = true then (
    if x2_82 = 0 then (
      if xin (1 : Int32) 6 = true then (
      if xin (2 : Int32) 6 = true then (
      if xin (3 : Int32) 6 = true then (
      if xin (4 : Int32) 6 = true then (
      L_X10_starsOf_182 (x1) (fun m_109 => (
        if xin x1 10 = true then (
        if (m_109.1 am_isPaid x1.toNatClampNeg) = 0 then (
          if xin (5 : Int32) 6 = true then (
          L_X10_starsOf_251 xfuel ((16 : Int32) * ((xst m_109.1 am_known (5 : Int32).toNatClampNeg (0 : Int32)) am fGuideBookModel_holds)) (xst m_109.1 am_known (5 : Int32).toNatClampNeg (0 : Int32), m_109.2))
          else none)
        else (
          if xin (5 : Int32) 6 = true then (
          L_X10_starsOf_251 xfuel ((16 : Int32) * ((xst m_109.1 am_known (5 : Int32).toNatClampNeg (1 : Int32)) am fGuideBookModel_holds)) (xst m_109.1 am_known (5 : Int32).toNatClampNeg (1 : Int32), m_109.2))
          else none))
        else none)) xfuel ((0 : Int32)) (xst (xst (xst (xst (xst m_86.1 am_known (0 : Int32).toNatClampNeg x2_82) am_known (1 : Int32).toNatClampNeg (0 : Int32)) am_known (2 : Int32).toNatClampNeg x4_84) am_known (3 : Int32).toNatClampNeg x5_85) am_known (4 : Int32).toNatClampNeg (0 : Int32), m_86.2))
      else none)
      else none)
      else none)
      else none)
    else (
      if x2_82 = 0 then none else (
      if xin (1 : Int32) 6 = true then (
      if xin (2 : Int32) 6 = true then (
      if xin (3 : Int32) 6 = true then (
      if xin (4 : Int32) 6 = true then (
      L_X10_starsOf_182 (x1) (fun m_97 => (
        if xin x1 10 = true then (
        if (m_97.1 am_isPaid x1.toNatClampNeg) = 0 then (
          if xin (5 : Int32) 6 = true then (
          L_X10_starsOf_251 xfuel ((16 : Int32) * ((xst m_97.1 am_known (5 : Int32).toNatClampNeg (0 : Int32)) am fGuideBookModel_holds)) (xst m_97.1 am_known (5 : Int32).toNatClampNeg (0 : Int32), m_97.2))
          else none)
        else (
          if xin (5 : Int32) 6 = true then (
          L_X10_starsOf_251 xfuel ((16 : Int32) * ((xst m_97.1 am_known (5 : Int32).toNatClampNeg (1 : Int32)) am fGuideBookModel_holds)) (xst m_97.1 am_known (5 : Int32).toNatClampNeg (1 : Int32), m_97.2))
          else none))
        else none)) xfuel ((0 : Int32)) (xst (xst (xst (xst (xst m_86.1 am_known (0 : Int32).toNatClampNeg x2_82) am_known (1 : Int32).toNatClampNeg (x3_83 / x2_82)) am_known (2 : Int32).toNatClampNeg x4_84) am_known (3 : Int32).toNatClampNeg x5_85) am_known (4 : Int32).toNatClampNeg (0 : Int32), m_86.2))
      else none)
      else none)
      else none)
      else none)))
    else none)) xfuel ((0 : Int32)) ((0 : Int32)) ((0 : Int32)) ((0 : Int32)) ((0 : Int32)) m
set_option maxHeartbeats 4000000 in
set_option maxRecDepth 100000 in
theorem pJ_X10_starsOf_126 {E : xE} {d : Nat} {Q : Option Value → xS → Prop} (hd : 2 ≤ d) (out : Int32 × xMem) (hR : Q (some (.int out.1)) (xf E out.2)) (rec : Int32 → Int32 → Int32 → Int32 → Int32 → xMem → Option (Int32 × xMem)) (c132 : Int32 → Int32 → Int32 → Int32 → xMem → Option (Int32 × xMem)) (x1 : Int32) (x2 : Int32) (x3 : Int32) (x4 : Int32) (x5 : Int32) (x6 : Int32) (hrec : ∀ (x2 : Int32) (x3 : Int32) (x4 : Int32) (x5 : Int32) (x6 : Int32) (m : xMem), rec x2 x3 x4 x5 x6 m = some out → xX E mX10_starsOf d 0 0 0 0 Q 13 [(0, .ref (xB E + 87)), (1, .int (x1)), (2, .int (x2)), (3, .int (x3)), (4, .int (x4)), (5, .int (x5)), (6, .int (x6))] [] (xf E m)) (hc132 : ∀ (x2 : Int32) (x3 : Int32) (x4 : Int32) (x5 : Int32) (m : xMem), c132 x2 x3 x4 x5 m = some out → xX E mX10_starsOf d 0 0 0 0 Q 132 [(0, .ref (xB E + 87)), (1, .int (x1)), (2, .int (x2)), (3, .int (x3)), (4, .int (x4)), (5, .int (x5))] [] (xf E m)) (m : xMem) (hf : J_X10_starsOf_126 rec c132 x1 x2 x3 x4 x5 x6 m = some out) : xX E mX10_starsOf d 0 0 0 0 Q 126 [(0, .ref (xB E + 87)), (1, .int (x1)), (2, .int (x2)), (3, .int (x3)), (4, .int (x4)), (5, .int (x5)), (6, .int (x6))] [] (xf E m) := by
  unfold J_X10_starsOf_126 at hf
  refine x_iinc (v := x6 + 1) (lv' := [(0, .ref (xB E + 87)), (1, .int (x1)), (2, .int (x2)), (3, .int (x3)), (4, .int (x4)), (5, .int (x5)), (6, .int (x6 + 1))]) dX10_starsOf_126 6 [1, 2, 3, 4, 5, 6, 0] rfl rfl (by decide) rfl ?_
  refine x_goto 13 dX10_starsOf_129 (by decide) ?_
  exact hrec _ _ _ _ _ _ hf
set_option maxHeartbeats 4000000 in
set_option maxRecDepth 100000 in
theorem pJ_X10_starsOf_116 {E : xE} {d : Nat} {Q : Option Value → xS → Prop} (hd : 2 ≤ d) (out : Int32 × xMem) (hR : Q (some (.int out.1)) (xf E out.2)) (rec : Int32 → Int32 → Int32 → Int32 → Int32 → xMem → Option (Int32 × xMem)) (c132 : Int32 → Int32 → Int32 → Int32 → xMem → Option (Int32 × xMem)) (x1 : Int32) (x2 : Int32) (x3 : Int32) (x4 : Int32) (x6 : Int32) (x7 : Int32) (s0 : Int32) (hrec : ∀ (x2 : Int32) (x3 : Int32) (x4 : Int32) (x5 : Int32) (x6 : Int32) (m : xMem), rec x2 x3 x4 x5 x6 m = some out → xX E mX10_starsOf d 0 0 0 0 Q 13 [(0, .ref (xB E + 87)), (1, .int (x1)), (2, .int (x2)), (3, .int (x3)), (4, .int (x4)), (5, .int (x5)), (6, .int (x6))] [] (xf E m)) (hc132 : ∀ (x2 : Int32) (x3 : Int32) (x4 : Int32) (x5 : Int32) (m : xMem), c132 x2 x3 x4 x5 m = some out → xX E mX10_starsOf d 0 0 0 0 Q 132 [(0, .ref (xB E + 87)), (1, .int (x1)), (2, .int (x2)), (3, .int (x3)), (4, .int (x4)), (5, .int (x5))] [] (xf E m)) (m : xMem) (hf : J_X10_starsOf_116 rec c132 x1 x2 x3 x4 x6 x7 s0 m = some out) : xX E mX10_starsOf d 0 0 0 0 Q 116 [(0, .ref (xB E + 87)), (1, .int (x1)), (2, .int (x2)), (3, .int (x3)), (4, .int (x4)), (6, .int (x6)), (7, .int (x7))] [.int (s0)] (xf E m) := by
  unfold J_X10_starsOf_116 at hf
  refine x_istore (lv' := [(0, .ref (xB E + 87)), (1, .int (x1)), (2, .int (x2)), (3, .int (x3)), (4, .int (x4)), (5, .int (s0)), (6, .int (x6)), (7, .int (x7))]) dX10_starsOf_116 [1, 2, 3, 4, 5, 0, 6, 7] (by decide) rfl ?_
  refine x_iload_n dX10_starsOf_118 rfl ?_
  refine x_iload dX10_starsOf_119 rfl ?_
  refine x_iadd dX10_starsOf_121 ?_
  refine x_istore_n (lv' := [(0, .ref (xB E + 87)), (1, .int (x1)), (2, .int (x2)), (3, .int (x3 + x7)), (4, .int (x4)), (5, .int (s0)), (6, .int (x6))]) dX10_starsOf_122 [1, 2, 3, 0, 4, 5, 6] (by decide) rfl ?_
  refine x_iinc (v := x2 + 1) (lv' := [(0, .ref (xB E + 87)), (1, .int (x1)), (2, .int (x2 + 1)), (3, .int (x3 + x7)), (4, .int (x4)), (5, .int (s0)), (6, .int (x6))]) dX10_starsOf_123 2 [1, 2, 0, 3, 4, 5, 6] rfl rfl (by decide) rfl ?_
  exact pJ_X10_starsOf_126 hd out hR _ _ _ _ _ _ _ _ hrec hc132 _ hf
set_option maxHeartbeats 4000000 in
set_option maxRecDepth 100000 in
theorem pJ_X10_starsOf_109 {E : xE} {d : Nat} {Q : Option Value → xS → Prop} (hd : 2 ≤ d) (out : Int32 × xMem) (hR : Q (some (.int out.1)) (xf E out.2)) (rec : Int32 → Int32 → Int32 → Int32 → Int32 → xMem → Option (Int32 × xMem)) (c132 : Int32 → Int32 → Int32 → Int32 → xMem → Option (Int32 × xMem)) (x1 : Int32) (x2 : Int32) (x3 : Int32) (x4 : Int32) (x6 : Int32) (x7 : Int32) (hrec : ∀ (x2 : Int32) (x3 : Int32) (x4 : Int32) (x5 : Int32) (x6 : Int32) (m : xMem), rec x2 x3 x4 x5 x6 m = some out → xX E mX10_starsOf d 0 0 0 0 Q 13 [(0, .ref (xB E + 87)), (1, .int (x1)), (2, .int (x2)), (3, .int (x3)), (4, .int (x4)), (5, .int (x5)), (6, .int (x6))] [] (xf E m)) (hc132 : ∀ (x2 : Int32) (x3 : Int32) (x4 : Int32) (x5 : Int32) (m : xMem), c132 x2 x3 x4 x5 m = some out → xX E mX10_starsOf d 0 0 0 0 Q 132 [(0, .ref (xB E + 87)), (1, .int (x1)), (2, .int (x2)), (3, .int (x3)), (4, .int (x4)), (5, .int (x5))] [] (xf E m)) (m : xMem) (hf : J_X10_starsOf_109 rec c132 x1 x2 x3 x4 x6 x7 m = some out) : xX E mX10_starsOf d 0 0 0 0 Q 109 [(0, .ref (xB E + 87)), (1, .int (x1)), (2, .int (x2)), (3, .int (x3)), (4, .int (x4)), (6, .int (x6)), (7, .int (x7))] [] (xf E m) := by
  unfold J_X10_starsOf_109 at hf
  refine x_iload dX10_starsOf_109 rfl ?_
  refine x_goto 116 dX10_starsOf_111 (by decide) ?_
  exact pJ_X10_starsOf_116 hd out hR _ _ _ _ _ _ _ _ _ hrec hc132 _ hf
set_option maxHeartbeats 4000000 in
set_option maxRecDepth 100000 in
theorem pJ_X10_starsOf_96 {E : xE} {d : Nat} {Q : Option Value → xS → Prop} (hd : 2 ≤ d) (out : Int32 × xMem) (hR : Q (some (.int out.1)) (xf E out.2)) (rec : Int32 → Int32 → Int32 → Int32 → Int32 → xMem → Option (Int32 × xMem)) (c132 : Int32 → Int32 → Int32 → Int32 → xMem → Option (Int32 × xMem)) (x1 : Int32) (x2 : Int32) (x3 : Int32) (x5 : Int32) (x6 : Int32) (x7 : Int32) (s0 : Int32) (hrec : ∀ (x2 : Int32) (x3 : Int32) (x4 : Int32) (x5 : Int32) (x6 : Int32) (m : xMem), rec x2 x3 x4 x5 x6 m = some out → xX E mX10_starsOf d 0 0 0 0 Q 13 [(0, .ref (xB E + 87)), (1, .int (x1)), (2, .int (x2)), (3, .int (x3)), (4, .int (x4)), (5, .int (x5)), (6, .int (x6))] [] (xf E m)) (hc132 : ∀ (x2 : Int32) (x3 : Int32) (x4 : Int32) (x5 : Int32) (m : xMem), c132 x2 x3 x4 x5 m = some out → xX E mX10_starsOf d 0 0 0 0 Q 132 [(0, .ref (xB E + 87)), (1, .int (x1)), (2, .int (x2)), (3, .int (x3)), (4, .int (x4)), (5, .int (x5))] [] (xf E m)) (m : xMem) (hf : J_X10_starsOf_96 rec c132 x1 x2 x3 x5 x6 x7 s0 m = some out) : xX E mX10_starsOf d 0 0 0 0 Q 96 [(0, .ref (xB E + 87)), (1, .int (x1)), (2, .int (x2)), (3, .int (x3)), (5, .int (x5)), (6, .int (x6)), (7, .int (x7))] [.int (s0)] (xf E m) := by
  unfold J_X10_starsOf_96 at hf
  refine x_istore (lv' := [(0, .ref (xB E + 87)), (1, .int (x1)), (2, .int (x2)), (3, .int (x3)), (4, .int (s0)), (5, .int (x5)), (6, .int (x6)), (7, .int (x7))]) dX10_starsOf_96 [1, 2, 3, 4, 0, 5, 6, 7] (by decide) rfl ?_
  refine x_iload_n dX10_starsOf_98 rfl ?_
  refine x_if_eq 109 dX10_starsOf_99 (by decide) (fun hc => ?_) (fun hc => ?_)
  · replace hf := x_ift hc hf
    refine x_lv (lv' := [(0, .ref (xB E + 87)), (1, .int (x1)), (2, .int (x2)), (3, .int (x3)), (4, .int (s0)), (6, .int (x6)), (7, .int (x7))]) [0, 1, 2, 3, 4, 6, 7] rfl ?_
    exact pJ_X10_starsOf_109 hd out hR _ _ _ _ _ _ _ _ hrec hc132 _ hf
  · replace hf := x_iff hc hf
    refine x_iload dX10_starsOf_102 rfl ?_
    refine x_iload dX10_starsOf_104 rfl ?_
    refine x_icmp_le 114 dX10_starsOf_106 (by decide) (fun hc => ?_) (fun hc => ?_)
    · replace hf := x_ift hc hf
      refine x_iload dX10_starsOf_114 rfl ?_
      refine x_lv (lv' := [(0, .ref (xB E + 87)), (1, .int (x1)), (2, .int (x2)), (3, .int (x3)), (4, .int (s0)), (6, .int (x6)), (7, .int (x7))]) [0, 1, 2, 3, 4, 6, 7] rfl ?_
      exact pJ_X10_starsOf_116 hd out hR _ _ _ _ _ _ _ _ _ hrec hc132 _ hf
    · replace hf := x_iff hc hf
      refine x_lv (lv' := [(0, .ref (xB E + 87)), (1, .int (x1)), (2, .int (x2)), (3, .int (x3)), (4, .int (s0)), (6, .int (x6)), (7, .int (x7))]) [0, 1, 2, 3, 4, 6, 7] rfl ?_
      exact pJ_X10_starsOf_109 hd out hR _ _ _ _ _ _ _ _ hrec hc132 _ hf
set_option maxHeartbeats 4000000 in
set_option maxRecDepth 100000 in
theorem pJ_X10_starsOf_89 {E : xE} {d : Nat} {Q : Option Value → xS → Prop} (hd : 2 ≤ d) (out : Int32 × xMem) (hR : Q (some (.int out.1)) (xf E out.2)) (rec : Int32 → Int32 → Int32 → Int32 → Int32 → xMem → Option (Int32 × xMem)) (c132 : Int32 → Int32 → Int32 → Int32 → xMem → Option (Int32 × xMem)) (x1 : Int32) (x2 : Int32) (x3 : Int32) (x5 : Int32) (x6 : Int32) (x7 : Int32) (hrec : ∀ (x2 : Int32) (x3 : Int32) (x4 : Int32) (x5 : Int32) (x6 : Int32) (m : xMem), rec x2 x3 x4 x5 x6 m = some out → xX E mX10_starsOf d 0 0 0 0 Q 13 [(0, .ref (xB E + 87)), (1, .int (x1)), (2, .int (x2)), (3, .int (x3)), (4, .int (x4)), (5, .int (x5)), (6, .int (x6))] [] (xf E m)) (hc132 : ∀ (x2 : Int32) (x3 : Int32) (x4 : Int32) (x5 : Int32) (m : xMem), c132 x2 x3 x4 x5 m = some out → xX E mX10_starsOf d 0 0 0 0 Q 132 [(0, .ref (xB E + 87)), (1, .int (x1)), (2, .int (x2)), (3, .int (x3)), (4, .int (x4)), (5, .int (x5))] [] (xf E m)) (m : xMem) (hf : J_X10_starsOf_89 rec c132 x1 x2 x3 x5 x6 x7 m = some out) : xX E mX10_starsOf d 0 0 0 0 Q 89 [(0, .ref (xB E + 87)), (1, .int (x1)), (2, .int (x2)), (3, .int (x3)), (5, .int (x5)), (6, .int (x6)), (7, .int (x7))] [] (xf E m) := by
  unfold J_X10_starsOf_89 at hf
  refine x_iload dX10_starsOf_89 rfl ?_
  refine x_goto 96 dX10_starsOf_91 (by decide) ?_
  exact pJ_X10_starsOf_96 hd out hR _ _ _ _ _ _ _ _ _ hrec hc132 _ hf
set_option maxHeartbeats 4000000 in
set_option maxRecDepth 100000 in
theorem pJ_X10_starsOf_76 {E : xE} {d : Nat} {Q : Option Value → xS → Prop} (hd : 2 ≤ d) (out : Int32 × xMem) (hR : Q (some (.int out.1)) (xf E out.2)) (rec : Int32 → Int32 → Int32 → Int32 → Int32 → xMem → Option (Int32 × xMem)) (c132 : Int32 → Int32 → Int32 → Int32 → xMem → Option (Int32 × xMem)) (x1 : Int32) (x2 : Int32) (x3 : Int32) (x4 : Int32) (x5 : Int32) (x6 : Int32) (s0 : Int32) (hrec : ∀ (x2 : Int32) (x3 : Int32) (x4 : Int32) (x5 : Int32) (x6 : Int32) (m : xMem), rec x2 x3 x4 x5 x6 m = some out → xX E mX10_starsOf d 0 0 0 0 Q 13 [(0, .ref (xB E + 87)), (1, .int (x1)), (2, .int (x2)), (3, .int (x3)), (4, .int (x4)), (5, .int (x5)), (6, .int (x6))] [] (xf E m)) (hc132 : ∀ (x2 : Int32) (x3 : Int32) (x4 : Int32) (x5 : Int32) (m : xMem), c132 x2 x3 x4 x5 m = some out → xX E mX10_starsOf d 0 0 0 0 Q 132 [(0, .ref (xB E + 87)), (1, .int (x1)), (2, .int (x2)), (3, .int (x3)), (4, .int (x4)), (5, .int (x5))] [] (xf E m)) (m : xMem) (hf : J_X10_starsOf_76 rec c132 x1 x2 x3 x4 x5 x6 s0 m = some out) : xX E mX10_starsOf d 0 0 0 0 Q 76 [(0, .ref (xB E + 87)), (1, .int (x1)), (2, .int (x2)), (3, .int (x3)), (4, .int (x4)), (5, .int (x5)), (6, .int (x6))] [.int (s0)] (xf E m) := by
  unfold J_X10_starsOf_76 at hf
  refine x_istore (lv' := [(0, .ref (xB E + 87)), (1, .int (x1)), (2, .int (x2)), (3, .int (x3)), (4, .int (x4)), (5, .int (x5)), (6, .int (x6)), (7, .int (s0))]) dX10_starsOf_76 [1, 2, 3, 4, 5, 6, 7, 0] (by decide) rfl ?_
  refine x_iload_n dX10_starsOf_78 rfl ?_
  refine x_if_eq 89 dX10_starsOf_79 (by decide) (fun hc => ?_) (fun hc => ?_)
  · replace hf := x_ift hc hf
    refine x_lv (lv' := [(0, .ref (xB E + 87)), (1, .int (x1)), (2, .int (x2)), (3, .int (x3)), (5, .int (x5)), (6, .int (x6)), (7, .int (s0))]) [0, 1, 2, 3, 5, 6, 7] rfl ?_
    exact pJ_X10_starsOf_89 hd out hR _ _ _ _ _ _ _ _ hrec hc132 _ hf
  · replace hf := x_iff hc hf
    refine x_iload dX10_starsOf_82 rfl ?_
    refine x_iload dX10_starsOf_84 rfl ?_
    refine x_icmp_ge 94 dX10_starsOf_86 (by decide) (fun hc => ?_) (fun hc => ?_)
    · replace hf := x_ift hc hf
      refine x_iload dX10_starsOf_94 rfl ?_
      refine x_lv (lv' := [(0, .ref (xB E + 87)), (1, .int (x1)), (2, .int (x2)), (3, .int (x3)), (5, .int (x5)), (6, .int (x6)), (7, .int (s0))]) [0, 1, 2, 3, 5, 6, 7] rfl ?_
      exact pJ_X10_starsOf_96 hd out hR _ _ _ _ _ _ _ _ _ hrec hc132 _ hf
    · replace hf := x_iff hc hf
      refine x_lv (lv' := [(0, .ref (xB E + 87)), (1, .int (x1)), (2, .int (x2)), (3, .int (x3)), (5, .int (x5)), (6, .int (x6)), (7, .int (s0))]) [0, 1, 2, 3, 5, 6, 7] rfl ?_
      exact pJ_X10_starsOf_89 hd out hR _ _ _ _ _ _ _ _ hrec hc132 _ hf
set_option maxHeartbeats 4000000 in
set_option maxRecDepth 100000 in
theorem pL_X10_starsOf_13 {E : xE} {d : Nat} {Q : Option Value → xS → Prop} (hd : 2 ≤ d) (out : Int32 × xMem) (hR : Q (some (.int out.1)) (xf E out.2)) (x1 : Int32) (c132 : Int32 → Int32 → Int32 → Int32 → xMem → Option (Int32 × xMem)) (hc132 : ∀ (x2 : Int32) (x3 : Int32) (x4 : Int32) (x5 : Int32) (m : xMem), c132 x2 x3 x4 x5 m = some out → xX E mX10_starsOf d 0 0 0 0 Q 132 [(0, .ref (xB E + 87)), (1, .int (x1)), (2, .int (x2)), (3, .int (x3)), (4, .int (x4)), (5, .int (x5))] [] (xf E m)) : ∀ (fk : Nat) (x2 : Int32) (x3 : Int32) (x4 : Int32) (x5 : Int32) (x6 : Int32) (m : xMem), L_X10_starsOf_13 x1 c132 fk x2 x3 x4 x5 x6 m = some out → xX E mX10_starsOf d 0 0 0 0 Q 13 [(0, .ref (xB E + 87)), (1, .int (x1)), (2, .int (x2)), (3, .int (x3)), (4, .int (x4)), (5, .int (x5)), (6, .int (x6))] [] (xf E m) := by
  intro fk
  induction fk with
  | zero => intro x2 x3 x4 x5 x6 m hf; cases hf
  | succ fk ih =>
    intro x2 x3 x4 x5 x6 m hf
    rw [L_X10_starsOf_13] at hf
    refine x_iload dX10_starsOf_13 rfl ?_
    refine x_iconst (v := 5) dX10_starsOf_15 (by decide) ?_
    refine x_icmp_ge 132 dX10_starsOf_16 (by decide) (fun hc => ?_) (fun hc => ?_)
    · replace hf := x_ift hc hf
      refine x_lv (lv' := [(0, .ref (xB E + 87)), (1, .int (x1)), (2, .int (x2)), (3, .int (x3)), (4, .int (x4)), (5, .int (x5))]) [0, 1, 2, 3, 4, 5] rfl ?_
      exact hc132 _ _ _ _ _ hf
    · replace hf := x_iff hc hf
      refine x_aload_n dX10_starsOf_19 rfl ?_
      refine f_getR (b := 117) dX10_starsOf_20 xcl_10 (by decide) fl_RX10_127 (by decide) sh_87 rfl ?_
      refine x_iconst (v := 5) dX10_starsOf_23 (by decide) ?_
      refine x_iload_n dX10_starsOf_24 rfl ?_
      refine x_imul dX10_starsOf_25 ?_
      refine x_iload dX10_starsOf_26 rfl ?_
      refine x_iadd dX10_starsOf_28 ?_
      have hg_1 := x_gd hf
      replace hf := hg_1.2
      refine f_iald dX10_starsOf_29 (by decide) sh_117 hg_1.1 ?_
      refine x_if_lt 126 dX10_starsOf_30 (by decide) (fun hc => ?_) (fun hc => ?_)
      · replace hf := x_ift hc hf
        exact pJ_X10_starsOf_126 hd out hR _ _ _ _ _ _ _ _ (fun y0 y1 y2 y3 y4 m9 h9 => ih y0 y1 y2 y3 y4 m9 h9) hc132 _ hf
      · replace hf := x_iff hc hf
        refine x_aload_n dX10_starsOf_33 rfl ?_
        refine f_getR (b := 117) dX10_starsOf_34 xcl_10 (by decide) fl_RX10_127 (by decide) sh_87 rfl ?_
        refine x_iconst (v := 5) dX10_starsOf_37 (by decide) ?_
        refine x_iload_n dX10_starsOf_38 rfl ?_
        refine x_imul dX10_starsOf_39 ?_
        refine x_iload dX10_starsOf_40 rfl ?_
        refine x_iadd dX10_starsOf_42 ?_
        have hg_2 := x_gd hf
        replace hf := hg_2.2
        refine f_iald dX10_starsOf_43 (by decide) sh_117 hg_2.1 ?_
        refine x_aload_n dX10_starsOf_44 rfl ?_
        refine x_iload dX10_starsOf_45 rfl ?_
        obtain ⟨q_3, hq_3, hf⟩ := Option.bind_eq_some_iff.mp hf
        refine f_cVi mX10_shiftOf [.int (x6)] [.int (m.1 am_marks (((5 : Int32) * x1) + x6).toNatClampNeg)] dX10_starsOf_47 cs_RX10_294 ⟨w_1278, w_81⟩ (ci := 10) rfl (by decide) sh_87 rfl rfl (Nat.le_of_ble_eq_true rfl) (by omega) (c_X10_shiftOf (d := d - 1) (by omega) (x6) m q_3 hq_3) ?_
        refine x_isub dX10_starsOf_50 ?_
        refine x_istore (lv' := [(0, .ref (xB E + 87)), (1, .int (x1)), (2, .int (x2)), (3, .int (x3)), (4, .int (x4)), (5, .int (x5)), (6, .int (x6)), (7, .int ((m.1 am_marks (((5 : Int32) * x1) + x6).toNatClampNeg) - q_3.1))]) dX10_starsOf_51 [1, 2, 3, 4, 5, 6, 7, 0] (by decide) rfl ?_
        refine x_iload dX10_starsOf_53 rfl ?_
        refine x_if_ge 62 dX10_starsOf_55 (by decide) (fun hc => ?_) (fun hc => ?_)
        · replace hf := x_ift hc hf
          refine x_iload dX10_starsOf_62 rfl ?_
          refine x_bipush (v := 100) dX10_starsOf_64 (by decide) ?_
          refine x_icmp_le 74 dX10_starsOf_66 (by decide) (fun hc => ?_) (fun hc => ?_)
          · replace hf := x_ift hc hf
            refine x_iload dX10_starsOf_74 rfl ?_
            refine x_lv (lv' := [(0, .ref (xB E + 87)), (1, .int (x1)), (2, .int (x2)), (3, .int (x3)), (4, .int (x4)), (5, .int (x5)), (6, .int (x6))]) [0, 1, 2, 3, 4, 5, 6] rfl ?_
            exact pJ_X10_starsOf_76 hd out hR _ _ _ _ _ _ _ _ _ (fun y0 y1 y2 y3 y4 m9 h9 => ih y0 y1 y2 y3 y4 m9 h9) hc132 _ hf
          · replace hf := x_iff hc hf
            refine x_bipush (v := 100) dX10_starsOf_69 (by decide) ?_
            refine x_goto 76 dX10_starsOf_71 (by decide) ?_
            refine x_lv (lv' := [(0, .ref (xB E + 87)), (1, .int (x1)), (2, .int (x2)), (3, .int (x3)), (4, .int (x4)), (5, .int (x5)), (6, .int (x6))]) [0, 1, 2, 3, 4, 5, 6] rfl ?_
            exact pJ_X10_starsOf_76 hd out hR _ _ _ _ _ _ _ _ _ (fun y0 y1 y2 y3 y4 m9 h9 => ih y0 y1 y2 y3 y4 m9 h9) hc132 _ hf
        · replace hf := x_iff hc hf
          refine x_iconst (v := 0) dX10_starsOf_58 (by decide) ?_
          refine x_goto 76 dX10_starsOf_59 (by decide) ?_
          refine x_lv (lv' := [(0, .ref (xB E + 87)), (1, .int (x1)), (2, .int (x2)), (3, .int (x3)), (4, .int (x4)), (5, .int (x5)), (6, .int (x6))]) [0, 1, 2, 3, 4, 5, 6] rfl ?_
          exact pJ_X10_starsOf_76 hd out hR _ _ _ _ _ _ _ _ _ (fun y0 y1 y2 y3 y4 m9 h9 => ih y0 y1 y2 y3 y4 m9 h9) hc132 _ hf
set_option maxHeartbeats 4000000 in
set_option maxRecDepth 100000 in
theorem pL_X10_starsOf_182 {E : xE} {d : Nat} {Q : Option Value → xS → Prop} (hd : 2 ≤ d) (out : Int32 × xMem) (hR : Q (some (.int out.1)) (xf E out.2)) (x1 : Int32) (c222 : xMem → Option (Int32 × xMem)) (hc222 : ∀ (m : xMem), c222 m = some out → xX E mX10_starsOf d 0 0 0 0 Q 222 [(0, .ref (xB E + 87)), (1, .int (x1))] [] (xf E m)) : ∀ (fk : Nat) (x6 : Int32) (m : xMem), L_X10_starsOf_182 x1 c222 fk x6 m = some out → xX E mX10_starsOf d 0 0 0 0 Q 182 [(0, .ref (xB E + 87)), (1, .int (x1)), (6, .int (x6))] [] (xf E m) := by
  intro fk
  induction fk with
  | zero => intro x6 m hf; cases hf
  | succ fk ih =>
    intro x6 m hf
    rw [L_X10_starsOf_182] at hf
    refine x_iload dX10_starsOf_182 rfl ?_
    refine x_aload_n dX10_starsOf_184 rfl ?_
    refine f_getI dX10_starsOf_185 xcl_10 (by decide) fl_RX10_250 (by decide) sh_87 rfl ?_
    refine x_icmp_ge 222 dX10_starsOf_188 (by decide) (fun hc => ?_) (fun hc => ?_)
    · replace hf := x_ift hc hf
      refine x_lv (lv' := [(0, .ref (xB E + 87)), (1, .int (x1))]) [0, 1] rfl ?_
      exact hc222 _ hf
    · replace hf := x_iff hc hf
      refine x_aload_n dX10_starsOf_191 rfl ?_
      refine f_getR (b := 101) dX10_starsOf_192 xcl_10 (by decide) fl_RX10_79 (by decide) sh_87 rfl ?_
      refine x_iconst (v := 4) dX10_starsOf_195 (by decide) ?_
      refine x_dup2 dX10_starsOf_196 rfl rfl ?_
      have hg_93 := x_gd hf
      replace hf := hg_93.2
      refine f_iald dX10_starsOf_197 (by decide) sh_101 hg_93.1 ?_
      refine x_aload_n dX10_starsOf_198 rfl ?_
      refine f_getR (b := 104) dX10_starsOf_199 xcl_10 (by decide) fl_RX10_88 (by decide) sh_87 rfl ?_
      refine x_iload dX10_starsOf_202 rfl ?_
      have hg_94 := x_gd hf
      replace hf := hg_94.2
      refine f_iald dX10_starsOf_204 (by decide) sh_104 hg_94.1 ?_
      refine x_iload_n dX10_starsOf_205 rfl ?_
      refine x_icmp_ne 213 dX10_starsOf_206 (by decide) (fun hc => ?_) (fun hc => ?_)
      · replace hf := x_iff hc hf
        refine x_iconst (v := 0) dX10_starsOf_213 (by decide) ?_
        refine x_iadd dX10_starsOf_214 ?_
        have hg_95 := x_gd hf
        replace hf := hg_95.2
        refine f_iast dX10_starsOf_215 (by decide) sh_101 hg_95.1 ?_
        refine x_iinc (v := x6 + 1) (lv' := [(0, .ref (xB E + 87)), (1, .int (x1)), (6, .int (x6 + 1))]) dX10_starsOf_216 2 [1, 2, 0] rfl rfl (by decide) rfl ?_
        refine x_goto 182 dX10_starsOf_219 (by decide) ?_
        exact ih _ _ hf
      · replace hf := x_ift hc hf
        refine x_iconst (v := 1) dX10_starsOf_209 (by decide) ?_
        refine x_goto 214 dX10_starsOf_210 (by decide) ?_
        refine x_iadd dX10_starsOf_214 ?_
        have hg_96 := x_gd hf
        replace hf := hg_96.2
        refine f_iast dX10_starsOf_215 (by decide) sh_101 hg_96.1 ?_
        refine x_iinc (v := x6 + 1) (lv' := [(0, .ref (xB E + 87)), (1, .int (x1)), (6, .int (x6 + 1))]) dX10_starsOf_216 2 [1, 2, 0] rfl rfl (by decide) rfl ?_
        refine x_goto 182 dX10_starsOf_219 (by decide) ?_
        exact ih _ _ hf
set_option maxHeartbeats 4000000 in
set_option maxRecDepth 100000 in
theorem pL_X10_starsOf_251 {E : xE} {d : Nat} {Q : Option Value → xS → Prop} (hd : 2 ≤ d) (out : Int32 × xMem) (hR : Q (some (.int out.1)) (xf E out.2)) : ∀ (fk : Nat) (x6 : Int32) (m : xMem), L_X10_starsOf_251 fk x6 m = some out → xX E mX10_starsOf d 0 0 0 0 Q 251 [(0, .ref (xB E + 87)), (6, .int (x6))] [] (xf E m) := by
  intro fk
  induction fk with
  | zero => intro x6 m hf; cases hf
  | succ fk ih =>
    intro x6 m hf
    rw [L_X10_starsOf_251] at hf
    refine x_iload dX10_starsOf_251 rfl ?_
    refine x_bipush (v := 16) dX10_starsOf_253 (by decide) ?_
    refine x_aload_n dX10_starsOf_255 rfl ?_
    refine f_getI dX10_starsOf_256 xcl_10 (by decide) fl_RX10_203 (by decide) sh_87 rfl ?_
    refine x_imul dX10_starsOf_259 ?_
    refine x_aload_n dX10_starsOf_260 rfl ?_
    refine f_getR (b := 93) dX10_starsOf_261 xcl_10 (by decide) fl_RX10_55 (by decide) sh_87 rfl ?_
    refine x_aload_n dX10_starsOf_264 rfl ?_
    refine f_getI dX10_starsOf_265 xcl_10 (by decide) fl_RX10_203 (by decide) sh_87 rfl ?_
    have hg_100 := x_gd hf
    replace hf := hg_100.2
    refine f_iald dX10_starsOf_268 (by decide) sh_93 hg_100.1 ?_
    refine x_iadd dX10_starsOf_269 ?_
    refine x_icmp_ge 301 dX10_starsOf_270 (by decide) (fun hc => ?_) (fun hc => ?_)
    · replace hf := x_ift hc hf
      refine x_iconst (v := 0) dX10_starsOf_301 (by decide) ?_
      exact x_iret dX10_starsOf_302 rfl (by cases hf; exact hR)
    · replace hf := x_iff hc hf
      refine x_aload_n dX10_starsOf_273 rfl ?_
      refine x_aload_n dX10_starsOf_274 rfl ?_
      refine f_getR (b := 95) dX10_starsOf_275 xcl_10 (by decide) fl_RX10_61 (by decide) sh_87 rfl ?_
      refine x_iload dX10_starsOf_278 rfl ?_
      have hg_101 := x_gd hf
      replace hf := hg_101.2
      refine f_iald dX10_starsOf_280 (by decide) sh_95 hg_101.1 ?_
      obtain ⟨q_102, hq_102, hf⟩ := Option.bind_eq_some_iff.mp hf
      refine f_cVi mX10_worth [.int (m.1 am_lineAt x6.toNatClampNeg)] [] dX10_starsOf_281 cs_RX10_297 ⟨w_1294, w_83⟩ (ci := 10) rfl (by decide) sh_87 rfl rfl (Nat.le_of_ble_eq_true rfl) (by omega) (c_X10_worth (d := d - 1) (by omega) (m.1 am_lineAt x6.toNatClampNeg) m q_102 hq_102) ?_
      refine x_if_eq 295 dX10_starsOf_284 (by decide) (fun hc => ?_) (fun hc => ?_)
      · replace hf := x_ift hc hf
        refine x_iinc (v := x6 + 1) (lv' := [(0, .ref (xB E + 87)), (6, .int (x6 + 1))]) dX10_starsOf_295 1 [1, 0] rfl rfl (by decide) rfl ?_
        refine x_goto 251 dX10_starsOf_298 (by decide) ?_
        exact ih _ _ hf
      · replace hf := x_iff hc hf
        refine x_aload_n dX10_starsOf_287 rfl ?_
        refine f_getR (b := 94) dX10_starsOf_288 xcl_10 (by decide) fl_RX10_58 (by decide) sh_87 rfl ?_
        refine x_iload dX10_starsOf_291 rfl ?_
        have hg_103 := x_gd hf
        replace hf := hg_103.2
        refine f_iald dX10_starsOf_293 (by decide) sh_94 hg_103.1 ?_
        exact x_iret dX10_starsOf_294 rfl (by cases hf; exact hR)
set_option maxHeartbeats 4000000 in
set_option maxRecDepth 100000 in
theorem pF_X10_starsOf {E : xE} {d : Nat} {Q : Option Value → xS → Prop} (hd : 2 ≤ d) (out : Int32 × xMem) (hR : Q (some (.int out.1)) (xf E out.2)) (x1 : Int32) (m : xMem) (hf : F_X10_starsOf x1 m = some out) : xX E mX10_starsOf d 0 0 0 0 Q 0 [(0, .ref (xB E + 87)), (1, .int (x1))] [] (xf E m) := by
  unfold F_X10_starsOf at hf
  refine x_iconst (v := 0) dX10_starsOf_0 (by decide) ?_
  refine x_istore_n (lv' := [(0, .ref (xB E + 87)), (1, .int (x1)), (2, .int ((0 : Int32)))]) dX10_starsOf_1 [1, 2, 0] (by decide) rfl ?_
  refine x_iconst (v := 0) dX10_starsOf_2 (by decide) ?_
  refine x_istore_n (lv' := [(0, .ref (xB E + 87)), (1, .int (x1)), (2, .int ((0 : Int32))), (3, .int ((0 : Int32)))]) dX10_starsOf_3 [1, 2, 3, 0] (by decide) rfl ?_
  refine x_iconst (v := 0) dX10_starsOf_4 (by decide) ?_
  refine x_istore (lv' := [(0, .ref (xB E + 87)), (1, .int (x1)), (2, .int ((0 : Int32))), (3, .int ((0 : Int32))), (4, .int ((0 : Int32)))]) dX10_starsOf_5 [1, 2, 3, 4, 0] (by decide) rfl ?_
  refine x_iconst (v := 0) dX10_starsOf_7 (by decide) ?_
  refine x_istore (lv' := [(0, .ref (xB E + 87)), (1, .int (x1)), (2, .int ((0 : Int32))), (3, .int ((0 : Int32))), (4, .int ((0 : Int32))), (5, .int ((0 : Int32)))]) dX10_starsOf_8 [1, 2, 3, 4, 5, 0] (by decide) rfl ?_
  refine x_iconst (v := 0) dX10_starsOf_10 (by decide) ?_
  refine x_istore (lv' := [(0, .ref (xB E + 87)), (1, .int (x1)), (2, .int ((0 : Int32))), (3, .int ((0 : Int32))), (4, .int ((0 : Int32))), (5, .int ((0 : Int32))), (6, .int ((0 : Int32)))]) dX10_starsOf_11 [1, 2, 3, 4, 5, 6, 0] (by decide) rfl ?_
  refine pL_X10_starsOf_13 hd out hR _ _ (fun x2_82 x3_83 x4_84 x5_85 m_86 hf => ?_) xfuel _ _ _ _ _ _ hf
  refine x_aload_n dX10_starsOf_132 rfl ?_
  refine f_getR (b := 101) dX10_starsOf_133 xcl_10 (by decide) fl_RX10_79 (by decide) sh_87 rfl ?_
  refine x_iconst (v := 0) dX10_starsOf_136 (by decide) ?_
  refine x_iload_n dX10_starsOf_137 rfl ?_
  have hg_87 := x_gd hf
  replace hf := hg_87.2
  refine f_iast dX10_starsOf_138 (by decide) sh_101 hg_87.1 ?_
  refine x_aload_n dX10_starsOf_139 rfl ?_
  refine f_getR (b := 101) dX10_starsOf_140 xcl_10 (by decide) fl_RX10_79 (by decide) sh_87 rfl ?_
  refine x_iconst (v := 1) dX10_starsOf_143 (by decide) ?_
  refine x_iload_n dX10_starsOf_144 rfl ?_
  refine x_if_ne 152 dX10_starsOf_145 (by decide) (fun hc => ?_) (fun hc => ?_)
  · replace hf := x_iff hc hf
    refine x_iload_n dX10_starsOf_152 rfl ?_
    refine x_iload_n dX10_starsOf_153 rfl ?_
    have hg_88 := x_gp hf
    replace hf := hg_88.2
    refine x_idiv dX10_starsOf_154 hg_88.1 ?_
    have hg_89 := x_gd hf
    replace hf := hg_89.2
    refine f_iast dX10_starsOf_155 (by decide) sh_101 hg_89.1 ?_
    refine x_aload_n dX10_starsOf_156 rfl ?_
    refine f_getR (b := 101) dX10_starsOf_157 xcl_10 (by decide) fl_RX10_79 (by decide) sh_87 rfl ?_
    refine x_iconst (v := 2) dX10_starsOf_160 (by decide) ?_
    refine x_iload dX10_starsOf_161 rfl ?_
    have hg_90 := x_gd hf
    replace hf := hg_90.2
    refine f_iast dX10_starsOf_163 (by decide) sh_101 hg_90.1 ?_
    refine x_aload_n dX10_starsOf_164 rfl ?_
    refine f_getR (b := 101) dX10_starsOf_165 xcl_10 (by decide) fl_RX10_79 (by decide) sh_87 rfl ?_
    refine x_iconst (v := 3) dX10_starsOf_168 (by decide) ?_
    refine x_iload dX10_starsOf_169 rfl ?_
    have hg_91 := x_gd hf
    replace hf := hg_91.2
    refine f_iast dX10_starsOf_171 (by decide) sh_101 hg_91.1 ?_
    refine x_aload_n dX10_starsOf_172 rfl ?_
    refine f_getR (b := 101) dX10_starsOf_173 xcl_10 (by decide) fl_RX10_79 (by decide) sh_87 rfl ?_
    refine x_iconst (v := 4) dX10_starsOf_176 (by decide) ?_
    refine x_iconst (v := 0) dX10_starsOf_177 (by decide) ?_
    have hg_92 := x_gd hf
    replace hf := hg_92.2
    refine f_iast dX10_starsOf_178 (by decide) sh_101 hg_92.1 ?_
    refine x_iconst (v := 0) dX10_starsOf_179 (by decide) ?_
    refine x_istore (lv' := [(0, .ref (xB E + 87)), (1, .int (x1)), (6, .int ((0 : Int32)))]) dX10_starsOf_180 [1, 2, 0] (by decide) rfl ?_
    refine pL_X10_starsOf_182 hd out hR _ _ (fun m_97 hf => ?_) xfuel _ _ hf
    refine x_aload_n dX10_starsOf_222 rfl ?_
    refine f_getR (b := 101) dX10_starsOf_223 xcl_10 (by decide) fl_RX10_79 (by decide) sh_87 rfl ?_
    refine x_iconst (v := 5) dX10_starsOf_226 (by decide) ?_
    refine x_aload_n dX10_starsOf_227 rfl ?_
    refine f_getR (b := 118) dX10_starsOf_228 xcl_10 (by decide) fl_RX10_130 (by decide) sh_87 rfl ?_
    refine x_iload_n dX10_starsOf_231 rfl ?_
    have hg_98 := x_gd hf
    replace hf := hg_98.2
    refine f_zald dX10_starsOf_232 (by decide) sh_118 hg_98.1 ?_
    refine x_if_eq 240 dX10_starsOf_233 (by decide) (fun hc => ?_) (fun hc => ?_)
    · replace hf := x_ift hc hf
      refine x_iconst (v := 0) dX10_starsOf_240 (by decide) ?_
      have hg_99 := x_gd hf
      replace hf := hg_99.2
      refine f_iast dX10_starsOf_241 (by decide) sh_101 hg_99.1 ?_
      refine x_bipush (v := 16) dX10_starsOf_242 (by decide) ?_
      refine x_aload_n dX10_starsOf_244 rfl ?_
      refine f_getI dX10_starsOf_245 xcl_10 (by decide) fl_RX10_203 (by decide) sh_87 rfl ?_
      refine x_imul dX10_starsOf_248 ?_
      refine x_istore (lv' := [(0, .ref (xB E + 87)), (6, .int ((16 : Int32) * ((xst m_97.1 am_known (5 : Int32).toNatClampNeg (0 : Int32)) am fGuideBookModel_holds)))]) dX10_starsOf_249 [1, 0] (by decide) rfl ?_
      refine pL_X10_starsOf_251 hd out hR xfuel _ _ hf
    · replace hf := x_iff hc hf
      refine x_iconst (v := 1) dX10_starsOf_236 (by decide) ?_
      refine x_goto 241 dX10_starsOf_237 (by decide) ?_
      have hg_104 := x_gd hf
      replace hf := hg_104.2
      refine f_iast dX10_starsOf_241 (by decide) sh_101 hg_104.1 ?_
      refine x_bipush (v := 16) dX10_starsOf_242 (by decide) ?_
      refine x_aload_n dX10_starsOf_244 rfl ?_
      refine f_getI dX10_starsOf_245 xcl_10 (by decide) fl_RX10_203 (by decide) sh_87 rfl ?_
      refine x_imul dX10_starsOf_248 ?_
      refine x_istore (lv' := [(0, .ref (xB E + 87)), (6, .int ((16 : Int32) * ((xst m_97.1 am_known (5 : Int32).toNatClampNeg (1 : Int32)) am fGuideBookModel_holds)))]) dX10_starsOf_249 [1, 0] (by decide) rfl ?_
      refine pL_X10_starsOf_251 hd out hR xfuel _ _ hf
  · replace hf := x_ift hc hf
    refine x_iconst (v := 0) dX10_starsOf_148 (by decide) ?_
    refine x_goto 155 dX10_starsOf_149 (by decide) ?_
    have hg_105 := x_gd hf
    replace hf := hg_105.2
    refine f_iast dX10_starsOf_155 (by decide) sh_101 hg_105.1 ?_
    refine x_aload_n dX10_starsOf_156 rfl ?_
    refine f_getR (b := 101) dX10_starsOf_157 xcl_10 (by decide) fl_RX10_79 (by decide) sh_87 rfl ?_
    refine x_iconst (v := 2) dX10_starsOf_160 (by decide) ?_
    refine x_iload dX10_starsOf_161 rfl ?_
    have hg_106 := x_gd hf
    replace hf := hg_106.2
    refine f_iast dX10_starsOf_163 (by decide) sh_101 hg_106.1 ?_
    refine x_aload_n dX10_starsOf_164 rfl ?_
    refine f_getR (b := 101) dX10_starsOf_165 xcl_10 (by decide) fl_RX10_79 (by decide) sh_87 rfl ?_
    refine x_iconst (v := 3) dX10_starsOf_168 (by decide) ?_
    refine x_iload dX10_starsOf_169 rfl ?_
    have hg_107 := x_gd hf
    replace hf := hg_107.2
    refine f_iast dX10_starsOf_171 (by decide) sh_101 hg_107.1 ?_
    refine x_aload_n dX10_starsOf_172 rfl ?_
    refine f_getR (b := 101) dX10_starsOf_173 xcl_10 (by decide) fl_RX10_79 (by decide) sh_87 rfl ?_
    refine x_iconst (v := 4) dX10_starsOf_176 (by decide) ?_
    refine x_iconst (v := 0) dX10_starsOf_177 (by decide) ?_
    have hg_108 := x_gd hf
    replace hf := hg_108.2
    refine f_iast dX10_starsOf_178 (by decide) sh_101 hg_108.1 ?_
    refine x_iconst (v := 0) dX10_starsOf_179 (by decide) ?_
    refine x_istore (lv' := [(0, .ref (xB E + 87)), (1, .int (x1)), (6, .int ((0 : Int32)))]) dX10_starsOf_180 [1, 2, 0] (by decide) rfl ?_
    refine pL_X10_starsOf_182 hd out hR _ _ (fun m_109 hf => ?_) xfuel _ _ hf
    refine x_aload_n dX10_starsOf_222 rfl ?_
    refine f_getR (b := 101) dX10_starsOf_223 xcl_10 (by decide) fl_RX10_79 (by decide) sh_87 rfl ?_
    refine x_iconst (v := 5) dX10_starsOf_226 (by decide) ?_
    refine x_aload_n dX10_starsOf_227 rfl ?_
    refine f_getR (b := 118) dX10_starsOf_228 xcl_10 (by decide) fl_RX10_130 (by decide) sh_87 rfl ?_
    refine x_iload_n dX10_starsOf_231 rfl ?_
    have hg_110 := x_gd hf
    replace hf := hg_110.2
    refine f_zald dX10_starsOf_232 (by decide) sh_118 hg_110.1 ?_
    refine x_if_eq 240 dX10_starsOf_233 (by decide) (fun hc => ?_) (fun hc => ?_)
    · replace hf := x_ift hc hf
      refine x_iconst (v := 0) dX10_starsOf_240 (by decide) ?_
      have hg_111 := x_gd hf
      replace hf := hg_111.2
      refine f_iast dX10_starsOf_241 (by decide) sh_101 hg_111.1 ?_
      refine x_bipush (v := 16) dX10_starsOf_242 (by decide) ?_
      refine x_aload_n dX10_starsOf_244 rfl ?_
      refine f_getI dX10_starsOf_245 xcl_10 (by decide) fl_RX10_203 (by decide) sh_87 rfl ?_
      refine x_imul dX10_starsOf_248 ?_
      refine x_istore (lv' := [(0, .ref (xB E + 87)), (6, .int ((16 : Int32) * ((xst m_109.1 am_known (5 : Int32).toNatClampNeg (0 : Int32)) am fGuideBookModel_holds)))]) dX10_starsOf_249 [1, 0] (by decide) rfl ?_
      refine pL_X10_starsOf_251 hd out hR xfuel _ _ hf
    · replace hf := x_iff hc hf
      refine x_iconst (v := 1) dX10_starsOf_236 (by decide) ?_
      refine x_goto 241 dX10_starsOf_237 (by decide) ?_
      have hg_112 := x_gd hf
      replace hf := hg_112.2
      refine f_iast dX10_starsOf_241 (by decide) sh_101 hg_112.1 ?_
      refine x_bipush (v := 16) dX10_starsOf_242 (by decide) ?_
      refine x_aload_n dX10_starsOf_244 rfl ?_
      refine f_getI dX10_starsOf_245 xcl_10 (by decide) fl_RX10_203 (by decide) sh_87 rfl ?_
      refine x_imul dX10_starsOf_248 ?_
      refine x_istore (lv' := [(0, .ref (xB E + 87)), (6, .int ((16 : Int32) * ((xst m_109.1 am_known (5 : Int32).toNatClampNeg (1 : Int32)) am fGuideBookModel_holds)))]) dX10_starsOf_249 [1, 0] (by decide) rfl ?_
      refine pL_X10_starsOf_251 hd out hR xfuel _ _ hf
theorem c_X10_starsOf {E : xE} {d : Nat} (hd : 2 ≤ d) (x1 : Int32) (m : xMem) (out : Int32 × xMem) (h : F_X10_starsOf x1 m = some out) : xCi E mX10_starsOf d [.ref (xB E + 87), .int x1] m out.1 out.2 :=
  x_enter (by decide +kernel) (Nat.le_of_ble_eq_true rfl) (pF_X10_starsOf hd (Q := _) out ⟨rfl, rfl⟩ x1 m h)
