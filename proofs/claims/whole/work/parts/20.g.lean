-- X9_within
def F_X9_within (x0 : Int32) (x1 : Int32) (m : xMem) : Option (Int32 × xMem) :=
  if x0 < 0 then (
    some ((0 : Int32), m))
  else (
    if x1 < x0 then (
      some ((0 : Int32), m))
    else (
      some ((1 : Int32), m)))
set_option maxHeartbeats 4000000 in
set_option maxRecDepth 100000 in
theorem pF_X9_within {E : xE} {d : Nat} {Q : Option Value → xS → Prop} (hd : 1 ≤ d) (out : Int32 × xMem) (hR : Q (some (.int out.1)) (xf E out.2)) (x0 : Int32) (x1 : Int32) (m : xMem) (hf : F_X9_within x0 x1 m = some out) : xX E mX9_within d 0 0 0 0 Q 0 [(0, .int (x0)), (1, .int (x1))] [] (xf E m) := by
  unfold F_X9_within at hf
  refine x_iload_n dX9_within_0 rfl ?_
  refine x_if_lt 13 dX9_within_1 (by decide) (fun hc => ?_) (fun hc => ?_)
  · replace hf := x_ift hc hf
    refine x_iconst (v := 0) dX9_within_13 (by decide) ?_
    exact x_zret dX9_within_14 rfl (by decide) (by cases hf; exact hR)
  · replace hf := x_iff hc hf
    refine x_iload_n dX9_within_4 rfl ?_
    refine x_iload_n dX9_within_5 rfl ?_
    refine x_icmp_gt 13 dX9_within_6 (by decide) (fun hc => ?_) (fun hc => ?_)
    · replace hf := x_ift hc hf
      refine x_iconst (v := 0) dX9_within_13 (by decide) ?_
      exact x_zret dX9_within_14 rfl (by decide) (by cases hf; exact hR)
    · replace hf := x_iff hc hf
      refine x_iconst (v := 1) dX9_within_9 (by decide) ?_
      refine x_goto 14 dX9_within_10 (by decide) ?_
      exact x_zret dX9_within_14 rfl (by decide) (by cases hf; exact hR)
theorem c_X9_within {E : xE} {d : Nat} (hd : 1 ≤ d) (x0 : Int32) (x1 : Int32) (m : xMem) (out : Int32 × xMem) (h : F_X9_within x0 x1 m = some out) : xCi E mX9_within d [.int x0, .int x1] m out.1 out.2 :=
  x_enter (by decide +kernel) (Nat.le_of_ble_eq_true rfl) (pF_X9_within hd (Q := _) out ⟨rfl, rfl⟩ x0 x1 m h)
-- X9_years
def F_X9_years (x1 : Int32) (m : xMem) : Option (Int32 × xMem) :=
  (F_X9_within (x1) ((20 : Int32)) m).bind fun q_1 => (
  if q_1.1 = 0 then (
    some ((-1 : Int32), q_1.2))
  else (
    if ((q_1.2.1 ag_facts fFacts_now) + x1) ≤ (99 : Int32) then (
      some ((xst q_1.2.1 ag_facts fFacts_now ((q_1.2.1 ag_facts fFacts_now) + x1)) ag_facts fFacts_now, (xst q_1.2.1 ag_facts fFacts_now ((q_1.2.1 ag_facts fFacts_now) + x1), q_1.2.2)))
    else (
      some ((-1 : Int32), q_1.2))))
set_option maxHeartbeats 4000000 in
set_option maxRecDepth 100000 in
theorem pF_X9_years {E : xE} {d : Nat} {Q : Option Value → xS → Prop} (hd : 2 ≤ d) (out : Int32 × xMem) (hR : Q (some (.int out.1)) (xf E out.2)) (x1 : Int32) (m : xMem) (hf : F_X9_years x1 m = some out) : xX E mX9_years d 0 0 0 0 Q 0 [(0, .ref (xB E + 0)), (1, .int (x1))] [] (xf E m) := by
  unfold F_X9_years at hf
  refine x_iload_n dX9_years_0 rfl ?_
  refine x_bipush (v := 20) dX9_years_1 (by decide) ?_
  obtain ⟨q_1, hq_1, hf⟩ := Option.bind_eq_some_iff.mp hf
  refine f_cSi mX9_within [.int (x1), .int ((20 : Int32))] [] dX9_years_3 cs_RX9_82 w_389 rfl rfl (Nat.le_of_ble_eq_true rfl) (by omega) (c_X9_within (d := d - 1) (by omega) (x1) ((20 : Int32)) m q_1 hq_1) ?_
  refine x_if_eq 23 dX9_years_6 (by decide) (fun hc => ?_) (fun hc => ?_)
  · replace hf := x_ift hc hf
    refine x_iconst (v := (-1)) dX9_years_23 (by decide) ?_
    exact x_iret dX9_years_24 rfl (by cases hf; exact hR)
  · replace hf := x_iff hc hf
    refine x_aload_n dX9_years_9 rfl ?_
    refine f_getR (b := 1) dX9_years_10 xcl_9 (by decide) fl_RX9_12 (by decide) sh_0 rfl ?_
    refine f_getI dX9_years_13 xcl_2 (by decide) fl_RX9_86 (by decide) sh_1 rfl ?_
    refine x_iload_n dX9_years_16 rfl ?_
    refine x_iadd dX9_years_17 ?_
    refine x_bipush (v := 99) dX9_years_18 (by decide) ?_
    refine x_icmp_le 25 dX9_years_20 (by decide) (fun hc => ?_) (fun hc => ?_)
    · replace hf := x_ift hc hf
      refine x_aload_n dX9_years_25 rfl ?_
      refine f_getR (b := 1) dX9_years_26 xcl_9 (by decide) fl_RX9_12 (by decide) sh_0 rfl ?_
      refine x_dup dX9_years_29 rfl ?_
      refine f_getI dX9_years_30 xcl_2 (by decide) fl_RX9_86 (by decide) sh_1 rfl ?_
      refine x_iload_n dX9_years_33 rfl ?_
      refine x_iadd dX9_years_34 ?_
      refine f_putI dX9_years_35 xcl_2 (by decide) fl_RX9_86 rfl rfl (by decide) sh_1 rfl ?_
      refine x_aload_n dX9_years_38 rfl ?_
      refine f_getR (b := 1) dX9_years_39 xcl_9 (by decide) fl_RX9_12 (by decide) sh_0 rfl ?_
      refine f_getI dX9_years_42 xcl_2 (by decide) fl_RX9_86 (by decide) sh_1 rfl ?_
      exact x_iret dX9_years_45 rfl (by cases hf; exact hR)
    · replace hf := x_iff hc hf
      refine x_iconst (v := (-1)) dX9_years_23 (by decide) ?_
      exact x_iret dX9_years_24 rfl (by cases hf; exact hR)
theorem c_X9_years {E : xE} {d : Nat} (hd : 2 ≤ d) (x1 : Int32) (m : xMem) (out : Int32 × xMem) (h : F_X9_years x1 m = some out) : xCi E mX9_years d [.ref (xB E + 0), .int x1] m out.1 out.2 :=
  x_enter (by decide +kernel) (Nat.le_of_ble_eq_true rfl) (pF_X9_years hd (Q := _) out ⟨rfl, rfl⟩ x1 m h)
-- X10_years
def F_X10_years (x1 : Int32) (m : xMem) : Option (Int32 × xMem) :=
  if x1 < 0 then (
    some ((-1 : Int32), (xst m.1 am fGuideBookModel_thrown (0 : Int32), m.2)))
  else (
    if (20 : Int32) < x1 then (
      some ((-1 : Int32), (xst m.1 am fGuideBookModel_thrown (0 : Int32), m.2)))
    else (
      if (((xst m.1 am fGuideBookModel_thrown (0 : Int32)) am fGuideBookModel_now) + x1) ≤ (99 : Int32) then (
        some ((xst (xst m.1 am fGuideBookModel_thrown (0 : Int32)) am fGuideBookModel_now (((xst m.1 am fGuideBookModel_thrown (0 : Int32)) am fGuideBookModel_now) + x1)) am fGuideBookModel_now, (xst (xst m.1 am fGuideBookModel_thrown (0 : Int32)) am fGuideBookModel_now (((xst m.1 am fGuideBookModel_thrown (0 : Int32)) am fGuideBookModel_now) + x1), m.2)))
      else (
        some ((-1 : Int32), (xst m.1 am fGuideBookModel_thrown (0 : Int32), m.2)))))
set_option maxHeartbeats 4000000 in
set_option maxRecDepth 100000 in
theorem pF_X10_years {E : xE} {d : Nat} {Q : Option Value → xS → Prop} (hd : 1 ≤ d) (out : Int32 × xMem) (hR : Q (some (.int out.1)) (xf E out.2)) (x1 : Int32) (m : xMem) (hf : F_X10_years x1 m = some out) : xX E mX10_years d 0 0 0 0 Q 0 [(0, .ref (xB E + 87)), (1, .int (x1))] [] (xf E m) := by
  unfold F_X10_years at hf
  refine x_aload_n dX10_years_0 rfl ?_
  refine x_iconst (v := 0) dX10_years_1 (by decide) ?_
  refine f_putI dX10_years_2 xcl_10 (by decide) fl_RX10_1 rfl rfl (by decide) sh_87 rfl ?_
  refine x_iload_n dX10_years_5 rfl ?_
  refine x_if_lt 26 dX10_years_6 (by decide) (fun hc => ?_) (fun hc => ?_)
  · replace hf := x_ift hc hf
    refine x_iconst (v := (-1)) dX10_years_26 (by decide) ?_
    exact x_iret dX10_years_27 rfl (by cases hf; exact hR)
  · replace hf := x_iff hc hf
    refine x_iload_n dX10_years_9 rfl ?_
    refine x_bipush (v := 20) dX10_years_10 (by decide) ?_
    refine x_icmp_gt 26 dX10_years_12 (by decide) (fun hc => ?_) (fun hc => ?_)
    · replace hf := x_ift hc hf
      refine x_iconst (v := (-1)) dX10_years_26 (by decide) ?_
      exact x_iret dX10_years_27 rfl (by cases hf; exact hR)
    · replace hf := x_iff hc hf
      refine x_aload_n dX10_years_15 rfl ?_
      refine f_getI dX10_years_16 xcl_10 (by decide) fl_RX10_241 (by decide) sh_87 rfl ?_
      refine x_iload_n dX10_years_19 rfl ?_
      refine x_iadd dX10_years_20 ?_
      refine x_bipush (v := 99) dX10_years_21 (by decide) ?_
      refine x_icmp_le 28 dX10_years_23 (by decide) (fun hc => ?_) (fun hc => ?_)
      · replace hf := x_ift hc hf
        refine x_aload_n dX10_years_28 rfl ?_
        refine x_dup dX10_years_29 rfl ?_
        refine f_getI dX10_years_30 xcl_10 (by decide) fl_RX10_241 (by decide) sh_87 rfl ?_
        refine x_iload_n dX10_years_33 rfl ?_
        refine x_iadd dX10_years_34 ?_
        refine f_putI dX10_years_35 xcl_10 (by decide) fl_RX10_241 rfl rfl (by decide) sh_87 rfl ?_
        refine x_aload_n dX10_years_38 rfl ?_
        refine f_getI dX10_years_39 xcl_10 (by decide) fl_RX10_241 (by decide) sh_87 rfl ?_
        exact x_iret dX10_years_42 rfl (by cases hf; exact hR)
      · replace hf := x_iff hc hf
        refine x_iconst (v := (-1)) dX10_years_26 (by decide) ?_
        exact x_iret dX10_years_27 rfl (by cases hf; exact hR)
theorem c_X10_years {E : xE} {d : Nat} (hd : 1 ≤ d) (x1 : Int32) (m : xMem) (out : Int32 × xMem) (h : F_X10_years x1 m = some out) : xCi E mX10_years d [.ref (xB E + 87), .int x1] m out.1 out.2 :=
  x_enter (by decide +kernel) (Nat.le_of_ble_eq_true rfl) (pF_X10_years hd (Q := _) out ⟨rfl, rfl⟩ x1 m h)
-- X9_isKind
def F_X9_isKind (x0 : Int32) (m : xMem) : Option (Int32 × xMem) :=
  (F_X9_within (x0) ((5 : Int32)) m).bind fun q_1 => (
  if xbb q_1.1 = true then (
  some (q_1.1, q_1.2))
  else none)
set_option maxHeartbeats 4000000 in
set_option maxRecDepth 100000 in
theorem pF_X9_isKind {E : xE} {d : Nat} {Q : Option Value → xS → Prop} (hd : 2 ≤ d) (out : Int32 × xMem) (hR : Q (some (.int out.1)) (xf E out.2)) (x0 : Int32) (m : xMem) (hf : F_X9_isKind x0 m = some out) : xX E mX9_isKind d 0 0 0 0 Q 0 [(0, .int (x0))] [] (xf E m) := by
  unfold F_X9_isKind at hf
  refine x_iload_n dX9_isKind_0 rfl ?_
  refine x_iconst (v := 5) dX9_isKind_1 (by decide) ?_
  obtain ⟨q_1, hq_1, hf⟩ := Option.bind_eq_some_iff.mp hf
  refine f_cSi mX9_within [.int (x0), .int ((5 : Int32))] [] dX9_isKind_2 cs_RX9_82 w_389 rfl rfl (Nat.le_of_ble_eq_true rfl) (by omega) (c_X9_within (d := d - 1) (by omega) (x0) ((5 : Int32)) m q_1 hq_1) ?_
  have hg_2 := x_gd hf
  replace hf := hg_2.2
  exact x_zret dX9_isKind_5 rfl (xbb_n hg_2.1) (by cases hf; exact hR)
theorem c_X9_isKind {E : xE} {d : Nat} (hd : 2 ≤ d) (x0 : Int32) (m : xMem) (out : Int32 × xMem) (h : F_X9_isKind x0 m = some out) : xCi E mX9_isKind d [.int x0] m out.1 out.2 :=
  x_enter (by decide +kernel) (Nat.le_of_ble_eq_true rfl) (pF_X9_isKind hd (Q := _) out ⟨rfl, rfl⟩ x0 m h)
-- X2_add
def F_X2_add (x1 : Int32) (x2 : Int32) (x3 : Int32) (m : xMem) : Option (Int32 × xMem) :=
  if xin (m.1 ag_facts fFacts_size) 60 = true then (
  if xin (m.1 ag_facts fFacts_size) 60 = true then (
  if xin (m.1 ag_facts fFacts_size) 60 = true then (
  if xin (m.1 ag_facts fFacts_size) 60 = true then (
  if xin (m.1 ag_facts fFacts_size) 60 = true then (
  if xin (m.1 ag_facts fFacts_size) 60 = true then (
  some (m.1 ag_facts fFacts_size, (xst (xst (xst (xst (xst (xst (xst m.1 ag_facts_kind (m.1 ag_facts fFacts_size).toNatClampNeg x1) ag_facts_place (m.1 ag_facts fFacts_size).toNatClampNeg x2) ag_facts_value (m.1 ag_facts fFacts_size).toNatClampNeg x3) ag_facts_year (m.1 ag_facts fFacts_size).toNatClampNeg ((xst (xst (xst m.1 ag_facts_kind (m.1 ag_facts fFacts_size).toNatClampNeg x1) ag_facts_place (m.1 ag_facts fFacts_size).toNatClampNeg x2) ag_facts_value (m.1 ag_facts fFacts_size).toNatClampNeg x3) ag_facts fFacts_now)) ag_facts_length (m.1 ag_facts fFacts_size).toNatClampNeg (1 : Int32)) ag_facts_worth (m.1 ag_facts fFacts_size).toNatClampNeg (1 : Int32)) ag_facts fFacts_size (((xst (xst (xst (xst (xst (xst m.1 ag_facts_kind (m.1 ag_facts fFacts_size).toNatClampNeg x1) ag_facts_place (m.1 ag_facts fFacts_size).toNatClampNeg x2) ag_facts_value (m.1 ag_facts fFacts_size).toNatClampNeg x3) ag_facts_year (m.1 ag_facts fFacts_size).toNatClampNeg ((xst (xst (xst m.1 ag_facts_kind (m.1 ag_facts fFacts_size).toNatClampNeg x1) ag_facts_place (m.1 ag_facts fFacts_size).toNatClampNeg x2) ag_facts_value (m.1 ag_facts fFacts_size).toNatClampNeg x3) ag_facts fFacts_now)) ag_facts_length (m.1 ag_facts fFacts_size).toNatClampNeg (1 : Int32)) ag_facts_worth (m.1 ag_facts fFacts_size).toNatClampNeg (1 : Int32)) ag_facts fFacts_size) + (1 : Int32)), m.2)))
  else none)
  else none)
  else none)
  else none)
  else none)
  else none
set_option maxHeartbeats 4000000 in
set_option maxRecDepth 100000 in
theorem pF_X2_add {E : xE} {d : Nat} {Q : Option Value → xS → Prop} (hd : 1 ≤ d) (out : Int32 × xMem) (hR : Q (some (.int out.1)) (xf E out.2)) (x1 : Int32) (x2 : Int32) (x3 : Int32) (m : xMem) (hf : F_X2_add x1 x2 x3 m = some out) : xX E mX2_add d 0 0 0 0 Q 0 [(0, .ref (xB E + 1)), (1, .int (x1)), (2, .int (x2)), (3, .int (x3))] [] (xf E m) := by
  unfold F_X2_add at hf
  refine x_aload_n dX2_add_0 rfl ?_
  refine f_getI dX2_add_1 xcl_2 (by decide) fl_RX2_36 (by decide) sh_1 rfl ?_
  refine x_istore (lv' := [(0, .ref (xB E + 1)), (1, .int (x1)), (2, .int (x2)), (3, .int (x3)), (4, .int (m.1 ag_facts fFacts_size))]) dX2_add_4 [1, 2, 3, 4, 0] (by decide) rfl ?_
  refine x_aload_n dX2_add_6 rfl ?_
  refine f_getR (b := 2) dX2_add_7 xcl_2 (by decide) fl_RX2_9 (by decide) sh_1 rfl ?_
  refine x_iload dX2_add_10 rfl ?_
  refine x_iload_n dX2_add_12 rfl ?_
  have hg_1 := x_gd hf
  replace hf := hg_1.2
  refine f_iast dX2_add_13 (by decide) sh_2 hg_1.1 ?_
  refine x_aload_n dX2_add_14 rfl ?_
  refine f_getR (b := 3) dX2_add_15 xcl_2 (by decide) fl_RX2_15 (by decide) sh_1 rfl ?_
  refine x_iload dX2_add_18 rfl ?_
  refine x_iload_n dX2_add_20 rfl ?_
  have hg_2 := x_gd hf
  replace hf := hg_2.2
  refine f_iast dX2_add_21 (by decide) sh_3 hg_2.1 ?_
  refine x_aload_n dX2_add_22 rfl ?_
  refine f_getR (b := 4) dX2_add_23 xcl_2 (by decide) fl_RX2_18 (by decide) sh_1 rfl ?_
  refine x_iload dX2_add_26 rfl ?_
  refine x_iload_n dX2_add_28 rfl ?_
  have hg_3 := x_gd hf
  replace hf := hg_3.2
  refine f_iast dX2_add_29 (by decide) sh_4 hg_3.1 ?_
  refine x_aload_n dX2_add_30 rfl ?_
  refine f_getR (b := 5) dX2_add_31 xcl_2 (by decide) fl_RX2_21 (by decide) sh_1 rfl ?_
  refine x_iload dX2_add_34 rfl ?_
  refine x_aload_n dX2_add_36 rfl ?_
  refine f_getI dX2_add_37 xcl_2 (by decide) fl_RX2_40 (by decide) sh_1 rfl ?_
  have hg_4 := x_gd hf
  replace hf := hg_4.2
  refine f_iast dX2_add_40 (by decide) sh_5 hg_4.1 ?_
  refine x_aload_n dX2_add_41 rfl ?_
  refine f_getR (b := 6) dX2_add_42 xcl_2 (by decide) fl_RX2_24 (by decide) sh_1 rfl ?_
  refine x_iload dX2_add_45 rfl ?_
  refine x_iconst (v := 1) dX2_add_47 (by decide) ?_
  have hg_5 := x_gd hf
  replace hf := hg_5.2
  refine f_iast dX2_add_48 (by decide) sh_6 hg_5.1 ?_
  refine x_aload_n dX2_add_49 rfl ?_
  refine f_getR (b := 7) dX2_add_50 xcl_2 (by decide) fl_RX2_27 (by decide) sh_1 rfl ?_
  refine x_iload dX2_add_53 rfl ?_
  refine x_iconst (v := 1) dX2_add_55 (by decide) ?_
  have hg_6 := x_gd hf
  replace hf := hg_6.2
  refine f_iast dX2_add_56 (by decide) sh_7 hg_6.1 ?_
  refine x_aload_n dX2_add_57 rfl ?_
  refine x_dup dX2_add_58 rfl ?_
  refine f_getI dX2_add_59 xcl_2 (by decide) fl_RX2_36 (by decide) sh_1 rfl ?_
  refine x_iconst (v := 1) dX2_add_62 (by decide) ?_
  refine x_iadd dX2_add_63 ?_
  refine f_putI dX2_add_64 xcl_2 (by decide) fl_RX2_36 rfl rfl (by decide) sh_1 rfl ?_
  refine x_iload dX2_add_67 rfl ?_
  exact x_iret dX2_add_69 rfl (by cases hf; exact hR)
theorem c_X2_add {E : xE} {d : Nat} (hd : 1 ≤ d) (x1 : Int32) (x2 : Int32) (x3 : Int32) (m : xMem) (out : Int32 × xMem) (h : F_X2_add x1 x2 x3 m = some out) : xCi E mX2_add d [.ref (xB E + 1), .int x1, .int x2, .int x3] m out.1 out.2 :=
  x_enter (by decide +kernel) (Nat.le_of_ble_eq_true rfl) (pF_X2_add hd (Q := _) out ⟨rfl, rfl⟩ x1 x2 x3 m h)
-- X9_isPlace
def F_X9_isPlace (x0 : Int32) (m : xMem) : Option (Int32 × xMem) :=
  (F_X9_within (x0) ((9 : Int32)) m).bind fun q_1 => (
  if xbb q_1.1 = true then (
  some (q_1.1, q_1.2))
  else none)
set_option maxHeartbeats 4000000 in
set_option maxRecDepth 100000 in
theorem pF_X9_isPlace {E : xE} {d : Nat} {Q : Option Value → xS → Prop} (hd : 2 ≤ d) (out : Int32 × xMem) (hR : Q (some (.int out.1)) (xf E out.2)) (x0 : Int32) (m : xMem) (hf : F_X9_isPlace x0 m = some out) : xX E mX9_isPlace d 0 0 0 0 Q 0 [(0, .int (x0))] [] (xf E m) := by
  unfold F_X9_isPlace at hf
  refine x_iload_n dX9_isPlace_0 rfl ?_
  refine x_bipush (v := 9) dX9_isPlace_1 (by decide) ?_
  obtain ⟨q_1, hq_1, hf⟩ := Option.bind_eq_some_iff.mp hf
  refine f_cSi mX9_within [.int (x0), .int ((9 : Int32))] [] dX9_isPlace_3 cs_RX9_82 w_389 rfl rfl (Nat.le_of_ble_eq_true rfl) (by omega) (c_X9_within (d := d - 1) (by omega) (x0) ((9 : Int32)) m q_1 hq_1) ?_
  have hg_2 := x_gd hf
  replace hf := hg_2.2
  exact x_zret dX9_isPlace_6 rfl (xbb_n hg_2.1) (by cases hf; exact hR)
theorem c_X9_isPlace {E : xE} {d : Nat} (hd : 2 ≤ d) (x0 : Int32) (m : xMem) (out : Int32 × xMem) (h : F_X9_isPlace x0 m = some out) : xCi E mX9_isPlace d [.int x0] m out.1 out.2 :=
  x_enter (by decide +kernel) (Nat.le_of_ble_eq_true rfl) (pF_X9_isPlace hd (Q := _) out ⟨rfl, rfl⟩ x0 m h)
-- X9_isValue
def F_X9_isValue (x0 : Int32) (m : xMem) : Option (Int32 × xMem) :=
  (F_X9_within (x0) ((9999 : Int32)) m).bind fun q_1 => (
  if xbb q_1.1 = true then (
  some (q_1.1, q_1.2))
  else none)
set_option maxHeartbeats 4000000 in
set_option maxRecDepth 100000 in
theorem pF_X9_isValue {E : xE} {d : Nat} {Q : Option Value → xS → Prop} (hd : 2 ≤ d) (out : Int32 × xMem) (hR : Q (some (.int out.1)) (xf E out.2)) (x0 : Int32) (m : xMem) (hf : F_X9_isValue x0 m = some out) : xX E mX9_isValue d 0 0 0 0 Q 0 [(0, .int (x0))] [] (xf E m) := by
  unfold F_X9_isValue at hf
  refine x_iload_n dX9_isValue_0 rfl ?_
  refine x_sipush (v := 9999) dX9_isValue_1 (by decide) ?_
  obtain ⟨q_1, hq_1, hf⟩ := Option.bind_eq_some_iff.mp hf
  refine f_cSi mX9_within [.int (x0), .int ((9999 : Int32))] [] dX9_isValue_4 cs_RX9_82 w_389 rfl rfl (Nat.le_of_ble_eq_true rfl) (by omega) (c_X9_within (d := d - 1) (by omega) (x0) ((9999 : Int32)) m q_1 hq_1) ?_
  have hg_2 := x_gd hf
  replace hf := hg_2.2
  exact x_zret dX9_isValue_7 rfl (xbb_n hg_2.1) (by cases hf; exact hR)
theorem c_X9_isValue {E : xE} {d : Nat} (hd : 2 ≤ d) (x0 : Int32) (m : xMem) (out : Int32 × xMem) (h : F_X9_isValue x0 m = some out) : xCi E mX9_isValue d [.int x0] m out.1 out.2 :=
  x_enter (by decide +kernel) (Nat.le_of_ble_eq_true rfl) (pF_X9_isValue hd (Q := _) out ⟨rfl, rfl⟩ x0 m h)
-- X9_fact
def J_X9_fact_26 (x1 : Int32) (x2 : Int32) (x3 : Int32) (s0 : Int32) (m : xMem) : Option (Int32 × xMem) :=
  if s0 = 0 then (
    some ((-1 : Int32), m))
  else (
    if (m.1 ag_facts fFacts_size) < (60 : Int32) then (
      (F_X2_add (x1) (x2) (x3) m).bind fun q_2 => (
      some (q_2.1, q_2.2)))
    else (
      some ((-1 : Int32), m)))
def J_X9_fact_25 (x1 : Int32) (x2 : Int32) (x3 : Int32) (m : xMem) : Option (Int32 × xMem) :=
  J_X9_fact_26 (x1) (x2) (x3) ((0 : Int32)) m
def F_X9_fact (x1 : Int32) (x2 : Int32) (x3 : Int32) (m : xMem) : Option (Int32 × xMem) :=
  (F_X9_isKind (x1) m).bind fun q_1 => (
  if q_1.1 = 0 then (
    J_X9_fact_25 (x1) (x2) (x3) q_1.2)
  else (
    (F_X9_isPlace (x2) q_1.2).bind fun q_3 => (
    if q_3.1 = 0 then (
      J_X9_fact_25 (x1) (x2) (x3) q_3.2)
    else (
      (F_X9_isValue (x3) q_3.2).bind fun q_4 => (
      if q_4.1 = 0 then (
        J_X9_fact_25 (x1) (x2) (x3) q_4.2)
      else (
        J_X9_fact_26 (x1) (x2) (x3) ((1 : Int32)) q_4.2))))))
set_option maxHeartbeats 4000000 in
set_option maxRecDepth 100000 in
theorem pJ_X9_fact_26 {E : xE} {d : Nat} {Q : Option Value → xS → Prop} (hd : 3 ≤ d) (out : Int32 × xMem) (hR : Q (some (.int out.1)) (xf E out.2)) (x1 : Int32) (x2 : Int32) (x3 : Int32) (s0 : Int32) (m : xMem) (hf : J_X9_fact_26 x1 x2 x3 s0 m = some out) : xX E mX9_fact d 0 0 0 0 Q 26 [(0, .ref (xB E + 0)), (1, .int (x1)), (2, .int (x2)), (3, .int (x3))] [.int (s0)] (xf E m) := by
  unfold J_X9_fact_26 at hf
  refine x_istore (lv' := [(0, .ref (xB E + 0)), (1, .int (x1)), (2, .int (x2)), (3, .int (x3)), (4, .int (s0))]) dX9_fact_26 [1, 2, 3, 4, 0] (by decide) rfl ?_
  refine x_iload dX9_fact_28 rfl ?_
  refine x_if_eq 45 dX9_fact_30 (by decide) (fun hc => ?_) (fun hc => ?_)
  · replace hf := x_ift hc hf
    refine x_iconst (v := (-1)) dX9_fact_45 (by decide) ?_
    exact x_iret dX9_fact_46 rfl (by cases hf; exact hR)
  · replace hf := x_iff hc hf
    refine x_aload_n dX9_fact_33 rfl ?_
    refine f_getR (b := 1) dX9_fact_34 xcl_9 (by decide) fl_RX9_12 (by decide) sh_0 rfl ?_
    refine f_getI dX9_fact_37 xcl_2 (by decide) fl_RX9_100 (by decide) sh_1 rfl ?_
    refine x_bipush (v := 60) dX9_fact_40 (by decide) ?_
    refine x_icmp_lt 47 dX9_fact_42 (by decide) (fun hc => ?_) (fun hc => ?_)
    · replace hf := x_ift hc hf
      refine x_aload_n dX9_fact_47 rfl ?_
      refine f_getR (b := 1) dX9_fact_48 xcl_9 (by decide) fl_RX9_12 (by decide) sh_0 rfl ?_
      refine x_iload_n dX9_fact_51 rfl ?_
      refine x_iload_n dX9_fact_52 rfl ?_
      refine x_iload_n dX9_fact_53 rfl ?_
      obtain ⟨q_2, hq_2, hf⟩ := Option.bind_eq_some_iff.mp hf
      refine f_cVi mX2_add [.int (x1), .int (x2), .int (x3)] [] dX9_fact_54 cs_RX9_103 ⟨w_406, w_0⟩ (ci := 2) rfl (by decide) sh_1 rfl rfl (Nat.le_of_ble_eq_true rfl) (by omega) (c_X2_add (d := d - 1) (by omega) (x1) (x2) (x3) m q_2 hq_2) ?_
      exact x_iret dX9_fact_57 rfl (by cases hf; exact hR)
    · replace hf := x_iff hc hf
      refine x_iconst (v := (-1)) dX9_fact_45 (by decide) ?_
      exact x_iret dX9_fact_46 rfl (by cases hf; exact hR)
set_option maxHeartbeats 4000000 in
set_option maxRecDepth 100000 in
theorem pJ_X9_fact_25 {E : xE} {d : Nat} {Q : Option Value → xS → Prop} (hd : 3 ≤ d) (out : Int32 × xMem) (hR : Q (some (.int out.1)) (xf E out.2)) (x1 : Int32) (x2 : Int32) (x3 : Int32) (m : xMem) (hf : J_X9_fact_25 x1 x2 x3 m = some out) : xX E mX9_fact d 0 0 0 0 Q 25 [(0, .ref (xB E + 0)), (1, .int (x1)), (2, .int (x2)), (3, .int (x3))] [] (xf E m) := by
  unfold J_X9_fact_25 at hf
  refine x_iconst (v := 0) dX9_fact_25 (by decide) ?_
  exact pJ_X9_fact_26 hd out hR _ _ _ _ _ hf
set_option maxHeartbeats 4000000 in
set_option maxRecDepth 100000 in
theorem pF_X9_fact {E : xE} {d : Nat} {Q : Option Value → xS → Prop} (hd : 3 ≤ d) (out : Int32 × xMem) (hR : Q (some (.int out.1)) (xf E out.2)) (x1 : Int32) (x2 : Int32) (x3 : Int32) (m : xMem) (hf : F_X9_fact x1 x2 x3 m = some out) : xX E mX9_fact d 0 0 0 0 Q 0 [(0, .ref (xB E + 0)), (1, .int (x1)), (2, .int (x2)), (3, .int (x3))] [] (xf E m) := by
  unfold F_X9_fact at hf
  refine x_iload_n dX9_fact_0 rfl ?_
  obtain ⟨q_1, hq_1, hf⟩ := Option.bind_eq_some_iff.mp hf
  refine f_cSi mX9_isKind [.int (x1)] [] dX9_fact_1 cs_RX9_90 w_396 rfl rfl (Nat.le_of_ble_eq_true rfl) (by omega) (c_X9_isKind (d := d - 1) (by omega) (x1) m q_1 hq_1) ?_
  refine x_if_eq 25 dX9_fact_4 (by decide) (fun hc => ?_) (fun hc => ?_)
  · replace hf := x_ift hc hf
    exact pJ_X9_fact_25 hd out hR _ _ _ _ hf
  · replace hf := x_iff hc hf
    refine x_iload_n dX9_fact_7 rfl ?_
    obtain ⟨q_3, hq_3, hf⟩ := Option.bind_eq_some_iff.mp hf
    refine f_cSi mX9_isPlace [.int (x2)] [] dX9_fact_8 cs_RX9_94 w_399 rfl rfl (Nat.le_of_ble_eq_true rfl) (by omega) (c_X9_isPlace (d := d - 1) (by omega) (x2) q_1.2 q_3 hq_3) ?_
    refine x_if_eq 25 dX9_fact_11 (by decide) (fun hc => ?_) (fun hc => ?_)
    · replace hf := x_ift hc hf
      exact pJ_X9_fact_25 hd out hR _ _ _ _ hf
    · replace hf := x_iff hc hf
      refine x_iload_n dX9_fact_14 rfl ?_
      obtain ⟨q_4, hq_4, hf⟩ := Option.bind_eq_some_iff.mp hf
      refine f_cSi mX9_isValue [.int (x3)] [] dX9_fact_15 cs_RX9_97 w_402 rfl rfl (Nat.le_of_ble_eq_true rfl) (by omega) (c_X9_isValue (d := d - 1) (by omega) (x3) q_3.2 q_4 hq_4) ?_
      refine x_if_eq 25 dX9_fact_18 (by decide) (fun hc => ?_) (fun hc => ?_)
      · replace hf := x_ift hc hf
        exact pJ_X9_fact_25 hd out hR _ _ _ _ hf
      · replace hf := x_iff hc hf
        refine x_iconst (v := 1) dX9_fact_21 (by decide) ?_
        refine x_goto 26 dX9_fact_22 (by decide) ?_
        exact pJ_X9_fact_26 hd out hR _ _ _ _ _ hf
theorem c_X9_fact {E : xE} {d : Nat} (hd : 3 ≤ d) (x1 : Int32) (x2 : Int32) (x3 : Int32) (m : xMem) (out : Int32 × xMem) (h : F_X9_fact x1 x2 x3 m = some out) : xCi E mX9_fact d [.ref (xB E + 0), .int x1, .int x2, .int x3] m out.1 out.2 :=
  x_enter (by decide +kernel) (Nat.le_of_ble_eq_true rfl) (pF_X9_fact hd (Q := _) out ⟨rfl, rfl⟩ x1 x2 x3 m h)
-- X10_isPlace
def F_X10_isPlace (x0 : Int32) (m : xMem) : Option (Int32 × xMem) :=
  if x0 < 0 then (
    some ((0 : Int32), m))
  else (
    if (10 : Int32) ≤ x0 then (
      some ((0 : Int32), m))
    else (
      some ((1 : Int32), m)))
set_option maxHeartbeats 4000000 in
set_option maxRecDepth 100000 in
theorem pF_X10_isPlace {E : xE} {d : Nat} {Q : Option Value → xS → Prop} (hd : 1 ≤ d) (out : Int32 × xMem) (hR : Q (some (.int out.1)) (xf E out.2)) (x0 : Int32) (m : xMem) (hf : F_X10_isPlace x0 m = some out) : xX E mX10_isPlace d 0 0 0 0 Q 0 [(0, .int (x0))] [] (xf E m) := by
  unfold F_X10_isPlace at hf
  refine x_iload_n dX10_isPlace_0 rfl ?_
  refine x_if_lt 14 dX10_isPlace_1 (by decide) (fun hc => ?_) (fun hc => ?_)
  · replace hf := x_ift hc hf
    refine x_iconst (v := 0) dX10_isPlace_14 (by decide) ?_
    exact x_zret dX10_isPlace_15 rfl (by decide) (by cases hf; exact hR)
  · replace hf := x_iff hc hf
    refine x_iload_n dX10_isPlace_4 rfl ?_
    refine x_bipush (v := 10) dX10_isPlace_5 (by decide) ?_
    refine x_icmp_ge 14 dX10_isPlace_7 (by decide) (fun hc => ?_) (fun hc => ?_)
    · replace hf := x_ift hc hf
      refine x_iconst (v := 0) dX10_isPlace_14 (by decide) ?_
      exact x_zret dX10_isPlace_15 rfl (by decide) (by cases hf; exact hR)
    · replace hf := x_iff hc hf
      refine x_iconst (v := 1) dX10_isPlace_10 (by decide) ?_
      refine x_goto 15 dX10_isPlace_11 (by decide) ?_
      exact x_zret dX10_isPlace_15 rfl (by decide) (by cases hf; exact hR)
theorem c_X10_isPlace {E : xE} {d : Nat} (hd : 1 ≤ d) (x0 : Int32) (m : xMem) (out : Int32 × xMem) (h : F_X10_isPlace x0 m = some out) : xCi E mX10_isPlace d [.int x0] m out.1 out.2 :=
  x_enter (by decide +kernel) (Nat.le_of_ble_eq_true rfl) (pF_X10_isPlace hd (Q := _) out ⟨rfl, rfl⟩ x0 m h)
-- X10_isValue
def F_X10_isValue (x0 : Int32) (m : xMem) : Option (Int32 × xMem) :=
  if x0 < 0 then (
    some ((0 : Int32), m))
  else (
    if (9999 : Int32) < x0 then (
      some ((0 : Int32), m))
    else (
      some ((1 : Int32), m)))
set_option maxHeartbeats 4000000 in
set_option maxRecDepth 100000 in
theorem pF_X10_isValue {E : xE} {d : Nat} {Q : Option Value → xS → Prop} (hd : 1 ≤ d) (out : Int32 × xMem) (hR : Q (some (.int out.1)) (xf E out.2)) (x0 : Int32) (m : xMem) (hf : F_X10_isValue x0 m = some out) : xX E mX10_isValue d 0 0 0 0 Q 0 [(0, .int (x0))] [] (xf E m) := by
  unfold F_X10_isValue at hf
  refine x_iload_n dX10_isValue_0 rfl ?_
  refine x_if_lt 15 dX10_isValue_1 (by decide) (fun hc => ?_) (fun hc => ?_)
  · replace hf := x_ift hc hf
    refine x_iconst (v := 0) dX10_isValue_15 (by decide) ?_
    exact x_zret dX10_isValue_16 rfl (by decide) (by cases hf; exact hR)
  · replace hf := x_iff hc hf
    refine x_iload_n dX10_isValue_4 rfl ?_
    refine x_sipush (v := 9999) dX10_isValue_5 (by decide) ?_
    refine x_icmp_gt 15 dX10_isValue_8 (by decide) (fun hc => ?_) (fun hc => ?_)
    · replace hf := x_ift hc hf
      refine x_iconst (v := 0) dX10_isValue_15 (by decide) ?_
      exact x_zret dX10_isValue_16 rfl (by decide) (by cases hf; exact hR)
    · replace hf := x_iff hc hf
      refine x_iconst (v := 1) dX10_isValue_11 (by decide) ?_
      refine x_goto 16 dX10_isValue_12 (by decide) ?_
      exact x_zret dX10_isValue_16 rfl (by decide) (by cases hf; exact hR)
theorem c_X10_isValue {E : xE} {d : Nat} (hd : 1 ≤ d) (x0 : Int32) (m : xMem) (out : Int32 × xMem) (h : F_X10_isValue x0 m = some out) : xCi E mX10_isValue d [.int x0] m out.1 out.2 :=
  x_enter (by decide +kernel) (Nat.le_of_ble_eq_true rfl) (pF_X10_isValue hd (Q := _) out ⟨rfl, rfl⟩ x0 m h)
-- X10_fact
def F_X10_fact (x1 : Int32) (x2 : Int32) (x3 : Int32) (m : xMem) : Option (Int32 × xMem) :=
  if x1 < 0 then (
    some ((-1 : Int32), (xst m.1 am fGuideBookModel_thrown (0 : Int32), m.2)))
  else (
    if (5 : Int32) < x1 then (
      some ((-1 : Int32), (xst m.1 am fGuideBookModel_thrown (0 : Int32), m.2)))
    else (
      (F_X10_isPlace (x2) (xst m.1 am fGuideBookModel_thrown (0 : Int32), m.2)).bind fun q_1 => (
      if q_1.1 = 0 then (
        some ((-1 : Int32), q_1.2))
      else (
        (F_X10_isValue (x3) q_1.2).bind fun q_2 => (
        if q_2.1 = 0 then (
          some ((-1 : Int32), q_2.2))
        else (
          if (q_2.2.1 am fGuideBookModel_facts) = (60 : Int32) then (
            some ((-1 : Int32), q_2.2))
          else (
            if xin (q_2.2.1 am fGuideBookModel_facts) 60 = true then (
            if xin ((xst q_2.2.1 am_kindOf (q_2.2.1 am fGuideBookModel_facts).toNatClampNeg x1) am fGuideBookModel_facts) 60 = true then (
            if xin ((xst (xst q_2.2.1 am_kindOf (q_2.2.1 am fGuideBookModel_facts).toNatClampNeg x1) am_placeOf ((xst q_2.2.1 am_kindOf (q_2.2.1 am fGuideBookModel_facts).toNatClampNeg x1) am fGuideBookModel_facts).toNatClampNeg x2) am fGuideBookModel_facts) 60 = true then (
            if xin ((xst (xst (xst q_2.2.1 am_kindOf (q_2.2.1 am fGuideBookModel_facts).toNatClampNeg x1) am_placeOf ((xst q_2.2.1 am_kindOf (q_2.2.1 am fGuideBookModel_facts).toNatClampNeg x1) am fGuideBookModel_facts).toNatClampNeg x2) am_worthNow ((xst (xst q_2.2.1 am_kindOf (q_2.2.1 am fGuideBookModel_facts).toNatClampNeg x1) am_placeOf ((xst q_2.2.1 am_kindOf (q_2.2.1 am fGuideBookModel_facts).toNatClampNeg x1) am fGuideBookModel_facts).toNatClampNeg x2) am fGuideBookModel_facts).toNatClampNeg x3) am fGuideBookModel_facts) 60 = true then (
            if xin ((xst (xst (xst (xst q_2.2.1 am_kindOf (q_2.2.1 am fGuideBookModel_facts).toNatClampNeg x1) am_placeOf ((xst q_2.2.1 am_kindOf (q_2.2.1 am fGuideBookModel_facts).toNatClampNeg x1) am fGuideBookModel_facts).toNatClampNeg x2) am_worthNow ((xst (xst q_2.2.1 am_kindOf (q_2.2.1 am fGuideBookModel_facts).toNatClampNeg x1) am_placeOf ((xst q_2.2.1 am_kindOf (q_2.2.1 am fGuideBookModel_facts).toNatClampNeg x1) am fGuideBookModel_facts).toNatClampNeg x2) am fGuideBookModel_facts).toNatClampNeg x3) am_checkedOn ((xst (xst (xst q_2.2.1 am_kindOf (q_2.2.1 am fGuideBookModel_facts).toNatClampNeg x1) am_placeOf ((xst q_2.2.1 am_kindOf (q_2.2.1 am fGuideBookModel_facts).toNatClampNeg x1) am fGuideBookModel_facts).toNatClampNeg x2) am_worthNow ((xst (xst q_2.2.1 am_kindOf (q_2.2.1 am fGuideBookModel_facts).toNatClampNeg x1) am_placeOf ((xst q_2.2.1 am_kindOf (q_2.2.1 am fGuideBookModel_facts).toNatClampNeg x1) am fGuideBookModel_facts).toNatClampNeg x2) am fGuideBookModel_facts).toNatClampNeg x3) am fGuideBookModel_facts).toNatClampNeg ((xst (xst (xst q_2.2.1 am_kindOf (q_2.2.1 am fGuideBookModel_facts).toNatClampNeg x1) am_placeOf ((xst q_2.2.1 am_kindOf (q_2.2.1 am fGuideBookModel_facts).toNatClampNeg x1) am fGuideBookModel_facts).toNatClampNeg x2) am_worthNow ((xst (xst q_2.2.1 am_kindOf (q_2.2.1 am fGuideBookModel_facts).toNatClampNeg x1) am_placeOf ((xst q_2.2.1 am_kindOf (q_2.2.1 am fGuideBookModel_facts).toNatClampNeg x1) am fGuideBookModel_facts).toNatClampNeg x2) am fGuideBookModel_facts).toNatClampNeg x3) am fGuideBookModel_now)) am fGuideBookModel_facts) 60 = true then (
            if xin ((xst (xst (xst (xst (xst q_2.2.1 am_kindOf (q_2.2.1 am fGuideBookModel_facts).toNatClampNeg x1) am_placeOf ((xst q_2.2.1 am_kindOf (q_2.2.1 am fGuideBookModel_facts).toNatClampNeg x1) am fGuideBookModel_facts).toNatClampNeg x2) am_worthNow ((xst (xst q_2.2.1 am_kindOf (q_2.2.1 am fGuideBookModel_facts).toNatClampNeg x1) am_placeOf ((xst q_2.2.1 am_kindOf (q_2.2.1 am fGuideBookModel_facts).toNatClampNeg x1) am fGuideBookModel_facts).toNatClampNeg x2) am fGuideBookModel_facts).toNatClampNeg x3) am_checkedOn ((xst (xst (xst q_2.2.1 am_kindOf (q_2.2.1 am fGuideBookModel_facts).toNatClampNeg x1) am_placeOf ((xst q_2.2.1 am_kindOf (q_2.2.1 am fGuideBookModel_facts).toNatClampNeg x1) am fGuideBookModel_facts).toNatClampNeg x2) am_worthNow ((xst (xst q_2.2.1 am_kindOf (q_2.2.1 am fGuideBookModel_facts).toNatClampNeg x1) am_placeOf ((xst q_2.2.1 am_kindOf (q_2.2.1 am fGuideBookModel_facts).toNatClampNeg x1) am fGuideBookModel_facts).toNatClampNeg x2) am fGuideBookModel_facts).toNatClampNeg x3) am fGuideBookModel_facts).toNatClampNeg ((xst (xst (xst q_2.2.1 am_kindOf (q_2.2.1 am fGuideBookModel_facts).toNatClampNeg x1) am_placeOf ((xst q_2.2.1 am_kindOf (q_2.2.1 am fGuideBookModel_facts).toNatClampNeg x1) am fGuideBookModel_facts).toNatClampNeg x2) am_worthNow ((xst (xst q_2.2.1 am_kindOf (q_2.2.1 am fGuideBookModel_facts).toNatClampNeg x1) am_placeOf ((xst q_2.2.1 am_kindOf (q_2.2.1 am fGuideBookModel_facts).toNatClampNeg x1) am fGuideBookModel_facts).toNatClampNeg x2) am fGuideBookModel_facts).toNatClampNeg x3) am fGuideBookModel_now)) am_lengths ((xst (xst (xst (xst q_2.2.1 am_kindOf (q_2.2.1 am fGuideBookModel_facts).toNatClampNeg x1) am_placeOf ((xst q_2.2.1 am_kindOf (q_2.2.1 am fGuideBookModel_facts).toNatClampNeg x1) am fGuideBookModel_facts).toNatClampNeg x2) am_worthNow ((xst (xst q_2.2.1 am_kindOf (q_2.2.1 am fGuideBookModel_facts).toNatClampNeg x1) am_placeOf ((xst q_2.2.1 am_kindOf (q_2.2.1 am fGuideBookModel_facts).toNatClampNeg x1) am fGuideBookModel_facts).toNatClampNeg x2) am fGuideBookModel_facts).toNatClampNeg x3) am_checkedOn ((xst (xst (xst q_2.2.1 am_kindOf (q_2.2.1 am fGuideBookModel_facts).toNatClampNeg x1) am_placeOf ((xst q_2.2.1 am_kindOf (q_2.2.1 am fGuideBookModel_facts).toNatClampNeg x1) am fGuideBookModel_facts).toNatClampNeg x2) am_worthNow ((xst (xst q_2.2.1 am_kindOf (q_2.2.1 am fGuideBookModel_facts).toNatClampNeg x1) am_placeOf ((xst q_2.2.1 am_kindOf (q_2.2.1 am fGuideBookModel_facts).toNatClampNeg x1) am fGuideBookModel_facts).toNatClampNeg x2) am fGuideBookModel_facts).toNatClampNeg x3) am fGuideBookModel_facts).toNatClampNeg ((xst (xst (xst q_2.2.1 am_kindOf (q_2.2.1 am fGuideBookModel_facts).toNatClampNeg x1) am_placeOf ((xst q_2.2.1 am_kindOf (q_2.2.1 am fGuideBookModel_facts).toNatClampNeg x1) am fGuideBookModel_facts).toNatClampNeg x2) am_worthNow ((xst (xst q_2.2.1 am_kindOf (q_2.2.1 am fGuideBookModel_facts).toNatClampNeg x1) am_placeOf ((xst q_2.2.1 am_kindOf (q_2.2.1 am fGuideBookModel_facts).toNatClampNeg x1) am fGuideBookModel_facts).toNatClampNeg x2) am fGuideBookModel_facts).toNatClampNeg x3) am fGuideBookModel_now)) am fGuideBookModel_facts).toNatClampNeg (1 : Int32)) am fGuideBookModel_facts) 60 = true then (
            some (((xst (xst (xst (xst (xst (xst (xst q_2.2.1 am_kindOf (q_2.2.1 am fGuideBookModel_facts).toNatClampNeg x1) am_placeOf ((xst q_2.2.1 am_kindOf (q_2.2.1 am fGuideBookModel_facts).toNatClampNeg x1) am fGuideBookModel_facts).toNatClampNeg x2) am_worthNow ((xst (xst q_2.2.1 am_kindOf (q_2.2.1 am fGuideBookModel_facts).toNatClampNeg x1) am_placeOf ((xst q_2.2.1 am_kindOf (q_2.2.1 am fGuideBookModel_facts).toNatClampNeg x1) am fGuideBookModel_facts).toNatClampNeg x2) am fGuideBookModel_facts).toNatClampNeg x3) am_checkedOn ((xst (xst (xst q_2.2.1 am_kindOf (q_2.2.1 am fGuideBookModel_facts).toNatClampNeg x1) am_placeOf ((xst q_2.2.1 am_kindOf (q_2.2.1 am fGuideBookModel_facts).toNatClampNeg x1) am fGuideBookModel_facts).toNatClampNeg x2) am_worthNow ((xst (xst q_2.2.1 am_kindOf (q_2.2.1 am fGuideBookModel_facts).toNatClampNeg x1) am_placeOf ((xst q_2.2.1 am_kindOf (q_2.2.1 am fGuideBookModel_facts).toNatClampNeg x1) am fGuideBookModel_facts).toNatClampNeg x2) am fGuideBookModel_facts).toNatClampNeg x3) am fGuideBookModel_facts).toNatClampNeg ((xst (xst (xst q_2.2.1 am_kindOf (q_2.2.1 am fGuideBookModel_facts).toNatClampNeg x1) am_placeOf ((xst q_2.2.1 am_kindOf (q_2.2.1 am fGuideBookModel_facts).toNatClampNeg x1) am fGuideBookModel_facts).toNatClampNeg x2) am_worthNow ((xst (xst q_2.2.1 am_kindOf (q_2.2.1 am fGuideBookModel_facts).toNatClampNeg x1) am_placeOf ((xst q_2.2.1 am_kindOf (q_2.2.1 am fGuideBookModel_facts).toNatClampNeg x1) am fGuideBookModel_facts).toNatClampNeg x2) am fGuideBookModel_facts).toNatClampNeg x3) am fGuideBookModel_now)) am_lengths ((xst (xst (xst (xst q_2.2.1 am_kindOf (q_2.2.1 am fGuideBookModel_facts).toNatClampNeg x1) am_placeOf ((xst q_2.2.1 am_kindOf (q_2.2.1 am fGuideBookModel_facts).toNatClampNeg x1) am fGuideBookModel_facts).toNatClampNeg x2) am_worthNow ((xst (xst q_2.2.1 am_kindOf (q_2.2.1 am fGuideBookModel_facts).toNatClampNeg x1) am_placeOf ((xst q_2.2.1 am_kindOf (q_2.2.1 am fGuideBookModel_facts).toNatClampNeg x1) am fGuideBookModel_facts).toNatClampNeg x2) am fGuideBookModel_facts).toNatClampNeg x3) am_checkedOn ((xst (xst (xst q_2.2.1 am_kindOf (q_2.2.1 am fGuideBookModel_facts).toNatClampNeg x1) am_placeOf ((xst q_2.2.1 am_kindOf (q_2.2.1 am fGuideBookModel_facts).toNatClampNeg x1) am fGuideBookModel_facts).toNatClampNeg x2) am_worthNow ((xst (xst q_2.2.1 am_kindOf (q_2.2.1 am fGuideBookModel_facts).toNatClampNeg x1) am_placeOf ((xst q_2.2.1 am_kindOf (q_2.2.1 am fGuideBookModel_facts).toNatClampNeg x1) am fGuideBookModel_facts).toNatClampNeg x2) am fGuideBookModel_facts).toNatClampNeg x3) am fGuideBookModel_facts).toNatClampNeg ((xst (xst (xst q_2.2.1 am_kindOf (q_2.2.1 am fGuideBookModel_facts).toNatClampNeg x1) am_placeOf ((xst q_2.2.1 am_kindOf (q_2.2.1 am fGuideBookModel_facts).toNatClampNeg x1) am fGuideBookModel_facts).toNatClampNeg x2) am_worthNow ((xst (xst q_2.2.1 am_kindOf (q_2.2.1 am fGuideBookModel_facts).toNatClampNeg x1) am_placeOf ((xst q_2.2.1 am_kindOf (q_2.2.1 am fGuideBookModel_facts).toNatClampNeg x1) am fGuideBookModel_facts).toNatClampNeg x2) am fGuideBookModel_facts).toNatClampNeg x3) am fGuideBookModel_now)) am fGuideBookModel_facts).toNatClampNeg (1 : Int32)) am_worths ((xst (xst (xst (xst (xst q_2.2.1 am_kindOf (q_2.2.1 am fGuideBookModel_facts).toNatClampNeg x1) am_placeOf ((xst q_2.2.1 am_kindOf (q_2.2.1 am fGuideBookModel_facts).toNatClampNeg x1) am fGuideBookModel_facts).toNatClampNeg x2) am_worthNow ((xst (xst q_2.2.1 am_kindOf (q_2.2.1 am fGuideBookModel_facts).toNatClampNeg x1) am_placeOf ((xst q_2.2.1 am_kindOf (q_2.2.1 am fGuideBookModel_facts).toNatClampNeg x1) am fGuideBookModel_facts).toNatClampNeg x2) am fGuideBookModel_facts).toNatClampNeg x3) am_checkedOn ((xst (xst (xst q_2.2.1 am_kindOf (q_2.2.1 am fGuideBookModel_facts).toNatClampNeg x1) am_placeOf ((xst q_2.2.1 am_kindOf (q_2.2.1 am fGuideBookModel_facts).toNatClampNeg x1) am fGuideBookModel_facts).toNatClampNeg x2) am_worthNow ((xst (xst q_2.2.1 am_kindOf (q_2.2.1 am fGuideBookModel_facts).toNatClampNeg x1) am_placeOf ((xst q_2.2.1 am_kindOf (q_2.2.1 am fGuideBookModel_facts).toNatClampNeg x1) am fGuideBookModel_facts).toNatClampNeg x2) am fGuideBookModel_facts).toNatClampNeg x3) am fGuideBookModel_facts).toNatClampNeg ((xst (xst (xst q_2.2.1 am_kindOf (q_2.2.1 am fGuideBookModel_facts).toNatClampNeg x1) am_placeOf ((xst q_2.2.1 am_kindOf (q_2.2.1 am fGuideBookModel_facts).toNatClampNeg x1) am fGuideBookModel_facts).toNatClampNeg x2) am_worthNow ((xst (xst q_2.2.1 am_kindOf (q_2.2.1 am fGuideBookModel_facts).toNatClampNeg x1) am_placeOf ((xst q_2.2.1 am_kindOf (q_2.2.1 am fGuideBookModel_facts).toNatClampNeg x1) am fGuideBookModel_facts).toNatClampNeg x2) am fGuideBookModel_facts).toNatClampNeg x3) am fGuideBookModel_now)) am_lengths ((xst (xst (xst (xst q_2.2.1 am_kindOf (q_2.2.1 am fGuideBookModel_facts).toNatClampNeg x1) am_placeOf ((xst q_2.2.1 am_kindOf (q_2.2.1 am fGuideBookModel_facts).toNatClampNeg x1) am fGuideBookModel_facts).toNatClampNeg x2) am_worthNow ((xst (xst q_2.2.1 am_kindOf (q_2.2.1 am fGuideBookModel_facts).toNatClampNeg x1) am_placeOf ((xst q_2.2.1 am_kindOf (q_2.2.1 am fGuideBookModel_facts).toNatClampNeg x1) am fGuideBookModel_facts).toNatClampNeg x2) am fGuideBookModel_facts).toNatClampNeg x3) am_checkedOn ((xst (xst (xst q_2.2.1 am_kindOf (q_2.2.1 am fGuideBookModel_facts).toNatClampNeg x1) am_placeOf ((xst q_2.2.1 am_kindOf (q_2.2.1 am fGuideBookModel_facts).toNatClampNeg x1) am fGuideBookModel_facts).toNatClampNeg x2) am_worthNow ((xst (xst q_2.2.1 am_kindOf (q_2.2.1 am fGuideBookModel_facts).toNatClampNeg x1) am_placeOf ((xst q_2.2.1 am_kindOf (q_2.2.1 am fGuideBookModel_facts).toNatClampNeg x1) am fGuideBookModel_facts).toNatClampNeg x2) am fGuideBookModel_facts).toNatClampNeg x3) am fGuideBookModel_facts).toNatClampNeg ((xst (xst (xst q_2.2.1 am_kindOf (q_2.2.1 am fGuideBookModel_facts).toNatClampNeg x1) am_placeOf ((xst q_2.2.1 am_kindOf (q_2.2.1 am fGuideBookModel_facts).toNatClampNeg x1) am fGuideBookModel_facts).toNatClampNeg x2) am_worthNow ((xst (xst q_2.2.1 am_kindOf (q_2.2.1 am fGuideBookModel_facts).toNatClampNeg x1) am_placeOf ((xst q_2.2.1 am_kindOf (q_2.2.1 am fGuideBookModel_facts).toNatClampNeg x1) am fGuideBookModel_facts).toNatClampNeg x2) am fGuideBookModel_facts).toNatClampNeg x3) am fGuideBookModel_now)) am fGuideBookModel_facts).toNatClampNeg (1 : Int32)) am fGuideBookModel_facts).toNatClampNeg (1 : Int32)) am fGuideBookModel_facts (((xst (xst (xst (xst (xst (xst q_2.2.1 am_kindOf (q_2.2.1 am fGuideBookModel_facts).toNatClampNeg x1) am_placeOf ((xst q_2.2.1 am_kindOf (q_2.2.1 am fGuideBookModel_facts).toNatClampNeg x1) am fGuideBookModel_facts).toNatClampNeg x2) am_worthNow ((xst (xst q_2.2.1 am_kindOf (q_2.2.1 am fGuideBookModel_facts).toNatClampNeg x1) am_placeOf ((xst q_2.2.1 am_kindOf (q_2.2.1 am fGuideBookModel_facts).toNatClampNeg x1) am fGuideBookModel_facts).toNatClampNeg x2) am fGuideBookModel_facts).toNatClampNeg x3) am_checkedOn ((xst (xst (xst q_2.2.1 am_kindOf (q_2.2.1 am fGuideBookModel_facts).toNatClampNeg x1) am_placeOf ((xst q_2.2.1 am_kindOf (q_2.2.1 am fGuideBookModel_facts).toNatClampNeg x1) am fGuideBookModel_facts).toNatClampNeg x2) am_worthNow ((xst (xst q_2.2.1 am_kindOf (q_2.2.1 am fGuideBookModel_facts).toNatClampNeg x1) am_placeOf ((xst q_2.2.1 am_kindOf (q_2.2.1 am fGuideBookModel_facts).toNatClampNeg x1) am fGuideBookModel_facts).toNatClampNeg x2) am fGuideBookModel_facts).toNatClampNeg x3) am fGuideBookModel_facts).toNatClampNeg ((xst (xst (xst q_2.2.1 am_kindOf (q_2.2.1 am fGuideBookModel_facts).toNatClampNeg x1) am_placeOf ((xst q_2.2.1 am_kindOf (q_2.2.1 am fGuideBookModel_facts).toNatClampNeg x1) am fGuideBookModel_facts).toNatClampNeg x2) am_worthNow ((xst (xst q_2.2.1 am_kindOf (q_2.2.1 am fGuideBookModel_facts).toNatClampNeg x1) am_placeOf ((xst q_2.2.1 am_kindOf (q_2.2.1 am fGuideBookModel_facts).toNatClampNeg x1) am fGuideBookModel_facts).toNatClampNeg x2) am fGuideBookModel_facts).toNatClampNeg x3) am fGuideBookModel_now)) am_lengths ((xst (xst (xst (xst q_2.2.1 am_kindOf (q_2.2.1 am fGuideBookModel_facts).toNatClampNeg x1) am_placeOf ((xst q_2.2.1 am_kindOf (q_2.2.1 am fGuideBookModel_facts).toNatClampNeg x1) am fGuideBookModel_facts).toNatClampNeg x2) am_worthNow ((xst (xst q_2.2.1 am_kindOf (q_2.2.1 am fGuideBookModel_facts).toNatClampNeg x1) am_placeOf ((xst q_2.2.1 am_kindOf (q_2.2.1 am fGuideBookModel_facts).toNatClampNeg x1) am fGuideBookModel_facts).toNatClampNeg x2) am fGuideBookModel_facts).toNatClampNeg x3) am_checkedOn ((xst (xst (xst q_2.2.1 am_kindOf (q_2.2.1 am fGuideBookModel_facts).toNatClampNeg x1) am_placeOf ((xst q_2.2.1 am_kindOf (q_2.2.1 am fGuideBookModel_facts).toNatClampNeg x1) am fGuideBookModel_facts).toNatClampNeg x2) am_worthNow ((xst (xst q_2.2.1 am_kindOf (q_2.2.1 am fGuideBookModel_facts).toNatClampNeg x1) am_placeOf ((xst q_2.2.1 am_kindOf (q_2.2.1 am fGuideBookModel_facts).toNatClampNeg x1) am fGuideBookModel_facts).toNatClampNeg x2) am fGuideBookModel_facts).toNatClampNeg x3) am fGuideBookModel_facts).toNatClampNeg ((xst (xst (xst q_2.2.1 am_kindOf (q_2.2.1 am fGuideBookModel_facts).toNatClampNeg x1) am_placeOf ((xst q_2.2.1 am_kindOf (q_2.2.1 am fGuideBookModel_facts).toNatClampNeg x1) am fGuideBookModel_facts).toNatClampNeg x2) am_worthNow ((xst (xst q_2.2.1 am_kindOf (q_2.2.1 am fGuideBookModel_facts).toNatClampNeg x1) am_placeOf ((xst q_2.2.1 am_kindOf (q_2.2.1 am fGuideBookModel_facts).toNatClampNeg x1) am fGuideBookModel_facts).toNatClampNeg x2) am fGuideBookModel_facts).toNatClampNeg x3) am fGuideBookModel_now)) am fGuideBookModel_facts).toNatClampNeg (1 : Int32)) am_worths ((xst (xst (xst (xst (xst q_2.2.1 am_kindOf (q_2.2.1 am fGuideBookModel_facts).toNatClampNeg x1) am_placeOf ((xst q_2.2.1 am_kindOf (q_2.2.1 am fGuideBookModel_facts).toNatClampNeg x1) am fGuideBookModel_facts).toNatClampNeg x2) am_worthNow ((xst (xst q_2.2.1 am_kindOf (q_2.2.1 am fGuideBookModel_facts).toNatClampNeg x1) am_placeOf ((xst q_2.2.1 am_kindOf (q_2.2.1 am fGuideBookModel_facts).toNatClampNeg x1) am fGuideBookModel_facts).toNatClampNeg x2) am fGuideBookModel_facts).toNatClampNeg x3) am_checkedOn ((xst (xst (xst q_2.2.1 am_kindOf (q_2.2.1 am fGuideBookModel_facts).toNatClampNeg x1) am_placeOf ((xst q_2.2.1 am_kindOf (q_2.2.1 am fGuideBookModel_facts).toNatClampNeg x1) am fGuideBookModel_facts).toNatClampNeg x2) am_worthNow ((xst (xst q_2.2.1 am_kindOf (q_2.2.1 am fGuideBookModel_facts).toNatClampNeg x1) am_placeOf ((xst q_2.2.1 am_kindOf (q_2.2.1 am fGuideBookModel_facts).toNatClampNeg x1) am fGuideBookModel_facts).toNatClampNeg x2) am fGuideBookModel_facts).toNatClampNeg x3) am fGuideBookModel_facts).toNatClampNeg ((xst (xst (xst q_2.2.1 am_kindOf (q_2.2.1 am fGuideBookModel_facts).toNatClampNeg x1) am_placeOf ((xst q_2.2.1 am_kindOf (q_2.2.1 am fGuideBookModel_facts).toNatClampNeg x1) am fGuideBookModel_facts).toNatClampNeg x2) am_worthNow ((xst (xst q_2.2.1 am_kindOf (q_2.2.1 am fGuideBookModel_facts).toNatClampNeg x1) am_placeOf ((xst q_2.2.1 am_kindOf (q_2.2.1 am fGuideBookModel_facts).toNatClampNeg x1) am fGuideBookModel_facts).toNatClampNeg x2) am fGuideBookModel_facts).toNatClampNeg x3) am fGuideBookModel_now)) am_lengths ((xst (xst (xst (xst q_2.2.1 am_kindOf (q_2.2.1 am fGuideBookModel_facts).toNatClampNeg x1) am_placeOf ((xst q_2.2.1 am_kindOf (q_2.2.1 am fGuideBookModel_facts).toNatClampNeg x1) am fGuideBookModel_facts).toNatClampNeg x2) am_worthNow ((xst (xst q_2.2.1 am_kindOf (q_2.2.1 am fGuideBookModel_facts).toNatClampNeg x1) am_placeOf ((xst q_2.2.1 am_kindOf (q_2.2.1 am fGuideBookModel_facts).toNatClampNeg x1) am fGuideBookModel_facts).toNatClampNeg x2) am fGuideBookModel_facts).toNatClampNeg x3) am_checkedOn ((xst (xst (xst q_2.2.1 am_kindOf (q_2.2.1 am fGuideBookModel_facts).toNatClampNeg x1) am_placeOf ((xst q_2.2.1 am_kindOf (q_2.2.1 am fGuideBookModel_facts).toNatClampNeg x1) am fGuideBookModel_facts).toNatClampNeg x2) am_worthNow ((xst (xst q_2.2.1 am_kindOf (q_2.2.1 am fGuideBookModel_facts).toNatClampNeg x1) am_placeOf ((xst q_2.2.1 am_kindOf (q_2.2.1 am fGuideBookModel_facts).toNatClampNeg x1) am fGuideBookModel_facts).toNatClampNeg x2) am fGuideBookModel_facts).toNatClampNeg x3) am fGuideBookModel_facts).toNatClampNeg ((xst (xst (xst q_2.2.1 am_kindOf (q_2.2.1 am fGuideBookModel_facts).toNatClampNeg x1) am_placeOf ((xst q_2.2.1 am_kindOf (q_2.2.1 am fGuideBookModel_facts).toNatClampNeg x1) am fGuideBookModel_facts).toNatClampNeg x2) am_worthNow ((xst (xst q_2.2.1 am_kindOf (q_2.2.1 am fGuideBookModel_facts).toNatClampNeg x1) am_placeOf ((xst q_2.2.1 am_kindOf (q_2.2.1 am fGuideBookModel_facts).toNatClampNeg x1) am fGuideBookModel_facts).toNatClampNeg x2) am fGuideBookModel_facts).toNatClampNeg x3) am fGuideBookModel_now)) am fGuideBookModel_facts).toNatClampNeg (1 : Int32)) am fGuideBookModel_facts).toNatClampNeg (1 : Int32)) am fGuideBookModel_facts) + (1 : Int32))) am fGuideBookModel_facts) - (1 : Int32), (xst (xst (xst (xst (xst (xst (xst q_2.2.1 am_kindOf (q_2.2.1 am fGuideBookModel_facts).toNatClampNeg x1) am_placeOf ((xst q_2.2.1 am_kindOf (q_2.2.1 am fGuideBookModel_facts).toNatClampNeg x1) am fGuideBookModel_facts).toNatClampNeg x2) am_worthNow ((xst (xst q_2.2.1 am_kindOf (q_2.2.1 am fGuideBookModel_facts).toNatClampNeg x1) am_placeOf ((xst q_2.2.1 am_kindOf (q_2.2.1 am fGuideBookModel_facts).toNatClampNeg x1) am fGuideBookModel_facts).toNatClampNeg x2) am fGuideBookModel_facts).toNatClampNeg x3) am_checkedOn ((xst (xst (xst q_2.2.1 am_kindOf (q_2.2.1 am fGuideBookModel_facts).toNatClampNeg x1) am_placeOf ((xst q_2.2.1 am_kindOf (q_2.2.1 am fGuideBookModel_facts).toNatClampNeg x1) am fGuideBookModel_facts).toNatClampNeg x2) am_worthNow ((xst (xst q_2.2.1 am_kindOf (q_2.2.1 am fGuideBookModel_facts).toNatClampNeg x1) am_placeOf ((xst q_2.2.1 am_kindOf (q_2.2.1 am fGuideBookModel_facts).toNatClampNeg x1) am fGuideBookModel_facts).toNatClampNeg x2) am fGuideBookModel_facts).toNatClampNeg x3) am fGuideBookModel_facts).toNatClampNeg ((xst (xst (xst q_2.2.1 am_kindOf (q_2.2.1 am fGuideBookModel_facts).toNatClampNeg x1) am_placeOf ((xst q_2.2.1 am_kindOf (q_2.2.1 am fGuideBookModel_facts).toNatClampNeg x1) am fGuideBookModel_facts).toNatClampNeg x2) am_worthNow ((xst (xst q_2.2.1 am_kindOf (q_2.2.1 am fGuideBookModel_facts).toNatClampNeg x1) am_placeOf ((xst q_2.2.1 am_kindOf (q_2.2.1 am fGuideBookModel_facts).toNatClampNeg x1) am fGuideBookModel_facts).toNatClampNeg x2) am fGuideBookModel_facts).toNatClampNeg x3) am fGuideBookModel_now)) am_lengths ((xst (xst (xst (xst q_2.2.1 am_kindOf (q_2.2.1 am fGuideBookModel_facts).toNatClampNeg x1) am_placeOf ((xst q_2.2.1 am_kindOf (q_2.2.1 am fGuideBookModel_facts).toNatClampNeg x1) am fGuideBookModel_facts).toNatClampNeg x2) am_worthNow ((xst (xst q_2.2.1 am_kindOf (q_2.2.1 am fGuideBookModel_facts).toNatClampNeg x1) am_placeOf ((xst q_2.2.1 am_kindOf (q_2.2.1 am fGuideBookModel_facts).toNatClampNeg x1) am fGuideBookModel_facts).toNatClampNeg x2) am fGuideBookModel_facts).toNatClampNeg x3) am_checkedOn ((xst (xst (xst q_2.2.1 am_kindOf (q_2.2.1 am fGuideBookModel_facts).toNatClampNeg x1) am_placeOf ((xst q_2.2.1 am_kindOf (q_2.2.1 am fGuideBookModel_facts).toNatClampNeg x1) am fGuideBookModel_facts).toNatClampNeg x2) am_worthNow ((xst (xst q_2.2.1 am_kindOf (q_2.2.1 am fGuideBookModel_facts).toNatClampNeg x1) am_placeOf ((xst q_2.2.1 am_kindOf (q_2.2.1 am fGuideBookModel_facts).toNatClampNeg x1) am fGuideBookModel_facts).toNatClampNeg x2) am fGuideBookModel_facts).toNatClampNeg x3) am fGuideBookModel_facts).toNatClampNeg ((xst (xst (xst q_2.2.1 am_kindOf (q_2.2.1 am fGuideBookModel_facts).toNatClampNeg x1) am_placeOf ((xst q_2.2.1 am_kindOf (q_2.2.1 am fGuideBookModel_facts).toNatClampNeg x1) am fGuideBookModel_facts).toNatClampNeg x2) am_worthNow ((xst (xst q_2.2.1 am_kindOf (q_2.2.1 am fGuideBookModel_facts).toNatClampNeg x1) am_placeOf ((xst q_2.2.1 am_kindOf (q_2.2.1 am fGuideBookModel_facts).toNatClampNeg x1) am fGuideBookModel_facts).toNatClampNeg x2) am fGuideBookModel_facts).toNatClampNeg x3) am fGuideBookModel_now)) am fGuideBookModel_facts).toNatClampNeg (1 : Int32)) am_worths ((xst (xst (xst (xst (xst q_2.2.1 am_kindOf (q_2.2.1 am fGuideBookModel_facts).toNatClampNeg x1) am_placeOf ((xst q_2.2.1 am_kindOf (q_2.2.1 am fGuideBookModel_facts).toNatClampNeg x1) am fGuideBookModel_facts).toNatClampNeg x2) am_worthNow ((xst (xst q_2.2.1 am_kindOf (q_2.2.1 am fGuideBookModel_facts).toNatClampNeg x1) am_placeOf ((xst q_2.2.1 am_kindOf (q_2.2.1 am fGuideBookModel_facts).toNatClampNeg x1) am fGuideBookModel_facts).toNatClampNeg x2) am fGuideBookModel_facts).toNatClampNeg x3) am_checkedOn ((xst (xst (xst q_2.2.1 am_kindOf (q_2.2.1 am fGuideBookModel_facts).toNatClampNeg x1) am_placeOf ((xst q_2.2.1 am_kindOf (q_2.2.1 am fGuideBookModel_facts).toNatClampNeg x1) am fGuideBookModel_facts).toNatClampNeg x2) am_worthNow ((xst (xst q_2.2.1 am_kindOf (q_2.2.1 am fGuideBookModel_facts).toNatClampNeg x1) am_placeOf ((xst q_2.2.1 am_kindOf (q_2.2.1 am fGuideBookModel_facts).toNatClampNeg x1) am fGuideBookModel_facts).toNatClampNeg x2) am fGuideBookModel_facts).toNatClampNeg x3) am fGuideBookModel_facts).toNatClampNeg ((xst (xst (xst q_2.2.1 am_kindOf (q_2.2.1 am fGuideBookModel_facts).toNatClampNeg x1) am_placeOf ((xst q_2.2.1 am_kindOf (q_2.2.1 am fGuideBookModel_facts).toNatClampNeg x1) am fGuideBookModel_facts).toNatClampNeg x2) am_worthNow ((xst (xst q_2.2.1 am_kindOf (q_2.2.1 am fGuideBookModel_facts).toNatClampNeg x1) am_placeOf ((xst q_2.2.1 am_kindOf (q_2.2.1 am fGuideBookModel_facts).toNatClampNeg x1) am fGuideBookModel_facts).toNatClampNeg x2) am fGuideBookModel_facts).toNatClampNeg x3) am fGuideBookModel_now)) am_lengths ((xst (xst (xst (xst q_2.2.1 am_kindOf (q_2.2.1 am fGuideBookModel_facts).toNatClampNeg x1) am_placeOf ((xst q_2.2.1 am_kindOf (q_2.2.1 am fGuideBookModel_facts).toNatClampNeg x1) am fGuideBookModel_facts).toNatClampNeg x2) am_worthNow ((xst (xst q_2.2.1 am_kindOf (q_2.2.1 am fGuideBookModel_facts).toNatClampNeg x1) am_placeOf ((xst q_2.2.1 am_kindOf (q_2.2.1 am fGuideBookModel_facts).toNatClampNeg x1) am fGuideBookModel_facts).toNatClampNeg x2) am fGuideBookModel_facts).toNatClampNeg x3) am_checkedOn ((xst (xst (xst q_2.2.1 am_kindOf (q_2.2.1 am fGuideBookModel_facts).toNatClampNeg x1) am_placeOf ((xst q_2.2.1 am_kindOf (q_2.2.1 am fGuideBookModel_facts).toNatClampNeg x1) am fGuideBookModel_facts).toNatClampNeg x2) am_worthNow ((xst (xst q_2.2.1 am_kindOf (q_2.2.1 am fGuideBookModel_facts).toNatClampNeg x1) am_placeOf ((xst q_2.2.1 am_kindOf (q_2.2.1 am fGuideBookModel_facts).toNatClampNeg x1) am fGuideBookModel_facts).toNatClampNeg x2) am fGuideBookModel_facts).toNatClampNeg x3) am fGuideBookModel_facts).toNatClampNeg ((xst (xst (xst q_2.2.1 am_kindOf (q_2.2.1 am fGuideBookModel_facts).toNatClampNeg x1) am_placeOf ((xst q_2.2.1 am_kindOf (q_2.2.1 am fGuideBookModel_facts).toNatClampNeg x1) am fGuideBookModel_facts).toNatClampNeg x2) am_worthNow ((xst (xst q_2.2.1 am_kindOf (q_2.2.1 am fGuideBookModel_facts).toNatClampNeg x1) am_placeOf ((xst q_2.2.1 am_kindOf (q_2.2.1 am fGuideBookModel_facts).toNatClampNeg x1) am fGuideBookModel_facts).toNatClampNeg x2) am fGuideBookModel_facts).toNatClampNeg x3) am fGuideBookModel_now)) am fGuideBookModel_facts).toNatClampNeg (1 : Int32)) am fGuideBookModel_facts).toNatClampNeg (1 : Int32)) am fGuideBookModel_facts (((xst (xst (xst (xst (xst (xst q_2.2.1 am_kindOf (q_2.2.1 am fGuideBookModel_facts).toNatClampNeg x1) am_placeOf ((xst q_2.2.1 am_kindOf (q_2.2.1 am fGuideBookModel_facts).toNatClampNeg x1) am fGuideBookModel_facts).toNatClampNeg x2) am_worthNow ((xst (xst q_2.2.1 am_kindOf (q_2.2.1 am fGuideBookModel_facts).toNatClampNeg x1) am_placeOf ((xst q_2.2.1 am_kindOf (q_2.2.1 am fGuideBookModel_facts).toNatClampNeg x1) am fGuideBookModel_facts).toNatClampNeg x2) am fGuideBookModel_facts).toNatClampNeg x3) am_checkedOn ((xst (xst (xst q_2.2.1 am_kindOf (q_2.2.1 am fGuideBookModel_facts).toNatClampNeg x1) am_placeOf ((xst q_2.2.1 am_kindOf (q_2.2.1 am fGuideBookModel_facts).toNatClampNeg x1) am fGuideBookModel_facts).toNatClampNeg x2) am_worthNow ((xst (xst q_2.2.1 am_kindOf (q_2.2.1 am fGuideBookModel_facts).toNatClampNeg x1) am_placeOf ((xst q_2.2.1 am_kindOf (q_2.2.1 am fGuideBookModel_facts).toNatClampNeg x1) am fGuideBookModel_facts).toNatClampNeg x2) am fGuideBookModel_facts).toNatClampNeg x3) am fGuideBookModel_facts).toNatClampNeg ((xst (xst (xst q_2.2.1 am_kindOf (q_2.2.1 am fGuideBookModel_facts).toNatClampNeg x1) am_placeOf ((xst q_2.2.1 am_kindOf (q_2.2.1 am fGuideBookModel_facts).toNatClampNeg x1) am fGuideBookModel_facts).toNatClampNeg x2) am_worthNow ((xst (xst q_2.2.1 am_kindOf (q_2.2.1 am fGuideBookModel_facts).toNatClampNeg x1) am_placeOf ((xst q_2.2.1 am_kindOf (q_2.2.1 am fGuideBookModel_facts).toNatClampNeg x1) am fGuideBookModel_facts).toNatClampNeg x2) am fGuideBookModel_facts).toNatClampNeg x3) am fGuideBookModel_now)) am_lengths ((xst (xst (xst (xst q_2.2.1 am_kindOf (q_2.2.1 am fGuideBookModel_facts).toNatClampNeg x1) am_placeOf ((xst q_2.2.1 am_kindOf (q_2.2.1 am fGuideBookModel_facts).toNatClampNeg x1) am fGuideBookModel_facts).toNatClampNeg x2) am_worthNow ((xst (xst q_2.2.1 am_kindOf (q_2.2.1 am fGuideBookModel_facts).toNatClampNeg x1) am_placeOf ((xst q_2.2.1 am_kindOf (q_2.2.1 am fGuideBookModel_facts).toNatClampNeg x1) am fGuideBookModel_facts).toNatClampNeg x2) am fGuideBookModel_facts).toNatClampNeg x3) am_checkedOn ((xst (xst (xst q_2.2.1 am_kindOf (q_2.2.1 am fGuideBookModel_facts).toNatClampNeg x1) am_placeOf ((xst q_2.2.1 am_kindOf (q_2.2.1 am fGuideBookModel_facts).toNatClampNeg x1) am fGuideBookModel_facts).toNatClampNeg x2) am_worthNow ((xst (xst q_2.2.1 am_kindOf (q_2.2.1 am fGuideBookModel_facts).toNatClampNeg x1) am_placeOf ((xst q_2.2.1 am_kindOf (q_2.2.1 am fGuideBookModel_facts).toNatClampNeg x1) am fGuideBookModel_facts).toNatClampNeg x2) am fGuideBookModel_facts).toNatClampNeg x3) am fGuideBookModel_facts).toNatClampNeg ((xst (xst (xst q_2.2.1 am_kindOf (q_2.2.1 am fGuideBookModel_facts).toNatClampNeg x1) am_placeOf ((xst q_2.2.1 am_kindOf (q_2.2.1 am fGuideBookModel_facts).toNatClampNeg x1) am fGuideBookModel_facts).toNatClampNeg x2) am_worthNow ((xst (xst q_2.2.1 am_kindOf (q_2.2.1 am fGuideBookModel_facts).toNatClampNeg x1) am_placeOf ((xst q_2.2.1 am_kindOf (q_2.2.1 am fGuideBookModel_facts).toNatClampNeg x1) am fGuideBookModel_facts).toNatClampNeg x2) am fGuideBookModel_facts).toNatClampNeg x3) am fGuideBookModel_now)) am fGuideBookModel_facts).toNatClampNeg (1 : Int32)) am_worths ((xst (xst (xst (xst (xst q_2.2.1 am_kindOf (q_2.2.1 am fGuideBookModel_facts).toNatClampNeg x1) am_placeOf ((xst q_2.2.1 am_kindOf (q_2.2.1 am fGuideBookModel_facts).toNatClampNeg x1) am fGuideBookModel_facts).toNatClampNeg x2) am_worthNow ((xst (xst q_2.2.1 am_kindOf (q_2.2.1 am fGuideBookModel_facts).toNatClampNeg x1) am_placeOf ((xst q_2.2.1 am_kindOf (q_2.2.1 am fGuideBookModel_facts).toNatClampNeg x1) am fGuideBookModel_facts).toNatClampNeg x2) am fGuideBookModel_facts).toNatClampNeg x3) am_checkedOn ((xst (xst (xst q_2.2.1 am_kindOf (q_2.2.1 am fGuideBookModel_facts).toNatClampNeg x1) am_placeOf ((xst q_2.2.1 am_kindOf (q_2.2.1 am fGuideBookModel_facts).toNatClampNeg x1) am fGuideBookModel_facts).toNatClampNeg x2) am_worthNow ((xst (xst q_2.2.1 am_kindOf (q_2.2.1 am fGuideBookModel_facts).toNatClampNeg x1) am_placeOf ((xst q_2.2.1 am_kindOf (q_2.2.1 am fGuideBookModel_facts).toNatClampNeg x1) am fGuideBookModel_facts).toNatClampNeg x2) am fGuideBookModel_facts).toNatClampNeg x3) am fGuideBookModel_facts).toNatClampNeg ((xst (xst (xst q_2.2.1 am_kindOf (q_2.2.1 am fGuideBookModel_facts).toNatClampNeg x1) am_placeOf ((xst q_2.2.1 am_kindOf (q_2.2.1 am fGuideBookModel_facts).toNatClampNeg x1) am fGuideBookModel_facts).toNatClampNeg x2) am_worthNow ((xst (xst q_2.2.1 am_kindOf (q_2.2.1 am fGuideBookModel_facts).toNatClampNeg x1) am_placeOf ((xst q_2.2.1 am_kindOf (q_2.2.1 am fGuideBookModel_facts).toNatClampNeg x1) am fGuideBookModel_facts).toNatClampNeg x2) am fGuideBookModel_facts).toNatClampNeg x3) am fGuideBookModel_now)) am_lengths ((xst (xst (xst (xst q_2.2.1 am_kindOf (q_2.2.1 am fGuideBookModel_facts).toNatClampNeg x1) am_placeOf ((xst q_2.2.1 am_kindOf (q_2.2.1 am fGuideBookModel_facts).toNatClampNeg x1) am fGuideBookModel_facts).toNatClampNeg x2) am_worthNow ((xst (xst q_2.2.1 am_kindOf (q_2.2.1 am fGuideBookModel_facts).toNatClampNeg x1) am_placeOf ((xst q_2.2.1 am_kindOf (q_2.2.1 am fGuideBookModel_facts).toNatClampNeg x1) am fGuideBookModel_facts).toNatClampNeg x2) am fGuideBookModel_facts).toNatClampNeg x3) am_checkedOn ((xst (xst (xst q_2.2.1 am_kindOf (q_2.2.1 am fGuideBookModel_facts).toNatClampNeg x1) am_placeOf ((xst q_2.2.1 am_kindOf (q_2.2.1 am fGuideBookModel_facts).toNatClampNeg x1) am fGuideBookModel_facts).toNatClampNeg x2) am_worthNow ((xst (xst q_2.2.1 am_kindOf (q_2.2.1 am fGuideBookModel_facts).toNatClampNeg x1) am_placeOf ((xst q_2.2.1 am_kindOf (q_2.2.1 am fGuideBookModel_facts).toNatClampNeg x1) am fGuideBookModel_facts).toNatClampNeg x2) am fGuideBookModel_facts).toNatClampNeg x3) am fGuideBookModel_facts).toNatClampNeg ((xst (xst (xst q_2.2.1 am_kindOf (q_2.2.1 am fGuideBookModel_facts).toNatClampNeg x1) am_placeOf ((xst q_2.2.1 am_kindOf (q_2.2.1 am fGuideBookModel_facts).toNatClampNeg x1) am fGuideBookModel_facts).toNatClampNeg x2) am_worthNow ((xst (xst q_2.2.1 am_kindOf (q_2.2.1 am fGuideBookModel_facts).toNatClampNeg x1) am_placeOf ((xst q_2.2.1 am_kindOf (q_2.2.1 am fGuideBookModel_facts).toNatClampNeg x1) am fGuideBookModel_facts).toNatClampNeg x2) am fGuideBookModel_facts).toNatClampNeg x3) am fGuideBookModel_now)) am fGuideBookModel_facts).toNatClampNeg (1 : Int32)) am fGuideBookModel_facts).toNatClampNeg (1 : Int32)) am fGuideBookModel_facts) + (1 : Int32)), q_2.2.2)))
            else none)
            else none)
            else none)
            else none)
            else none)
            else none)))))))
set_option maxHeartbeats 4000000 in
set_option maxRecDepth 100000 in
theorem pF_X10_fact {E : xE} {d : Nat} {Q : Option Value → xS → Prop} (hd : 2 ≤ d) (out : Int32 × xMem) (hR : Q (some (.int out.1)) (xf E out.2)) (x1 : Int32) (x2 : Int32) (x3 : Int32) (m : xMem) (hf : F_X10_fact x1 x2 x3 m = some out) : xX E mX10_fact d 0 0 0 0 Q 0 [(0, .ref (xB E + 87)), (1, .int (x1)), (2, .int (x2)), (3, .int (x3))] [] (xf E m) := by
  unfold F_X10_fact at hf
  refine x_aload_n dX10_fact_0 rfl ?_
  refine x_iconst (v := 0) dX10_fact_1 (by decide) ?_
  refine f_putI dX10_fact_2 xcl_10 (by decide) fl_RX10_1 rfl rfl (by decide) sh_87 rfl ?_
  refine x_iload_n dX10_fact_5 rfl ?_
  refine x_if_lt 37 dX10_fact_6 (by decide) (fun hc => ?_) (fun hc => ?_)
  · replace hf := x_ift hc hf
    refine x_iconst (v := (-1)) dX10_fact_37 (by decide) ?_
    exact x_iret dX10_fact_38 rfl (by cases hf; exact hR)
  · replace hf := x_iff hc hf
    refine x_iload_n dX10_fact_9 rfl ?_
    refine x_iconst (v := 5) dX10_fact_10 (by decide) ?_
    refine x_icmp_gt 37 dX10_fact_11 (by decide) (fun hc => ?_) (fun hc => ?_)
    · replace hf := x_ift hc hf
      refine x_iconst (v := (-1)) dX10_fact_37 (by decide) ?_
      exact x_iret dX10_fact_38 rfl (by cases hf; exact hR)
    · replace hf := x_iff hc hf
      refine x_iload_n dX10_fact_14 rfl ?_
      obtain ⟨q_1, hq_1, hf⟩ := Option.bind_eq_some_iff.mp hf
      refine f_cSi mX10_isPlace [.int (x2)] [] dX10_fact_15 cs_RX10_244 w_1176 rfl rfl (Nat.le_of_ble_eq_true rfl) (by omega) (c_X10_isPlace (d := d - 1) (by omega) (x2) (xst m.1 am fGuideBookModel_thrown (0 : Int32), m.2) q_1 hq_1) ?_
      refine x_if_eq 37 dX10_fact_18 (by decide) (fun hc => ?_) (fun hc => ?_)
      · replace hf := x_ift hc hf
        refine x_iconst (v := (-1)) dX10_fact_37 (by decide) ?_
        exact x_iret dX10_fact_38 rfl (by cases hf; exact hR)
      · replace hf := x_iff hc hf
        refine x_iload_n dX10_fact_21 rfl ?_
        obtain ⟨q_2, hq_2, hf⟩ := Option.bind_eq_some_iff.mp hf
        refine f_cSi mX10_isValue [.int (x3)] [] dX10_fact_22 cs_RX10_247 w_1179 rfl rfl (Nat.le_of_ble_eq_true rfl) (by omega) (c_X10_isValue (d := d - 1) (by omega) (x3) q_1.2 q_2 hq_2) ?_
        refine x_if_eq 37 dX10_fact_25 (by decide) (fun hc => ?_) (fun hc => ?_)
        · replace hf := x_ift hc hf
          refine x_iconst (v := (-1)) dX10_fact_37 (by decide) ?_
          exact x_iret dX10_fact_38 rfl (by cases hf; exact hR)
        · replace hf := x_iff hc hf
          refine x_aload_n dX10_fact_28 rfl ?_
          refine f_getI dX10_fact_29 xcl_10 (by decide) fl_RX10_250 (by decide) sh_87 rfl ?_
          refine x_bipush (v := 60) dX10_fact_32 (by decide) ?_
          refine x_icmp_ne 39 dX10_fact_34 (by decide) (fun hc => ?_) (fun hc => ?_)
          · replace hf := x_iff hc hf
            refine x_aload_n dX10_fact_39 rfl ?_
            refine f_getR (b := 103) dX10_fact_40 xcl_10 (by decide) fl_RX10_85 (by decide) sh_87 rfl ?_
            refine x_aload_n dX10_fact_43 rfl ?_
            refine f_getI dX10_fact_44 xcl_10 (by decide) fl_RX10_250 (by decide) sh_87 rfl ?_
            refine x_iload_n dX10_fact_47 rfl ?_
            have hg_3 := x_gd hf
            replace hf := hg_3.2
            refine f_iast dX10_fact_48 (by decide) sh_103 hg_3.1 ?_
            refine x_aload_n dX10_fact_49 rfl ?_
            refine f_getR (b := 104) dX10_fact_50 xcl_10 (by decide) fl_RX10_88 (by decide) sh_87 rfl ?_
            refine x_aload_n dX10_fact_53 rfl ?_
            refine f_getI dX10_fact_54 xcl_10 (by decide) fl_RX10_250 (by decide) sh_87 rfl ?_
            refine x_iload_n dX10_fact_57 rfl ?_
            have hg_4 := x_gd hf
            replace hf := hg_4.2
            refine f_iast dX10_fact_58 (by decide) sh_104 hg_4.1 ?_
            refine x_aload_n dX10_fact_59 rfl ?_
            refine f_getR (b := 105) dX10_fact_60 xcl_10 (by decide) fl_RX10_91 (by decide) sh_87 rfl ?_
            refine x_aload_n dX10_fact_63 rfl ?_
            refine f_getI dX10_fact_64 xcl_10 (by decide) fl_RX10_250 (by decide) sh_87 rfl ?_
            refine x_iload_n dX10_fact_67 rfl ?_
            have hg_5 := x_gd hf
            replace hf := hg_5.2
            refine f_iast dX10_fact_68 (by decide) sh_105 hg_5.1 ?_
            refine x_aload_n dX10_fact_69 rfl ?_
            refine f_getR (b := 106) dX10_fact_70 xcl_10 (by decide) fl_RX10_94 (by decide) sh_87 rfl ?_
            refine x_aload_n dX10_fact_73 rfl ?_
            refine f_getI dX10_fact_74 xcl_10 (by decide) fl_RX10_250 (by decide) sh_87 rfl ?_
            refine x_aload_n dX10_fact_77 rfl ?_
            refine f_getI dX10_fact_78 xcl_10 (by decide) fl_RX10_241 (by decide) sh_87 rfl ?_
            have hg_6 := x_gd hf
            replace hf := hg_6.2
            refine f_iast dX10_fact_81 (by decide) sh_106 hg_6.1 ?_
            refine x_aload_n dX10_fact_82 rfl ?_
            refine f_getR (b := 107) dX10_fact_83 xcl_10 (by decide) fl_RX10_97 (by decide) sh_87 rfl ?_
            refine x_aload_n dX10_fact_86 rfl ?_
            refine f_getI dX10_fact_87 xcl_10 (by decide) fl_RX10_250 (by decide) sh_87 rfl ?_
            refine x_iconst (v := 1) dX10_fact_90 (by decide) ?_
            have hg_7 := x_gd hf
            replace hf := hg_7.2
            refine f_iast dX10_fact_91 (by decide) sh_107 hg_7.1 ?_
            refine x_aload_n dX10_fact_92 rfl ?_
            refine f_getR (b := 108) dX10_fact_93 xcl_10 (by decide) fl_RX10_100 (by decide) sh_87 rfl ?_
            refine x_aload_n dX10_fact_96 rfl ?_
            refine f_getI dX10_fact_97 xcl_10 (by decide) fl_RX10_250 (by decide) sh_87 rfl ?_
            refine x_iconst (v := 1) dX10_fact_100 (by decide) ?_
            have hg_8 := x_gd hf
            replace hf := hg_8.2
            refine f_iast dX10_fact_101 (by decide) sh_108 hg_8.1 ?_
            refine x_aload_n dX10_fact_102 rfl ?_
            refine x_dup dX10_fact_103 rfl ?_
            refine f_getI dX10_fact_104 xcl_10 (by decide) fl_RX10_250 (by decide) sh_87 rfl ?_
            refine x_iconst (v := 1) dX10_fact_107 (by decide) ?_
            refine x_iadd dX10_fact_108 ?_
            refine f_putI dX10_fact_109 xcl_10 (by decide) fl_RX10_250 rfl rfl (by decide) sh_87 rfl ?_
            refine x_aload_n dX10_fact_112 rfl ?_
            refine f_getI dX10_fact_113 xcl_10 (by decide) fl_RX10_250 (by decide) sh_87 rfl ?_
            refine x_iconst (v := 1) dX10_fact_116 (by decide) ?_
            refine x_isub dX10_fact_117 ?_
            exact x_iret dX10_fact_118 rfl (by cases hf; exact hR)
          · replace hf := x_ift hc hf
            refine x_iconst (v := (-1)) dX10_fact_37 (by decide) ?_
            exact x_iret dX10_fact_38 rfl (by cases hf; exact hR)
theorem c_X10_fact {E : xE} {d : Nat} (hd : 2 ≤ d) (x1 : Int32) (x2 : Int32) (x3 : Int32) (m : xMem) (out : Int32 × xMem) (h : F_X10_fact x1 x2 x3 m = some out) : xCi E mX10_fact d [.ref (xB E + 87), .int x1, .int x2, .int x3] m out.1 out.2 :=
  x_enter (by decide +kernel) (Nat.le_of_ble_eq_true rfl) (pF_X10_fact hd (Q := _) out ⟨rfl, rfl⟩ x1 x2 x3 m h)
-- X2_has
def F_X2_has (x1 : Int32) (m : xMem) : Option (Int32 × xMem) :=
  if x1 < 0 then (
    some ((0 : Int32), m))
  else (
    if (m.1 ag_facts fFacts_size) ≤ x1 then (
      some ((0 : Int32), m))
    else (
      some ((1 : Int32), m)))
set_option maxHeartbeats 4000000 in
set_option maxRecDepth 100000 in
theorem pF_X2_has {E : xE} {d : Nat} {Q : Option Value → xS → Prop} (hd : 1 ≤ d) (out : Int32 × xMem) (hR : Q (some (.int out.1)) (xf E out.2)) (x1 : Int32) (m : xMem) (hf : F_X2_has x1 m = some out) : xX E mX2_has d 0 0 0 0 Q 0 [(0, .ref (xB E + 1)), (1, .int (x1))] [] (xf E m) := by
  unfold F_X2_has at hf
  refine x_iload_n dX2_has_0 rfl ?_
  refine x_if_lt 16 dX2_has_1 (by decide) (fun hc => ?_) (fun hc => ?_)
  · replace hf := x_ift hc hf
    refine x_iconst (v := 0) dX2_has_16 (by decide) ?_
    exact x_zret dX2_has_17 rfl (by decide) (by cases hf; exact hR)
  · replace hf := x_iff hc hf
    refine x_iload_n dX2_has_4 rfl ?_
    refine x_aload_n dX2_has_5 rfl ?_
    refine f_getI dX2_has_6 xcl_2 (by decide) fl_RX2_36 (by decide) sh_1 rfl ?_
    refine x_icmp_ge 16 dX2_has_9 (by decide) (fun hc => ?_) (fun hc => ?_)
    · replace hf := x_ift hc hf
      refine x_iconst (v := 0) dX2_has_16 (by decide) ?_
      exact x_zret dX2_has_17 rfl (by decide) (by cases hf; exact hR)
    · replace hf := x_iff hc hf
      refine x_iconst (v := 1) dX2_has_12 (by decide) ?_
      refine x_goto 17 dX2_has_13 (by decide) ?_
      exact x_zret dX2_has_17 rfl (by decide) (by cases hf; exact hR)
theorem c_X2_has {E : xE} {d : Nat} (hd : 1 ≤ d) (x1 : Int32) (m : xMem) (out : Int32 × xMem) (h : F_X2_has x1 m = some out) : xCi E mX2_has d [.ref (xB E + 1), .int x1] m out.1 out.2 :=
  x_enter (by decide +kernel) (Nat.le_of_ble_eq_true rfl) (pF_X2_has hd (Q := _) out ⟨rfl, rfl⟩ x1 m h)
-- X9_line
def F_X9_line (x1 : Int32) (x2 : Int32) (x3 : Int32) (m : xMem) : Option (Int32 × xMem) :=
  (F_X2_has (x1) m).bind fun q_1 => (
  if q_1.1 = 0 then (
    some ((0 : Int32), q_1.2))
  else (
    if x2 < (1 : Int32) then (
      some ((0 : Int32), q_1.2))
    else (
      if (9 : Int32) < x2 then (
        some ((0 : Int32), q_1.2))
      else (
        (F_X9_within (x3) ((999 : Int32)) q_1.2).bind fun q_2 => (
        if q_2.1 = 0 then (
          some ((0 : Int32), q_2.2))
        else (
          if xin x1 60 = true then (
          if xin x1 60 = true then (
          some ((1 : Int32), (xst (xst q_2.2.1 ag_facts_length x1.toNatClampNeg x2) ag_facts_worth x1.toNatClampNeg x3, q_2.2.2)))
          else none)
          else none))))))
set_option maxHeartbeats 4000000 in
set_option maxRecDepth 100000 in
theorem pF_X9_line {E : xE} {d : Nat} {Q : Option Value → xS → Prop} (hd : 2 ≤ d) (out : Int32 × xMem) (hR : Q (some (.int out.1)) (xf E out.2)) (x1 : Int32) (x2 : Int32) (x3 : Int32) (m : xMem) (hf : F_X9_line x1 x2 x3 m = some out) : xX E mX9_line d 0 0 0 0 Q 0 [(0, .ref (xB E + 0)), (1, .int (x1)), (2, .int (x2)), (3, .int (x3))] [] (xf E m) := by
  unfold F_X9_line at hf
  refine x_aload_n dX9_line_0 rfl ?_
  refine f_getR (b := 1) dX9_line_1 xcl_9 (by decide) fl_RX9_12 (by decide) sh_0 rfl ?_
  refine x_iload_n dX9_line_4 rfl ?_
  obtain ⟨q_1, hq_1, hf⟩ := Option.bind_eq_some_iff.mp hf
  refine f_cVi mX2_has [.int (x1)] [] dX9_line_5 cs_RX9_107 ⟨w_414, w_1⟩ (ci := 2) rfl (by decide) sh_1 rfl rfl (Nat.le_of_ble_eq_true rfl) (by omega) (c_X2_has (d := d - 1) (by omega) (x1) m q_1 hq_1) ?_
  refine x_if_eq 32 dX9_line_8 (by decide) (fun hc => ?_) (fun hc => ?_)
  · replace hf := x_ift hc hf
    refine x_iconst (v := 0) dX9_line_32 (by decide) ?_
    exact x_zret dX9_line_33 rfl (by decide) (by cases hf; exact hR)
  · replace hf := x_iff hc hf
    refine x_iload_n dX9_line_11 rfl ?_
    refine x_iconst (v := 1) dX9_line_12 (by decide) ?_
    refine x_icmp_lt 32 dX9_line_13 (by decide) (fun hc => ?_) (fun hc => ?_)
    · replace hf := x_ift hc hf
      refine x_iconst (v := 0) dX9_line_32 (by decide) ?_
      exact x_zret dX9_line_33 rfl (by decide) (by cases hf; exact hR)
    · replace hf := x_iff hc hf
      refine x_iload_n dX9_line_16 rfl ?_
      refine x_bipush (v := 9) dX9_line_17 (by decide) ?_
      refine x_icmp_gt 32 dX9_line_19 (by decide) (fun hc => ?_) (fun hc => ?_)
      · replace hf := x_ift hc hf
        refine x_iconst (v := 0) dX9_line_32 (by decide) ?_
        exact x_zret dX9_line_33 rfl (by decide) (by cases hf; exact hR)
      · replace hf := x_iff hc hf
        refine x_iload_n dX9_line_22 rfl ?_
        refine x_sipush (v := 999) dX9_line_23 (by decide) ?_
        obtain ⟨q_2, hq_2, hf⟩ := Option.bind_eq_some_iff.mp hf
        refine f_cSi mX9_within [.int (x3), .int ((999 : Int32))] [] dX9_line_26 cs_RX9_82 w_389 rfl rfl (Nat.le_of_ble_eq_true rfl) (by omega) (c_X9_within (d := d - 1) (by omega) (x3) ((999 : Int32)) q_1.2 q_2 hq_2) ?_
        refine x_if_ne 34 dX9_line_29 (by decide) (fun hc => ?_) (fun hc => ?_)
        · replace hf := x_iff hc hf
          refine x_aload_n dX9_line_34 rfl ?_
          refine f_getR (b := 1) dX9_line_35 xcl_9 (by decide) fl_RX9_12 (by decide) sh_0 rfl ?_
          refine f_getR (b := 6) dX9_line_38 xcl_2 (by decide) fl_RX9_110 (by decide) sh_1 rfl ?_
          refine x_iload_n dX9_line_41 rfl ?_
          refine x_iload_n dX9_line_42 rfl ?_
          have hg_3 := x_gd hf
          replace hf := hg_3.2
          refine f_iast dX9_line_43 (by decide) sh_6 hg_3.1 ?_
          refine x_aload_n dX9_line_44 rfl ?_
          refine f_getR (b := 1) dX9_line_45 xcl_9 (by decide) fl_RX9_12 (by decide) sh_0 rfl ?_
          refine f_getR (b := 7) dX9_line_48 xcl_2 (by decide) fl_RX9_113 (by decide) sh_1 rfl ?_
          refine x_iload_n dX9_line_51 rfl ?_
          refine x_iload_n dX9_line_52 rfl ?_
          have hg_4 := x_gd hf
          replace hf := hg_4.2
          refine f_iast dX9_line_53 (by decide) sh_7 hg_4.1 ?_
          refine x_iconst (v := 1) dX9_line_54 (by decide) ?_
          exact x_zret dX9_line_55 rfl (by decide) (by cases hf; exact hR)
        · replace hf := x_ift hc hf
          refine x_iconst (v := 0) dX9_line_32 (by decide) ?_
          exact x_zret dX9_line_33 rfl (by decide) (by cases hf; exact hR)
theorem c_X9_line {E : xE} {d : Nat} (hd : 2 ≤ d) (x1 : Int32) (x2 : Int32) (x3 : Int32) (m : xMem) (out : Int32 × xMem) (h : F_X9_line x1 x2 x3 m = some out) : xCi E mX9_line d [.ref (xB E + 0), .int x1, .int x2, .int x3] m out.1 out.2 :=
  x_enter (by decide +kernel) (Nat.le_of_ble_eq_true rfl) (pF_X9_line hd (Q := _) out ⟨rfl, rfl⟩ x1 x2 x3 m h)
-- X10_isFact
def F_X10_isFact (x1 : Int32) (m : xMem) : Option (Int32 × xMem) :=
  if x1 < 0 then (
    some ((0 : Int32), m))
  else (
    if (m.1 am fGuideBookModel_facts) ≤ x1 then (
      some ((0 : Int32), m))
    else (
      some ((1 : Int32), m)))
set_option maxHeartbeats 4000000 in
set_option maxRecDepth 100000 in
theorem pF_X10_isFact {E : xE} {d : Nat} {Q : Option Value → xS → Prop} (hd : 1 ≤ d) (out : Int32 × xMem) (hR : Q (some (.int out.1)) (xf E out.2)) (x1 : Int32) (m : xMem) (hf : F_X10_isFact x1 m = some out) : xX E mX10_isFact d 0 0 0 0 Q 0 [(0, .ref (xB E + 87)), (1, .int (x1))] [] (xf E m) := by
  unfold F_X10_isFact at hf
  refine x_iload_n dX10_isFact_0 rfl ?_
  refine x_if_lt 16 dX10_isFact_1 (by decide) (fun hc => ?_) (fun hc => ?_)
  · replace hf := x_ift hc hf
    refine x_iconst (v := 0) dX10_isFact_16 (by decide) ?_
    exact x_zret dX10_isFact_17 rfl (by decide) (by cases hf; exact hR)
  · replace hf := x_iff hc hf
    refine x_iload_n dX10_isFact_4 rfl ?_
    refine x_aload_n dX10_isFact_5 rfl ?_
    refine f_getI dX10_isFact_6 xcl_10 (by decide) fl_RX10_250 (by decide) sh_87 rfl ?_
    refine x_icmp_ge 16 dX10_isFact_9 (by decide) (fun hc => ?_) (fun hc => ?_)
    · replace hf := x_ift hc hf
      refine x_iconst (v := 0) dX10_isFact_16 (by decide) ?_
      exact x_zret dX10_isFact_17 rfl (by decide) (by cases hf; exact hR)
    · replace hf := x_iff hc hf
      refine x_iconst (v := 1) dX10_isFact_12 (by decide) ?_
      refine x_goto 17 dX10_isFact_13 (by decide) ?_
      exact x_zret dX10_isFact_17 rfl (by decide) (by cases hf; exact hR)
theorem c_X10_isFact {E : xE} {d : Nat} (hd : 1 ≤ d) (x1 : Int32) (m : xMem) (out : Int32 × xMem) (h : F_X10_isFact x1 m = some out) : xCi E mX10_isFact d [.ref (xB E + 87), .int x1] m out.1 out.2 :=
  x_enter (by decide +kernel) (Nat.le_of_ble_eq_true rfl) (pF_X10_isFact hd (Q := _) out ⟨rfl, rfl⟩ x1 m h)
-- X10_line_
def F_X10_line_ (x1 : Int32) (x2 : Int32) (x3 : Int32) (m : xMem) : Option (Int32 × xMem) :=
  (F_X10_isFact (x1) (xst m.1 am fGuideBookModel_thrown (0 : Int32), m.2)).bind fun q_1 => (
  if q_1.1 = 0 then (
    some ((0 : Int32), q_1.2))
  else (
    if x2 < (1 : Int32) then (
      some ((0 : Int32), q_1.2))
    else (
      if (9 : Int32) < x2 then (
        some ((0 : Int32), q_1.2))
      else (
        if x3 < 0 then (
          some ((0 : Int32), q_1.2))
        else (
          if x3 ≤ (999 : Int32) then (
            if xin x1 60 = true then (
            if xin x1 60 = true then (
            some ((1 : Int32), (xst (xst q_1.2.1 am_lengths x1.toNatClampNeg x2) am_worths x1.toNatClampNeg x3, q_1.2.2)))
            else none)
            else none)
          else (
            some ((0 : Int32), q_1.2)))))))
set_option maxHeartbeats 4000000 in
set_option maxRecDepth 100000 in
theorem pF_X10_line_ {E : xE} {d : Nat} {Q : Option Value → xS → Prop} (hd : 2 ≤ d) (out : Int32 × xMem) (hR : Q (some (.int out.1)) (xf E out.2)) (x1 : Int32) (x2 : Int32) (x3 : Int32) (m : xMem) (hf : F_X10_line_ x1 x2 x3 m = some out) : xX E mX10_line_ d 0 0 0 0 Q 0 [(0, .ref (xB E + 87)), (1, .int (x1)), (2, .int (x2)), (3, .int (x3))] [] (xf E m) := by
  unfold F_X10_line_ at hf
  refine x_aload_n dX10_line__0 rfl ?_
  refine x_iconst (v := 0) dX10_line__1 (by decide) ?_
  refine f_putI dX10_line__2 xcl_10 (by decide) fl_RX10_1 rfl rfl (by decide) sh_87 rfl ?_
  refine x_aload_n dX10_line__5 rfl ?_
  refine x_iload_n dX10_line__6 rfl ?_
  obtain ⟨q_1, hq_1, hf⟩ := Option.bind_eq_some_iff.mp hf
  refine f_cVi mX10_isFact [.int (x1)] [] dX10_line__7 cs_RX10_253 ⟨w_1187, w_71⟩ (ci := 10) rfl (by decide) sh_87 rfl rfl (Nat.le_of_ble_eq_true rfl) (by omega) (c_X10_isFact (d := d - 1) (by omega) (x1) (xst m.1 am fGuideBookModel_thrown (0 : Int32), m.2) q_1 hq_1) ?_
  refine x_if_eq 35 dX10_line__10 (by decide) (fun hc => ?_) (fun hc => ?_)
  · replace hf := x_ift hc hf
    refine x_iconst (v := 0) dX10_line__35 (by decide) ?_
    exact x_zret dX10_line__36 rfl (by decide) (by cases hf; exact hR)
  · replace hf := x_iff hc hf
    refine x_iload_n dX10_line__13 rfl ?_
    refine x_iconst (v := 1) dX10_line__14 (by decide) ?_
    refine x_icmp_lt 35 dX10_line__15 (by decide) (fun hc => ?_) (fun hc => ?_)
    · replace hf := x_ift hc hf
      refine x_iconst (v := 0) dX10_line__35 (by decide) ?_
      exact x_zret dX10_line__36 rfl (by decide) (by cases hf; exact hR)
    · replace hf := x_iff hc hf
      refine x_iload_n dX10_line__18 rfl ?_
      refine x_bipush (v := 9) dX10_line__19 (by decide) ?_
      refine x_icmp_gt 35 dX10_line__21 (by decide) (fun hc => ?_) (fun hc => ?_)
      · replace hf := x_ift hc hf
        refine x_iconst (v := 0) dX10_line__35 (by decide) ?_
        exact x_zret dX10_line__36 rfl (by decide) (by cases hf; exact hR)
      · replace hf := x_iff hc hf
        refine x_iload_n dX10_line__24 rfl ?_
        refine x_if_lt 35 dX10_line__25 (by decide) (fun hc => ?_) (fun hc => ?_)
        · replace hf := x_ift hc hf
          refine x_iconst (v := 0) dX10_line__35 (by decide) ?_
          exact x_zret dX10_line__36 rfl (by decide) (by cases hf; exact hR)
        · replace hf := x_iff hc hf
          refine x_iload_n dX10_line__28 rfl ?_
          refine x_sipush (v := 999) dX10_line__29 (by decide) ?_
          refine x_icmp_le 37 dX10_line__32 (by decide) (fun hc => ?_) (fun hc => ?_)
          · replace hf := x_ift hc hf
            refine x_aload_n dX10_line__37 rfl ?_
            refine f_getR (b := 107) dX10_line__38 xcl_10 (by decide) fl_RX10_97 (by decide) sh_87 rfl ?_
            refine x_iload_n dX10_line__41 rfl ?_
            refine x_iload_n dX10_line__42 rfl ?_
            have hg_2 := x_gd hf
            replace hf := hg_2.2
            refine f_iast dX10_line__43 (by decide) sh_107 hg_2.1 ?_
            refine x_aload_n dX10_line__44 rfl ?_
            refine f_getR (b := 108) dX10_line__45 xcl_10 (by decide) fl_RX10_100 (by decide) sh_87 rfl ?_
            refine x_iload_n dX10_line__48 rfl ?_
            refine x_iload_n dX10_line__49 rfl ?_
            have hg_3 := x_gd hf
            replace hf := hg_3.2
            refine f_iast dX10_line__50 (by decide) sh_108 hg_3.1 ?_
            refine x_iconst (v := 1) dX10_line__51 (by decide) ?_
            exact x_zret dX10_line__52 rfl (by decide) (by cases hf; exact hR)
          · replace hf := x_iff hc hf
            refine x_iconst (v := 0) dX10_line__35 (by decide) ?_
            exact x_zret dX10_line__36 rfl (by decide) (by cases hf; exact hR)
theorem c_X10_line_ {E : xE} {d : Nat} (hd : 2 ≤ d) (x1 : Int32) (x2 : Int32) (x3 : Int32) (m : xMem) (out : Int32 × xMem) (h : F_X10_line_ x1 x2 x3 m = some out) : xCi E mX10_line_ d [.ref (xB E + 87), .int x1, .int x2, .int x3] m out.1 out.2 :=
  x_enter (by decide +kernel) (Nat.le_of_ble_eq_true rfl) (pF_X10_line_ hd (Q := _) out ⟨rfl, rfl⟩ x1 x2 x3 m h)
-- X3_isOpenOn
def F_X3_isOpenOn (x1 : Int32) (x2 : Int32) (m : xMem) : Option (Int32 × xMem) :=
  if xin x1 100 = true then (
  if (m.1 ag_letters_about x1.toNatClampNeg) = x2 then (
    if xin x1 100 = true then (
    if (m.1 ag_letters_state x1.toNatClampNeg) = 0 then (
      some ((1 : Int32), m))
    else (
      some ((0 : Int32), m)))
    else none)
  else (
    some ((0 : Int32), m)))
  else none
set_option maxHeartbeats 4000000 in
set_option maxRecDepth 100000 in
theorem pF_X3_isOpenOn {E : xE} {d : Nat} {Q : Option Value → xS → Prop} (hd : 1 ≤ d) (out : Int32 × xMem) (hR : Q (some (.int out.1)) (xf E out.2)) (x1 : Int32) (x2 : Int32) (m : xMem) (hf : F_X3_isOpenOn x1 x2 m = some out) : xX E mX3_isOpenOn d 0 0 0 0 Q 0 [(0, .ref (xB E + 10)), (1, .int (x1)), (2, .int (x2))] [] (xf E m) := by
  unfold F_X3_isOpenOn at hf
  refine x_aload_n dX3_isOpenOn_0 rfl ?_
  refine f_getR (b := 12) dX3_isOpenOn_1 xcl_3 (by decide) fl_RX3_15 (by decide) sh_10 rfl ?_
  refine x_iload_n dX3_isOpenOn_4 rfl ?_
  have hg_1 := x_gd hf
  replace hf := hg_1.2
  refine f_iald dX3_isOpenOn_5 (by decide) sh_12 hg_1.1 ?_
  refine x_iload_n dX3_isOpenOn_6 rfl ?_
  refine x_icmp_ne 23 dX3_isOpenOn_7 (by decide) (fun hc => ?_) (fun hc => ?_)
  · replace hf := x_iff hc hf
    refine x_iconst (v := 0) dX3_isOpenOn_23 (by decide) ?_
    exact x_zret dX3_isOpenOn_24 rfl (by decide) (by cases hf; exact hR)
  · replace hf := x_ift hc hf
    refine x_aload_n dX3_isOpenOn_10 rfl ?_
    refine f_getR (b := 14) dX3_isOpenOn_11 xcl_3 (by decide) fl_RX3_21 (by decide) sh_10 rfl ?_
    refine x_iload_n dX3_isOpenOn_14 rfl ?_
    have hg_2 := x_gd hf
    replace hf := hg_2.2
    refine f_iald dX3_isOpenOn_15 (by decide) sh_14 hg_2.1 ?_
    refine x_if_ne 23 dX3_isOpenOn_16 (by decide) (fun hc => ?_) (fun hc => ?_)
    · replace hf := x_iff hc hf
      refine x_iconst (v := 0) dX3_isOpenOn_23 (by decide) ?_
      exact x_zret dX3_isOpenOn_24 rfl (by decide) (by cases hf; exact hR)
    · replace hf := x_ift hc hf
      refine x_iconst (v := 1) dX3_isOpenOn_19 (by decide) ?_
      refine x_goto 24 dX3_isOpenOn_20 (by decide) ?_
      exact x_zret dX3_isOpenOn_24 rfl (by decide) (by cases hf; exact hR)
theorem c_X3_isOpenOn {E : xE} {d : Nat} (hd : 1 ≤ d) (x1 : Int32) (x2 : Int32) (m : xMem) (out : Int32 × xMem) (h : F_X3_isOpenOn x1 x2 m = some out) : xCi E mX3_isOpenOn d [.ref (xB E + 10), .int x1, .int x2] m out.1 out.2 :=
  x_enter (by decide +kernel) (Nat.le_of_ble_eq_true rfl) (pF_X3_isOpenOn hd (Q := _) out ⟨rfl, rfl⟩ x1 x2 m h)
-- X3_close
def F_X3_close (x1 : Int32) (x2 : Int32) (m : xMem) : Option (Int32 × xMem) :=
  if x2 = 0 then (
    if xin x1 100 = true then (
    if xin (m.1 ag_letters_reader x1.toNatClampNeg) 20 = true then (
    if xin (m.1 ag_letters_reader x1.toNatClampNeg) 20 = true then (
    if x2 = 0 then (
      if xin x1 100 = true then (
      some (0, (xst (xst (xst m.1 ag_letters_wrongOf (m.1 ag_letters_reader x1.toNatClampNeg).toNatClampNeg ((m.1 ag_letters_wrongOf (m.1 ag_letters_reader x1.toNatClampNeg).toNatClampNeg) + (1 : Int32))) ag_letters_state x1.toNatClampNeg (2 : Int32)) ag_letters fLetters_open (((xst (xst m.1 ag_letters_wrongOf (m.1 ag_letters_reader x1.toNatClampNeg).toNatClampNeg ((m.1 ag_letters_wrongOf (m.1 ag_letters_reader x1.toNatClampNeg).toNatClampNeg) + (1 : Int32))) ag_letters_state x1.toNatClampNeg (2 : Int32)) ag_letters fLetters_open) - (1 : Int32)), m.2)))
      else none)
    else (
      if xin x1 100 = true then (
      some (0, (xst (xst (xst m.1 ag_letters_wrongOf (m.1 ag_letters_reader x1.toNatClampNeg).toNatClampNeg ((m.1 ag_letters_wrongOf (m.1 ag_letters_reader x1.toNatClampNeg).toNatClampNeg) + (1 : Int32))) ag_letters_state x1.toNatClampNeg (1 : Int32)) ag_letters fLetters_open (((xst (xst m.1 ag_letters_wrongOf (m.1 ag_letters_reader x1.toNatClampNeg).toNatClampNeg ((m.1 ag_letters_wrongOf (m.1 ag_letters_reader x1.toNatClampNeg).toNatClampNeg) + (1 : Int32))) ag_letters_state x1.toNatClampNeg (1 : Int32)) ag_letters fLetters_open) - (1 : Int32)), m.2)))
      else none))
    else none)
    else none)
    else none)
  else (
    if xin x1 100 = true then (
    if xin (m.1 ag_letters_reader x1.toNatClampNeg) 20 = true then (
    if xin (m.1 ag_letters_reader x1.toNatClampNeg) 20 = true then (
    if x2 = 0 then (
      if xin x1 100 = true then (
      some (0, (xst (xst (xst m.1 ag_letters_rightOf (m.1 ag_letters_reader x1.toNatClampNeg).toNatClampNeg ((m.1 ag_letters_rightOf (m.1 ag_letters_reader x1.toNatClampNeg).toNatClampNeg) + (1 : Int32))) ag_letters_state x1.toNatClampNeg (2 : Int32)) ag_letters fLetters_open (((xst (xst m.1 ag_letters_rightOf (m.1 ag_letters_reader x1.toNatClampNeg).toNatClampNeg ((m.1 ag_letters_rightOf (m.1 ag_letters_reader x1.toNatClampNeg).toNatClampNeg) + (1 : Int32))) ag_letters_state x1.toNatClampNeg (2 : Int32)) ag_letters fLetters_open) - (1 : Int32)), m.2)))
      else none)
    else (
      if xin x1 100 = true then (
      some (0, (xst (xst (xst m.1 ag_letters_rightOf (m.1 ag_letters_reader x1.toNatClampNeg).toNatClampNeg ((m.1 ag_letters_rightOf (m.1 ag_letters_reader x1.toNatClampNeg).toNatClampNeg) + (1 : Int32))) ag_letters_state x1.toNatClampNeg (1 : Int32)) ag_letters fLetters_open (((xst (xst m.1 ag_letters_rightOf (m.1 ag_letters_reader x1.toNatClampNeg).toNatClampNeg ((m.1 ag_letters_rightOf (m.1 ag_letters_reader x1.toNatClampNeg).toNatClampNeg) + (1 : Int32))) ag_letters_state x1.toNatClampNeg (1 : Int32)) ag_letters fLetters_open) - (1 : Int32)), m.2)))
      else none))
    else none)
    else none)
    else none)
set_option maxHeartbeats 4000000 in
set_option maxRecDepth 100000 in
theorem pF_X3_close {E : xE} {d : Nat} {Q : Option Value → xS → Prop} (hd : 1 ≤ d) (out : Int32 × xMem) (hR : Q none (xf E out.2)) (x1 : Int32) (x2 : Int32) (m : xMem) (hf : F_X3_close x1 x2 m = some out) : xX E mX3_close d 0 0 0 0 Q 0 [(0, .ref (xB E + 10)), (1, .int (x1)), (2, .int (x2))] [] (xf E m) := by
  unfold F_X3_close at hf
  refine x_iload_n dX3_close_0 rfl ?_
  refine x_if_eq 11 dX3_close_1 (by decide) (fun hc => ?_) (fun hc => ?_)
  · replace hf := x_ift hc hf
    refine x_aload_n dX3_close_11 rfl ?_
    refine f_getR (b := 16) dX3_close_12 xcl_3 (by decide) fl_RX3_27 (by decide) sh_10 rfl ?_
    refine x_astore_n (lv' := [(0, .ref (xB E + 10)), (1, .int (x1)), (2, .int (x2)), (3, .ref (xB E + 16))]) dX3_close_15 [1, 2, 3, 0] (by decide) rfl ?_
    refine x_aload_n dX3_close_16 rfl ?_
    refine x_aload_n dX3_close_17 rfl ?_
    refine f_getR (b := 11) dX3_close_18 xcl_3 (by decide) fl_RX3_9 (by decide) sh_10 rfl ?_
    refine x_iload_n dX3_close_21 rfl ?_
    have hg_1 := x_gd hf
    replace hf := hg_1.2
    refine f_iald dX3_close_22 (by decide) sh_11 hg_1.1 ?_
    refine x_dup2 dX3_close_23 rfl rfl ?_
    have hg_2 := x_gd hf
    replace hf := hg_2.2
    refine f_iald dX3_close_24 (by decide) sh_16 hg_2.1 ?_
    refine x_iconst (v := 1) dX3_close_25 (by decide) ?_
    refine x_iadd dX3_close_26 ?_
    have hg_3 := x_gd hf
    replace hf := hg_3.2
    refine f_iast dX3_close_27 (by decide) sh_16 hg_3.1 ?_
    refine x_aload_n dX3_close_28 rfl ?_
    refine f_getR (b := 14) dX3_close_29 xcl_3 (by decide) fl_RX3_21 (by decide) sh_10 rfl ?_
    refine x_iload_n dX3_close_32 rfl ?_
    refine x_iload_n dX3_close_33 rfl ?_
    refine x_if_eq 41 dX3_close_34 (by decide) (fun hc => ?_) (fun hc => ?_)
    · replace hf := x_ift hc hf
      refine x_iconst (v := 2) dX3_close_41 (by decide) ?_
      have hg_4 := x_gd hf
      replace hf := hg_4.2
      refine f_iast dX3_close_42 (by decide) sh_14 hg_4.1 ?_
      refine x_aload_n dX3_close_43 rfl ?_
      refine x_dup dX3_close_44 rfl ?_
      refine f_getI dX3_close_45 xcl_3 (by decide) fl_RX3_34 (by decide) sh_10 rfl ?_
      refine x_iconst (v := 1) dX3_close_48 (by decide) ?_
      refine x_isub dX3_close_49 ?_
      refine f_putI dX3_close_50 xcl_3 (by decide) fl_RX3_34 rfl rfl (by decide) sh_10 rfl ?_
      exact x_vret dX3_close_53 rfl (by cases hf; exact hR)
    · replace hf := x_iff hc hf
      refine x_iconst (v := 1) dX3_close_37 (by decide) ?_
      refine x_goto 42 dX3_close_38 (by decide) ?_
      have hg_5 := x_gd hf
      replace hf := hg_5.2
      refine f_iast dX3_close_42 (by decide) sh_14 hg_5.1 ?_
      refine x_aload_n dX3_close_43 rfl ?_
      refine x_dup dX3_close_44 rfl ?_
      refine f_getI dX3_close_45 xcl_3 (by decide) fl_RX3_34 (by decide) sh_10 rfl ?_
      refine x_iconst (v := 1) dX3_close_48 (by decide) ?_
      refine x_isub dX3_close_49 ?_
      refine f_putI dX3_close_50 xcl_3 (by decide) fl_RX3_34 rfl rfl (by decide) sh_10 rfl ?_
      exact x_vret dX3_close_53 rfl (by cases hf; exact hR)
  · replace hf := x_iff hc hf
    refine x_aload_n dX3_close_4 rfl ?_
    refine f_getR (b := 15) dX3_close_5 xcl_3 (by decide) fl_RX3_24 (by decide) sh_10 rfl ?_
    refine x_goto 15 dX3_close_8 (by decide) ?_
    refine x_astore_n (lv' := [(0, .ref (xB E + 10)), (1, .int (x1)), (2, .int (x2)), (3, .ref (xB E + 15))]) dX3_close_15 [1, 2, 3, 0] (by decide) rfl ?_
    refine x_aload_n dX3_close_16 rfl ?_
    refine x_aload_n dX3_close_17 rfl ?_
    refine f_getR (b := 11) dX3_close_18 xcl_3 (by decide) fl_RX3_9 (by decide) sh_10 rfl ?_
    refine x_iload_n dX3_close_21 rfl ?_
    have hg_6 := x_gd hf
    replace hf := hg_6.2
    refine f_iald dX3_close_22 (by decide) sh_11 hg_6.1 ?_
    refine x_dup2 dX3_close_23 rfl rfl ?_
    have hg_7 := x_gd hf
    replace hf := hg_7.2
    refine f_iald dX3_close_24 (by decide) sh_15 hg_7.1 ?_
    refine x_iconst (v := 1) dX3_close_25 (by decide) ?_
    refine x_iadd dX3_close_26 ?_
    have hg_8 := x_gd hf
    replace hf := hg_8.2
    refine f_iast dX3_close_27 (by decide) sh_15 hg_8.1 ?_
    refine x_aload_n dX3_close_28 rfl ?_
    refine f_getR (b := 14) dX3_close_29 xcl_3 (by decide) fl_RX3_21 (by decide) sh_10 rfl ?_
    refine x_iload_n dX3_close_32 rfl ?_
    refine x_iload_n dX3_close_33 rfl ?_
    refine x_if_eq 41 dX3_close_34 (by decide) (fun hc => ?_) (fun hc => ?_)
    · replace hf := x_ift hc hf
      refine x_iconst (v := 2) dX3_close_41 (by decide) ?_
      have hg_9 := x_gd hf
      replace hf := hg_9.2
      refine f_iast dX3_close_42 (by decide) sh_14 hg_9.1 ?_
      refine x_aload_n dX3_close_43 rfl ?_
      refine x_dup dX3_close_44 rfl ?_
      refine f_getI dX3_close_45 xcl_3 (by decide) fl_RX3_34 (by decide) sh_10 rfl ?_
      refine x_iconst (v := 1) dX3_close_48 (by decide) ?_
      refine x_isub dX3_close_49 ?_
      refine f_putI dX3_close_50 xcl_3 (by decide) fl_RX3_34 rfl rfl (by decide) sh_10 rfl ?_
      exact x_vret dX3_close_53 rfl (by cases hf; exact hR)
    · replace hf := x_iff hc hf
      refine x_iconst (v := 1) dX3_close_37 (by decide) ?_
      refine x_goto 42 dX3_close_38 (by decide) ?_
      have hg_10 := x_gd hf
      replace hf := hg_10.2
      refine f_iast dX3_close_42 (by decide) sh_14 hg_10.1 ?_
      refine x_aload_n dX3_close_43 rfl ?_
      refine x_dup dX3_close_44 rfl ?_
      refine f_getI dX3_close_45 xcl_3 (by decide) fl_RX3_34 (by decide) sh_10 rfl ?_
      refine x_iconst (v := 1) dX3_close_48 (by decide) ?_
      refine x_isub dX3_close_49 ?_
      refine f_putI dX3_close_50 xcl_3 (by decide) fl_RX3_34 rfl rfl (by decide) sh_10 rfl ?_
      exact x_vret dX3_close_53 rfl (by cases hf; exact hR)
theorem c_X3_close {E : xE} {d : Nat} (hd : 1 ≤ d) (x1 : Int32) (x2 : Int32) (m : xMem) (out : Int32 × xMem) (h : F_X3_close x1 x2 m = some out) : xCv E mX3_close d [.ref (xB E + 10), .int x1, .int x2] m out.2 :=
  x_enter (by decide +kernel) (Nat.le_of_ble_eq_true rfl) (pF_X3_close hd (Q := _) out ⟨rfl, rfl⟩ x1 x2 m h)
-- X3_settle
def J_X3_settle_39 (rec : Int32 → xMem → Option (Int32 × xMem)) (x1 : Int32) (x2 : Int32) (x3 : Int32) (m : xMem) : Option (Int32 × xMem) :=
  rec (x3 + 1) m
def L_X3_settle_2 (x1 : Int32) (x2 : Int32) : Nat → Int32 → xMem → Option (Int32 × xMem)
  | 0, _, _ => none
  | fk + 1, x3, m =>
    if (m.1 ag_letters fLetters_size) ≤ x3 then (
      some (0, m))
    else (
      (F_X3_isOpenOn (x3) (x1) m).bind fun q_1 => (
      if q_1.1 = 0 then (
        J_X3_settle_39 (fun y_5 m_6 => L_X3_settle_2 x1 x2 fk y_5 m_6) (x1) (x2) (x3) q_1.2)
      else (
        if xin x3 100 = true then (
        if (q_1.2.1 ag_letters_said x3.toNatClampNeg) = x2 then (
          (F_X3_close (x3) ((1 : Int32)) q_1.2).bind fun q_4 => (
          J_X3_settle_39 (fun y_7 m_8 => L_X3_settle_2 x1 x2 fk y_7 m_8) (x1) (x2) (x3) q_4.2))
        else (
          (F_X3_close (x3) ((0 : Int32)) q_1.2).bind fun q_3 => (
          J_X3_settle_39 (fun y_9 m_10 => L_X3_settle_2 x1 x2 fk y_9 m_10) (x1) (x2) (x3) q_3.2)))
        else none)))
def F_X3_settle (x1 : Int32) (x2 : Int32) (m : xMem) : Option (Int32 × xMem) :=
  L_X3_settle_2 (x1) (x2) xfuel ((0 : Int32)) m
set_option maxHeartbeats 4000000 in
set_option maxRecDepth 100000 in
theorem pJ_X3_settle_39 {E : xE} {d : Nat} {Q : Option Value → xS → Prop} (hd : 2 ≤ d) (out : Int32 × xMem) (hR : Q none (xf E out.2)) (rec : Int32 → xMem → Option (Int32 × xMem)) (x1 : Int32) (x2 : Int32) (x3 : Int32) (hrec : ∀ (x3 : Int32) (m : xMem), rec x3 m = some out → xX E mX3_settle d 0 0 0 0 Q 2 [(0, .ref (xB E + 10)), (1, .int (x1)), (2, .int (x2)), (3, .int (x3))] [] (xf E m)) (m : xMem) (hf : J_X3_settle_39 rec x1 x2 x3 m = some out) : xX E mX3_settle d 0 0 0 0 Q 39 [(0, .ref (xB E + 10)), (1, .int (x1)), (2, .int (x2)), (3, .int (x3))] [] (xf E m) := by
  unfold J_X3_settle_39 at hf
  refine x_iinc (v := x3 + 1) (lv' := [(0, .ref (xB E + 10)), (1, .int (x1)), (2, .int (x2)), (3, .int (x3 + 1))]) dX3_settle_39 3 [1, 2, 3, 0] rfl rfl (by decide) rfl ?_
  refine x_goto 2 dX3_settle_42 (by decide) ?_
  exact hrec _ _ hf
set_option maxHeartbeats 4000000 in
set_option maxRecDepth 100000 in
theorem pL_X3_settle_2 {E : xE} {d : Nat} {Q : Option Value → xS → Prop} (hd : 2 ≤ d) (out : Int32 × xMem) (hR : Q none (xf E out.2)) (x1 : Int32) (x2 : Int32) : ∀ (fk : Nat) (x3 : Int32) (m : xMem), L_X3_settle_2 x1 x2 fk x3 m = some out → xX E mX3_settle d 0 0 0 0 Q 2 [(0, .ref (xB E + 10)), (1, .int (x1)), (2, .int (x2)), (3, .int (x3))] [] (xf E m) := by
  intro fk
  induction fk with
  | zero => intro x3 m hf; cases hf
  | succ fk ih =>
    intro x3 m hf
    rw [L_X3_settle_2] at hf
    refine x_iload_n dX3_settle_2 rfl ?_
    refine x_aload_n dX3_settle_3 rfl ?_
    refine f_getI dX3_settle_4 xcl_3 (by decide) fl_RX3_30 (by decide) sh_10 rfl ?_
    refine x_icmp_ge 45 dX3_settle_7 (by decide) (fun hc => ?_) (fun hc => ?_)
    · replace hf := x_ift hc hf
      exact x_vret dX3_settle_45 rfl (by cases hf; exact hR)
    · replace hf := x_iff hc hf
      refine x_aload_n dX3_settle_10 rfl ?_
      refine x_iload_n dX3_settle_11 rfl ?_
      refine x_iload_n dX3_settle_12 rfl ?_
      obtain ⟨q_1, hq_1, hf⟩ := Option.bind_eq_some_iff.mp hf
      refine f_cVi mX3_isOpenOn [.int (x3), .int (x1)] [] dX3_settle_13 cs_RX3_37 ⟨w_426, w_3⟩ (ci := 3) rfl (by decide) sh_10 rfl rfl (Nat.le_of_ble_eq_true rfl) (by omega) (c_X3_isOpenOn (d := d - 1) (by omega) (x3) (x1) m q_1 hq_1) ?_
      refine x_if_eq 39 dX3_settle_16 (by decide) (fun hc => ?_) (fun hc => ?_)
      · replace hf := x_ift hc hf
        exact pJ_X3_settle_39 hd out hR _ _ _ _ (fun y0 m9 h9 => ih y0 m9 h9) _ hf
      · replace hf := x_iff hc hf
        refine x_aload_n dX3_settle_19 rfl ?_
        refine x_iload_n dX3_settle_20 rfl ?_
        refine x_aload_n dX3_settle_21 rfl ?_
        refine f_getR (b := 13) dX3_settle_22 xcl_3 (by decide) fl_RX3_18 (by decide) sh_10 rfl ?_
        refine x_iload_n dX3_settle_25 rfl ?_
        have hg_2 := x_gd hf
        replace hf := hg_2.2
        refine f_iald dX3_settle_26 (by decide) sh_13 hg_2.1 ?_
        refine x_iload_n dX3_settle_27 rfl ?_
        refine x_icmp_ne 35 dX3_settle_28 (by decide) (fun hc => ?_) (fun hc => ?_)
        · replace hf := x_iff hc hf
          refine x_iconst (v := 0) dX3_settle_35 (by decide) ?_
          obtain ⟨q_3, hq_3, hf⟩ := Option.bind_eq_some_iff.mp hf
          refine f_cVv mX3_close [.int (x3), .int ((0 : Int32))] [] dX3_settle_36 cs_RX3_41 ⟨w_430, w_4⟩ (ci := 3) rfl (by decide) sh_10 rfl rfl (Nat.le_of_ble_eq_true rfl) (by omega) (c_X3_close (d := d - 1) (by omega) (x3) ((0 : Int32)) q_1.2 q_3 hq_3) ?_
          exact pJ_X3_settle_39 hd out hR _ _ _ _ (fun y0 m9 h9 => ih y0 m9 h9) _ hf
        · replace hf := x_ift hc hf
          refine x_iconst (v := 1) dX3_settle_31 (by decide) ?_
          refine x_goto 36 dX3_settle_32 (by decide) ?_
          obtain ⟨q_4, hq_4, hf⟩ := Option.bind_eq_some_iff.mp hf
          refine f_cVv mX3_close [.int (x3), .int ((1 : Int32))] [] dX3_settle_36 cs_RX3_41 ⟨w_430, w_4⟩ (ci := 3) rfl (by decide) sh_10 rfl rfl (Nat.le_of_ble_eq_true rfl) (by omega) (c_X3_close (d := d - 1) (by omega) (x3) ((1 : Int32)) q_1.2 q_4 hq_4) ?_
          exact pJ_X3_settle_39 hd out hR _ _ _ _ (fun y0 m9 h9 => ih y0 m9 h9) _ hf
set_option maxHeartbeats 4000000 in
set_option maxRecDepth 100000 in
theorem pF_X3_settle {E : xE} {d : Nat} {Q : Option Value → xS → Prop} (hd : 2 ≤ d) (out : Int32 × xMem) (hR : Q none (xf E out.2)) (x1 : Int32) (x2 : Int32) (m : xMem) (hf : F_X3_settle x1 x2 m = some out) : xX E mX3_settle d 0 0 0 0 Q 0 [(0, .ref (xB E + 10)), (1, .int (x1)), (2, .int (x2))] [] (xf E m) := by
  unfold F_X3_settle at hf
  refine x_iconst (v := 0) dX3_settle_0 (by decide) ?_
  refine x_istore_n (lv' := [(0, .ref (xB E + 10)), (1, .int (x1)), (2, .int (x2)), (3, .int ((0 : Int32)))]) dX3_settle_1 [1, 2, 3, 0] (by decide) rfl ?_
  refine pL_X3_settle_2 hd out hR _ _ xfuel _ _ hf
theorem c_X3_settle {E : xE} {d : Nat} (hd : 2 ≤ d) (x1 : Int32) (x2 : Int32) (m : xMem) (out : Int32 × xMem) (h : F_X3_settle x1 x2 m = some out) : xCv E mX3_settle d [.ref (xB E + 10), .int x1, .int x2] m out.2 :=
  x_enter (by decide +kernel) (Nat.le_of_ble_eq_true rfl) (pF_X3_settle hd (Q := _) out ⟨rfl, rfl⟩ x1 x2 m h)
-- X1_hasFact
def F_X1_hasFact (x1 : Int32) (x2 : Int32) (m : xMem) : Option (Int32 × xMem) :=
  if x2 < 0 then (
    some ((0 : Int32), m))
  else (
    if xin x1 10 = true then (
    if (m.1 ag_editions_facts x1.toNatClampNeg) ≤ x2 then (
      some ((0 : Int32), m))
    else (
      some ((1 : Int32), m)))
    else none)
set_option maxHeartbeats 4000000 in
set_option maxRecDepth 100000 in
theorem pF_X1_hasFact {E : xE} {d : Nat} {Q : Option Value → xS → Prop} (hd : 1 ≤ d) (out : Int32 × xMem) (hR : Q (some (.int out.1)) (xf E out.2)) (x1 : Int32) (x2 : Int32) (m : xMem) (hf : F_X1_hasFact x1 x2 m = some out) : xX E mX1_hasFact d 0 0 0 0 Q 0 [(0, .ref (xB E + 46)), (1, .int (x1)), (2, .int (x2))] [] (xf E m) := by
  unfold F_X1_hasFact at hf
  refine x_iload_n dX1_hasFact_0 rfl ?_
  refine x_if_lt 18 dX1_hasFact_1 (by decide) (fun hc => ?_) (fun hc => ?_)
  · replace hf := x_ift hc hf
    refine x_iconst (v := 0) dX1_hasFact_18 (by decide) ?_
    exact x_zret dX1_hasFact_19 rfl (by decide) (by cases hf; exact hR)
  · replace hf := x_iff hc hf
    refine x_iload_n dX1_hasFact_4 rfl ?_
    refine x_aload_n dX1_hasFact_5 rfl ?_
    refine f_getR (b := 80) dX1_hasFact_6 xcl_1 (by decide) fl_RX1_22 (by decide) sh_46 rfl ?_
    refine x_iload_n dX1_hasFact_9 rfl ?_
    have hg_1 := x_gd hf
    replace hf := hg_1.2
    refine f_iald dX1_hasFact_10 (by decide) sh_80 hg_1.1 ?_
    refine x_icmp_ge 18 dX1_hasFact_11 (by decide) (fun hc => ?_) (fun hc => ?_)
    · replace hf := x_ift hc hf
      refine x_iconst (v := 0) dX1_hasFact_18 (by decide) ?_
      exact x_zret dX1_hasFact_19 rfl (by decide) (by cases hf; exact hR)
    · replace hf := x_iff hc hf
      refine x_iconst (v := 1) dX1_hasFact_14 (by decide) ?_
      refine x_goto 19 dX1_hasFact_15 (by decide) ?_
      exact x_zret dX1_hasFact_19 rfl (by decide) (by cases hf; exact hR)
theorem c_X1_hasFact {E : xE} {d : Nat} (hd : 1 ≤ d) (x1 : Int32) (x2 : Int32) (m : xMem) (out : Int32 × xMem) (h : F_X1_hasFact x1 x2 m = some out) : xCi E mX1_hasFact d [.ref (xB E + 46), .int x1, .int x2] m out.1 out.2 :=
  x_enter (by decide +kernel) (Nat.le_of_ble_eq_true rfl) (pF_X1_hasFact hd (Q := _) out ⟨rfl, rfl⟩ x1 x2 m h)
-- X1_settle
def J_X1_settle_67 (rec : Int32 → xMem → Option (Int32 × xMem)) (x1 : Int32) (x2 : Int32) (x3 : Int32) (m : xMem) : Option (Int32 × xMem) :=
  rec (x3 + 1) m
def J_X1_settle_47 (rec : Int32 → xMem → Option (Int32 × xMem)) (x1 : Int32) (x2 : Int32) (x3 : Int32) (s0 : Int32) (m : xMem) : Option (Int32 × xMem) :=
  if xin x3 10 = true then (
  if s0 = 0 then (
    if xin x1 60 = true then (
    J_X1_settle_67 rec (x1) (x2) (x3) (xst m.1 (59 + (x3).toNatClampNeg) x1.toNatClampNeg (2 : Int32), m.2))
    else none)
  else (
    if xin x1 60 = true then (
    J_X1_settle_67 rec (x1) (x2) (x3) (xst m.1 (59 + (x3).toNatClampNeg) x1.toNatClampNeg (1 : Int32), m.2))
    else none))
  else none
def L_X1_settle_2 (x1 : Int32) (x2 : Int32) : Nat → Int32 → xMem → Option (Int32 × xMem)
  | 0, _, _ => none
  | fk + 1, x3, m =>
    if (m.1 ag_editions fEditions_size) ≤ x3 then (
      some (0, m))
    else (
      (F_X1_hasFact (x3) (x1) m).bind fun q_1 => (
      if q_1.1 = 0 then (
        J_X1_settle_67 (fun y_13 m_14 => L_X1_settle_2 x1 x2 fk y_13 m_14) (x1) (x2) (x3) q_1.2)
      else (
        if xin x3 10 = true then (
        if xin x1 60 = true then (
        if (q_1.2.1 (59 + (x3).toNatClampNeg) x1.toNatClampNeg) = 0 then (
          if xin x3 10 = true then (
          if xin x1 60 = true then (
          if (q_1.2.1 (48 + (x3).toNatClampNeg) x1.toNatClampNeg) = x2 then (
            J_X1_settle_47 (fun y_15 m_16 => L_X1_settle_2 x1 x2 fk y_15 m_16) (x1) (x2) (x3) ((1 : Int32)) q_1.2)
          else (
            J_X1_settle_47 (fun y_17 m_18 => L_X1_settle_2 x1 x2 fk y_17 m_18) (x1) (x2) (x3) ((0 : Int32)) q_1.2))
          else none)
          else none)
        else (
          J_X1_settle_67 (fun y_19 m_20 => L_X1_settle_2 x1 x2 fk y_19 m_20) (x1) (x2) (x3) q_1.2))
        else none)
        else none)))
def F_X1_settle (x1 : Int32) (x2 : Int32) (m : xMem) : Option (Int32 × xMem) :=
  L_X1_settle_2 (x1) (x2) xfuel ((0 : Int32)) m
set_option maxHeartbeats 4000000 in
set_option maxRecDepth 100000 in
theorem pJ_X1_settle_67 {E : xE} {d : Nat} {Q : Option Value → xS → Prop} (hd : 2 ≤ d) (out : Int32 × xMem) (hR : Q none (xf E out.2)) (rec : Int32 → xMem → Option (Int32 × xMem)) (x1 : Int32) (x2 : Int32) (x3 : Int32) (hrec : ∀ (x3 : Int32) (m : xMem), rec x3 m = some out → xX E mX1_settle d 0 0 0 0 Q 2 [(0, .ref (xB E + 46)), (1, .int (x1)), (2, .int (x2)), (3, .int (x3))] [] (xf E m)) (m : xMem) (hf : J_X1_settle_67 rec x1 x2 x3 m = some out) : xX E mX1_settle d 0 0 0 0 Q 67 [(0, .ref (xB E + 46)), (1, .int (x1)), (2, .int (x2)), (3, .int (x3))] [] (xf E m) := by
  unfold J_X1_settle_67 at hf
  refine x_iinc (v := x3 + 1) (lv' := [(0, .ref (xB E + 46)), (1, .int (x1)), (2, .int (x2)), (3, .int (x3 + 1))]) dX1_settle_67 3 [1, 2, 3, 0] rfl rfl (by decide) rfl ?_
  refine x_goto 2 dX1_settle_70 (by decide) ?_
  exact hrec _ _ hf
set_option maxHeartbeats 4000000 in
set_option maxRecDepth 100000 in
theorem pJ_X1_settle_47 {E : xE} {d : Nat} {Q : Option Value → xS → Prop} (hd : 2 ≤ d) (out : Int32 × xMem) (hR : Q none (xf E out.2)) (rec : Int32 → xMem → Option (Int32 × xMem)) (x1 : Int32) (x2 : Int32) (x3 : Int32) (s0 : Int32) (hrec : ∀ (x3 : Int32) (m : xMem), rec x3 m = some out → xX E mX1_settle d 0 0 0 0 Q 2 [(0, .ref (xB E + 46)), (1, .int (x1)), (2, .int (x2)), (3, .int (x3))] [] (xf E m)) (m : xMem) (hf : J_X1_settle_47 rec x1 x2 x3 s0 m = some out) : xX E mX1_settle d 0 0 0 0 Q 47 [(0, .ref (xB E + 46)), (1, .int (x1)), (2, .int (x2)), (3, .int (x3))] [.int (s0)] (xf E m) := by
  unfold J_X1_settle_47 at hf
  refine x_istore (lv' := [(0, .ref (xB E + 46)), (1, .int (x1)), (2, .int (x2)), (3, .int (x3)), (4, .int (s0))]) dX1_settle_47 [1, 2, 3, 4, 0] (by decide) rfl ?_
  refine x_aload_n dX1_settle_49 rfl ?_
  refine f_getR (b := 58) dX1_settle_50 xcl_1 (by decide) fl_RX1_16 (by decide) sh_46 rfl ?_
  refine x_iload_n dX1_settle_53 rfl ?_
  have hg_6 := x_gd hf
  replace hf := hg_6.2
  refine f_aald dX1_settle_54 (by decide) sh_58 hg_6.1 ?_
  refine x_iload_n dX1_settle_55 rfl ?_
  refine x_iload dX1_settle_56 rfl ?_
  refine x_if_eq 65 dX1_settle_58 (by decide) (fun hc => ?_) (fun hc => ?_)
  · replace hf := x_ift hc hf
    refine x_iconst (v := 2) dX1_settle_65 (by decide) ?_
    have hg_7 := x_gd hf
    replace hf := hg_7.2
    refine f_iast dX1_settle_66 (shn_58 _ (xin_lt hg_6.1)) (shr_58 _ (xin_lt hg_6.1)) hg_7.1 ?_
    refine x_lv (lv' := [(0, .ref (xB E + 46)), (1, .int (x1)), (2, .int (x2)), (3, .int (x3))]) [0, 1, 2, 3] rfl ?_
    exact pJ_X1_settle_67 hd out hR _ _ _ _ hrec _ hf
  · replace hf := x_iff hc hf
    refine x_iconst (v := 1) dX1_settle_61 (by decide) ?_
    refine x_goto 66 dX1_settle_62 (by decide) ?_
    have hg_8 := x_gd hf
    replace hf := hg_8.2
    refine f_iast dX1_settle_66 (shn_58 _ (xin_lt hg_6.1)) (shr_58 _ (xin_lt hg_6.1)) hg_8.1 ?_
    refine x_lv (lv' := [(0, .ref (xB E + 46)), (1, .int (x1)), (2, .int (x2)), (3, .int (x3))]) [0, 1, 2, 3] rfl ?_
    exact pJ_X1_settle_67 hd out hR _ _ _ _ hrec _ hf
set_option maxHeartbeats 4000000 in
set_option maxRecDepth 100000 in
theorem pL_X1_settle_2 {E : xE} {d : Nat} {Q : Option Value → xS → Prop} (hd : 2 ≤ d) (out : Int32 × xMem) (hR : Q none (xf E out.2)) (x1 : Int32) (x2 : Int32) : ∀ (fk : Nat) (x3 : Int32) (m : xMem), L_X1_settle_2 x1 x2 fk x3 m = some out → xX E mX1_settle d 0 0 0 0 Q 2 [(0, .ref (xB E + 46)), (1, .int (x1)), (2, .int (x2)), (3, .int (x3))] [] (xf E m) := by
  intro fk
  induction fk with
  | zero => intro x3 m hf; cases hf
  | succ fk ih =>
    intro x3 m hf
    rw [L_X1_settle_2] at hf
    refine x_iload_n dX1_settle_2 rfl ?_
    refine x_aload_n dX1_settle_3 rfl ?_
    refine f_getI dX1_settle_4 xcl_1 (by decide) fl_RX1_26 (by decide) sh_46 rfl ?_
    refine x_icmp_ge 73 dX1_settle_7 (by decide) (fun hc => ?_) (fun hc => ?_)
    · replace hf := x_ift hc hf
      exact x_vret dX1_settle_73 rfl (by cases hf; exact hR)
    · replace hf := x_iff hc hf
      refine x_aload_n dX1_settle_10 rfl ?_
      refine x_iload_n dX1_settle_11 rfl ?_
      refine x_iload_n dX1_settle_12 rfl ?_
      obtain ⟨q_1, hq_1, hf⟩ := Option.bind_eq_some_iff.mp hf
      refine f_cVi mX1_hasFact [.int (x3), .int (x1)] [] dX1_settle_13 cs_RX1_30 ⟨w_438, w_6⟩ (ci := 1) rfl (by decide) sh_46 rfl rfl (Nat.le_of_ble_eq_true rfl) (by omega) (c_X1_hasFact (d := d - 1) (by omega) (x3) (x1) m q_1 hq_1) ?_
      refine x_if_eq 67 dX1_settle_16 (by decide) (fun hc => ?_) (fun hc => ?_)
      · replace hf := x_ift hc hf
        exact pJ_X1_settle_67 hd out hR _ _ _ _ (fun y0 m9 h9 => ih y0 m9 h9) _ hf
      · replace hf := x_iff hc hf
        refine x_aload_n dX1_settle_19 rfl ?_
        refine f_getR (b := 58) dX1_settle_20 xcl_1 (by decide) fl_RX1_16 (by decide) sh_46 rfl ?_
        refine x_iload_n dX1_settle_23 rfl ?_
        have hg_2 := x_gd hf
        replace hf := hg_2.2
        refine f_aald dX1_settle_24 (by decide) sh_58 hg_2.1 ?_
        refine x_iload_n dX1_settle_25 rfl ?_
        have hg_3 := x_gd hf
        replace hf := hg_3.2
        refine f_iald dX1_settle_26 (shn_58 _ (xin_lt hg_2.1)) (shr_58 _ (xin_lt hg_2.1)) hg_3.1 ?_
        refine x_if_ne 67 dX1_settle_27 (by decide) (fun hc => ?_) (fun hc => ?_)
        · replace hf := x_iff hc hf
          exact pJ_X1_settle_67 hd out hR _ _ _ _ (fun y0 m9 h9 => ih y0 m9 h9) _ hf
        · replace hf := x_ift hc hf
          refine x_aload_n dX1_settle_30 rfl ?_
          refine f_getR (b := 47) dX1_settle_31 xcl_1 (by decide) fl_RX1_11 (by decide) sh_46 rfl ?_
          refine x_iload_n dX1_settle_34 rfl ?_
          have hg_4 := x_gd hf
          replace hf := hg_4.2
          refine f_aald dX1_settle_35 (by decide) sh_47 hg_4.1 ?_
          refine x_iload_n dX1_settle_36 rfl ?_
          have hg_5 := x_gd hf
          replace hf := hg_5.2
          refine f_iald dX1_settle_37 (shn_47 _ (xin_lt hg_4.1)) (shr_47 _ (xin_lt hg_4.1)) hg_5.1 ?_
          refine x_iload_n dX1_settle_38 rfl ?_
          refine x_icmp_ne 46 dX1_settle_39 (by decide) (fun hc => ?_) (fun hc => ?_)
          · replace hf := x_iff hc hf
            refine x_iconst (v := 0) dX1_settle_46 (by decide) ?_
            exact pJ_X1_settle_47 hd out hR _ _ _ _ _ (fun y0 m9 h9 => ih y0 m9 h9) _ hf
          · replace hf := x_ift hc hf
            refine x_iconst (v := 1) dX1_settle_42 (by decide) ?_
            refine x_goto 47 dX1_settle_43 (by decide) ?_
            exact pJ_X1_settle_47 hd out hR _ _ _ _ _ (fun y0 m9 h9 => ih y0 m9 h9) _ hf
set_option maxHeartbeats 4000000 in
set_option maxRecDepth 100000 in
theorem pF_X1_settle {E : xE} {d : Nat} {Q : Option Value → xS → Prop} (hd : 2 ≤ d) (out : Int32 × xMem) (hR : Q none (xf E out.2)) (x1 : Int32) (x2 : Int32) (m : xMem) (hf : F_X1_settle x1 x2 m = some out) : xX E mX1_settle d 0 0 0 0 Q 0 [(0, .ref (xB E + 46)), (1, .int (x1)), (2, .int (x2))] [] (xf E m) := by
  unfold F_X1_settle at hf
  refine x_iconst (v := 0) dX1_settle_0 (by decide) ?_
  refine x_istore_n (lv' := [(0, .ref (xB E + 46)), (1, .int (x1)), (2, .int (x2)), (3, .int ((0 : Int32)))]) dX1_settle_1 [1, 2, 3, 0] (by decide) rfl ?_
  refine pL_X1_settle_2 hd out hR _ _ xfuel _ _ hf
theorem c_X1_settle {E : xE} {d : Nat} (hd : 2 ≤ d) (x1 : Int32) (x2 : Int32) (m : xMem) (out : Int32 × xMem) (h : F_X1_settle x1 x2 m = some out) : xCv E mX1_settle d [.ref (xB E + 46), .int x1, .int x2] m out.2 :=
  x_enter (by decide +kernel) (Nat.le_of_ble_eq_true rfl) (pF_X1_settle hd (Q := _) out ⟨rfl, rfl⟩ x1 x2 m h)
-- X2_renew
def J_X2_renew_60 (x1 : Int32) (x2 : Int32) (x3 : Int32) (m : xMem) : Option (Int32 × xMem) :=
  if xin x1 60 = true then (
  if xin x1 60 = true then (
  if xbb x3 = true then (
  some (x3, (xst (xst m.1 ag_facts_value x1.toNatClampNeg x2) ag_facts_year x1.toNatClampNeg ((xst m.1 ag_facts_value x1.toNatClampNeg x2) ag_facts fFacts_now), m.2)))
  else none)
  else none)
  else none
def J_X2_renew_15 (x1 : Int32) (x2 : Int32) (s0 : Int32) (m : xMem) : Option (Int32 × xMem) :=
  if xin x1 60 = true then (
  if xin (m.1 ag_facts_kind x1.toNatClampNeg) 6 = true then (
  if xin x1 60 = true then (
  if xin (m.1 ag_facts_kind x1.toNatClampNeg) 6 = true then (
  if s0 = 0 then (
    J_X2_renew_60 (x1) (x2) (s0) (xst m.1 ag_facts_kindYears (m.1 ag_facts_kind x1.toNatClampNeg).toNatClampNeg ((m.1 ag_facts_kindYears (m.1 ag_facts_kind x1.toNatClampNeg).toNatClampNeg) + ((m.1 ag_facts fFacts_now) - (m.1 ag_facts_year x1.toNatClampNeg))), m.2))
  else (
    if xin x1 60 = true then (
    if xin ((xst m.1 ag_facts_kindYears (m.1 ag_facts_kind x1.toNatClampNeg).toNatClampNeg ((m.1 ag_facts_kindYears (m.1 ag_facts_kind x1.toNatClampNeg).toNatClampNeg) + ((m.1 ag_facts fFacts_now) - (m.1 ag_facts_year x1.toNatClampNeg)))) ag_facts_kind x1.toNatClampNeg) 6 = true then (
    if xin ((xst m.1 ag_facts_kindYears (m.1 ag_facts_kind x1.toNatClampNeg).toNatClampNeg ((m.1 ag_facts_kindYears (m.1 ag_facts_kind x1.toNatClampNeg).toNatClampNeg) + ((m.1 ag_facts fFacts_now) - (m.1 ag_facts_year x1.toNatClampNeg)))) ag_facts_kind x1.toNatClampNeg) 6 = true then (
    J_X2_renew_60 (x1) (x2) (s0) (xst (xst m.1 ag_facts_kindYears (m.1 ag_facts_kind x1.toNatClampNeg).toNatClampNeg ((m.1 ag_facts_kindYears (m.1 ag_facts_kind x1.toNatClampNeg).toNatClampNeg) + ((m.1 ag_facts fFacts_now) - (m.1 ag_facts_year x1.toNatClampNeg)))) ag_facts_kindChanges ((xst m.1 ag_facts_kindYears (m.1 ag_facts_kind x1.toNatClampNeg).toNatClampNeg ((m.1 ag_facts_kindYears (m.1 ag_facts_kind x1.toNatClampNeg).toNatClampNeg) + ((m.1 ag_facts fFacts_now) - (m.1 ag_facts_year x1.toNatClampNeg)))) ag_facts_kind x1.toNatClampNeg).toNatClampNeg (((xst m.1 ag_facts_kindYears (m.1 ag_facts_kind x1.toNatClampNeg).toNatClampNeg ((m.1 ag_facts_kindYears (m.1 ag_facts_kind x1.toNatClampNeg).toNatClampNeg) + ((m.1 ag_facts fFacts_now) - (m.1 ag_facts_year x1.toNatClampNeg)))) ag_facts_kindChanges ((xst m.1 ag_facts_kindYears (m.1 ag_facts_kind x1.toNatClampNeg).toNatClampNeg ((m.1 ag_facts_kindYears (m.1 ag_facts_kind x1.toNatClampNeg).toNatClampNeg) + ((m.1 ag_facts fFacts_now) - (m.1 ag_facts_year x1.toNatClampNeg)))) ag_facts_kind x1.toNatClampNeg).toNatClampNeg) + (1 : Int32)), m.2))
    else none)
    else none)
    else none))
  else none)
  else none)
  else none)
  else none
def F_X2_renew (x1 : Int32) (x2 : Int32) (m : xMem) : Option (Int32 × xMem) :=
  if xin x1 60 = true then (
  if (m.1 ag_facts_value x1.toNatClampNeg) = x2 then (
    J_X2_renew_15 (x1) (x2) ((0 : Int32)) m)
  else (
    J_X2_renew_15 (x1) (x2) ((1 : Int32)) m))
  else none
set_option maxHeartbeats 4000000 in
set_option maxRecDepth 100000 in
theorem pJ_X2_renew_60 {E : xE} {d : Nat} {Q : Option Value → xS → Prop} (hd : 1 ≤ d) (out : Int32 × xMem) (hR : Q (some (.int out.1)) (xf E out.2)) (x1 : Int32) (x2 : Int32) (x3 : Int32) (m : xMem) (hf : J_X2_renew_60 x1 x2 x3 m = some out) : xX E mX2_renew d 0 0 0 0 Q 60 [(0, .ref (xB E + 1)), (1, .int (x1)), (2, .int (x2)), (3, .int (x3))] [] (xf E m) := by
  unfold J_X2_renew_60 at hf
  refine x_aload_n dX2_renew_60 rfl ?_
  refine f_getR (b := 4) dX2_renew_61 xcl_2 (by decide) fl_RX2_18 (by decide) sh_1 rfl ?_
  refine x_iload_n dX2_renew_64 rfl ?_
  refine x_iload_n dX2_renew_65 rfl ?_
  have hg_6 := x_gd hf
  replace hf := hg_6.2
  refine f_iast dX2_renew_66 (by decide) sh_4 hg_6.1 ?_
  refine x_aload_n dX2_renew_67 rfl ?_
  refine f_getR (b := 5) dX2_renew_68 xcl_2 (by decide) fl_RX2_21 (by decide) sh_1 rfl ?_
  refine x_iload_n dX2_renew_71 rfl ?_
  refine x_aload_n dX2_renew_72 rfl ?_
  refine f_getI dX2_renew_73 xcl_2 (by decide) fl_RX2_40 (by decide) sh_1 rfl ?_
  have hg_7 := x_gd hf
  replace hf := hg_7.2
  refine f_iast dX2_renew_76 (by decide) sh_5 hg_7.1 ?_
  refine x_iload_n dX2_renew_77 rfl ?_
  have hg_8 := x_gd hf
  replace hf := hg_8.2
  exact x_zret dX2_renew_78 rfl (xbb_n hg_8.1) (by cases hf; exact hR)
set_option maxHeartbeats 4000000 in
set_option maxRecDepth 100000 in
theorem pJ_X2_renew_15 {E : xE} {d : Nat} {Q : Option Value → xS → Prop} (hd : 1 ≤ d) (out : Int32 × xMem) (hR : Q (some (.int out.1)) (xf E out.2)) (x1 : Int32) (x2 : Int32) (s0 : Int32) (m : xMem) (hf : J_X2_renew_15 x1 x2 s0 m = some out) : xX E mX2_renew d 0 0 0 0 Q 15 [(0, .ref (xB E + 1)), (1, .int (x1)), (2, .int (x2))] [.int (s0)] (xf E m) := by
  unfold J_X2_renew_15 at hf
  refine x_istore_n (lv' := [(0, .ref (xB E + 1)), (1, .int (x1)), (2, .int (x2)), (3, .int (s0))]) dX2_renew_15 [1, 2, 3, 0] (by decide) rfl ?_
  refine x_aload_n dX2_renew_16 rfl ?_
  refine f_getR (b := 8) dX2_renew_17 xcl_2 (by decide) fl_RX2_30 (by decide) sh_1 rfl ?_
  refine x_aload_n dX2_renew_20 rfl ?_
  refine f_getR (b := 2) dX2_renew_21 xcl_2 (by decide) fl_RX2_9 (by decide) sh_1 rfl ?_
  refine x_iload_n dX2_renew_24 rfl ?_
  have hg_2 := x_gd hf
  replace hf := hg_2.2
  refine f_iald dX2_renew_25 (by decide) sh_2 hg_2.1 ?_
  refine x_dup2 dX2_renew_26 rfl rfl ?_
  have hg_3 := x_gd hf
  replace hf := hg_3.2
  refine f_iald dX2_renew_27 (by decide) sh_8 hg_3.1 ?_
  refine x_aload_n dX2_renew_28 rfl ?_
  refine f_getI dX2_renew_29 xcl_2 (by decide) fl_RX2_40 (by decide) sh_1 rfl ?_
  refine x_aload_n dX2_renew_32 rfl ?_
  refine f_getR (b := 5) dX2_renew_33 xcl_2 (by decide) fl_RX2_21 (by decide) sh_1 rfl ?_
  refine x_iload_n dX2_renew_36 rfl ?_
  have hg_4 := x_gd hf
  replace hf := hg_4.2
  refine f_iald dX2_renew_37 (by decide) sh_5 hg_4.1 ?_
  refine x_isub dX2_renew_38 ?_
  refine x_iadd dX2_renew_39 ?_
  have hg_5 := x_gd hf
  replace hf := hg_5.2
  refine f_iast dX2_renew_40 (by decide) sh_8 hg_5.1 ?_
  refine x_iload_n dX2_renew_41 rfl ?_
  refine x_if_eq 60 dX2_renew_42 (by decide) (fun hc => ?_) (fun hc => ?_)
  · replace hf := x_ift hc hf
    exact pJ_X2_renew_60 hd out hR _ _ _ _ hf
  · replace hf := x_iff hc hf
    refine x_aload_n dX2_renew_45 rfl ?_
    refine f_getR (b := 9) dX2_renew_46 xcl_2 (by decide) fl_RX2_33 (by decide) sh_1 rfl ?_
    refine x_aload_n dX2_renew_49 rfl ?_
    refine f_getR (b := 2) dX2_renew_50 xcl_2 (by decide) fl_RX2_9 (by decide) sh_1 rfl ?_
    refine x_iload_n dX2_renew_53 rfl ?_
    have hg_9 := x_gd hf
    replace hf := hg_9.2
    refine f_iald dX2_renew_54 (by decide) sh_2 hg_9.1 ?_
    refine x_dup2 dX2_renew_55 rfl rfl ?_
    have hg_10 := x_gd hf
    replace hf := hg_10.2
    refine f_iald dX2_renew_56 (by decide) sh_9 hg_10.1 ?_
    refine x_iconst (v := 1) dX2_renew_57 (by decide) ?_
    refine x_iadd dX2_renew_58 ?_
    have hg_11 := x_gd hf
    replace hf := hg_11.2
    refine f_iast dX2_renew_59 (by decide) sh_9 hg_11.1 ?_
    exact pJ_X2_renew_60 hd out hR _ _ _ _ hf
set_option maxHeartbeats 4000000 in
set_option maxRecDepth 100000 in
theorem pF_X2_renew {E : xE} {d : Nat} {Q : Option Value → xS → Prop} (hd : 1 ≤ d) (out : Int32 × xMem) (hR : Q (some (.int out.1)) (xf E out.2)) (x1 : Int32) (x2 : Int32) (m : xMem) (hf : F_X2_renew x1 x2 m = some out) : xX E mX2_renew d 0 0 0 0 Q 0 [(0, .ref (xB E + 1)), (1, .int (x1)), (2, .int (x2))] [] (xf E m) := by
  unfold F_X2_renew at hf
  refine x_aload_n dX2_renew_0 rfl ?_
  refine f_getR (b := 4) dX2_renew_1 xcl_2 (by decide) fl_RX2_18 (by decide) sh_1 rfl ?_
  refine x_iload_n dX2_renew_4 rfl ?_
  have hg_1 := x_gd hf
  replace hf := hg_1.2
  refine f_iald dX2_renew_5 (by decide) sh_4 hg_1.1 ?_
  refine x_iload_n dX2_renew_6 rfl ?_
  refine x_icmp_eq 14 dX2_renew_7 (by decide) (fun hc => ?_) (fun hc => ?_)
  · replace hf := x_ift hc hf
    refine x_iconst (v := 0) dX2_renew_14 (by decide) ?_
    exact pJ_X2_renew_15 hd out hR _ _ _ _ hf
  · replace hf := x_iff hc hf
    refine x_iconst (v := 1) dX2_renew_10 (by decide) ?_
    refine x_goto 15 dX2_renew_11 (by decide) ?_
    exact pJ_X2_renew_15 hd out hR _ _ _ _ hf
theorem c_X2_renew {E : xE} {d : Nat} (hd : 1 ≤ d) (x1 : Int32) (x2 : Int32) (m : xMem) (out : Int32 × xMem) (h : F_X2_renew x1 x2 m = some out) : xCi E mX2_renew d [.ref (xB E + 1), .int x1, .int x2] m out.1 out.2 :=
  x_enter (by decide +kernel) (Nat.le_of_ble_eq_true rfl) (pF_X2_renew hd (Q := _) out ⟨rfl, rfl⟩ x1 x2 m h)
-- X9_check
def F_X9_check (x1 : Int32) (x2 : Int32) (m : xMem) : Option (Int32 × xMem) :=
  (F_X2_has (x1) m).bind fun q_1 => (
  if q_1.1 = 0 then (
    some ((-1 : Int32), q_1.2))
  else (
    (F_X9_isValue (x2) q_1.2).bind fun q_2 => (
    if q_2.1 = 0 then (
      some ((-1 : Int32), q_2.2))
    else (
      (F_X3_settle (x1) (x2) q_2.2).bind fun q_3 => (
      (F_X1_settle (x1) (x2) q_3.2).bind fun q_4 => (
      (F_X2_renew (x1) (x2) q_4.2).bind fun q_5 => (
      if q_5.1 = 0 then (
        some ((0 : Int32), q_5.2))
      else (
        some ((1 : Int32), q_5.2)))))))))
set_option maxHeartbeats 4000000 in
set_option maxRecDepth 100000 in
theorem pF_X9_check {E : xE} {d : Nat} {Q : Option Value → xS → Prop} (hd : 3 ≤ d) (out : Int32 × xMem) (hR : Q (some (.int out.1)) (xf E out.2)) (x1 : Int32) (x2 : Int32) (m : xMem) (hf : F_X9_check x1 x2 m = some out) : xX E mX9_check d 0 0 0 0 Q 0 [(0, .ref (xB E + 0)), (1, .int (x1)), (2, .int (x2))] [] (xf E m) := by
  unfold F_X9_check at hf
  refine x_aload_n dX9_check_0 rfl ?_
  refine f_getR (b := 1) dX9_check_1 xcl_9 (by decide) fl_RX9_12 (by decide) sh_0 rfl ?_
  refine x_iload_n dX9_check_4 rfl ?_
  obtain ⟨q_1, hq_1, hf⟩ := Option.bind_eq_some_iff.mp hf
  refine f_cVi mX2_has [.int (x1)] [] dX9_check_5 cs_RX9_107 ⟨w_414, w_1⟩ (ci := 2) rfl (by decide) sh_1 rfl rfl (Nat.le_of_ble_eq_true rfl) (by omega) (c_X2_has (d := d - 1) (by omega) (x1) m q_1 hq_1) ?_
  refine x_if_eq 18 dX9_check_8 (by decide) (fun hc => ?_) (fun hc => ?_)
  · replace hf := x_ift hc hf
    refine x_iconst (v := (-1)) dX9_check_18 (by decide) ?_
    exact x_iret dX9_check_19 rfl (by cases hf; exact hR)
  · replace hf := x_iff hc hf
    refine x_iload_n dX9_check_11 rfl ?_
    obtain ⟨q_2, hq_2, hf⟩ := Option.bind_eq_some_iff.mp hf
    refine f_cSi mX9_isValue [.int (x2)] [] dX9_check_12 cs_RX9_97 w_402 rfl rfl (Nat.le_of_ble_eq_true rfl) (by omega) (c_X9_isValue (d := d - 1) (by omega) (x2) q_1.2 q_2 hq_2) ?_
    refine x_if_ne 20 dX9_check_15 (by decide) (fun hc => ?_) (fun hc => ?_)
    · replace hf := x_iff hc hf
      refine x_aload_n dX9_check_20 rfl ?_
      refine f_getR (b := 10) dX9_check_21 xcl_9 (by decide) fl_RX9_19 (by decide) sh_0 rfl ?_
      refine x_iload_n dX9_check_24 rfl ?_
      refine x_iload_n dX9_check_25 rfl ?_
      obtain ⟨q_3, hq_3, hf⟩ := Option.bind_eq_some_iff.mp hf
      refine f_cVv mX3_settle [.int (x1), .int (x2)] [] dX9_check_26 cs_RX9_116 ⟨w_422, w_2⟩ (ci := 3) rfl (by decide) sh_10 rfl rfl (Nat.le_of_ble_eq_true rfl) (by omega) (c_X3_settle (d := d - 1) (by omega) (x1) (x2) q_2.2 q_3 hq_3) ?_
      refine x_aload_n dX9_check_29 rfl ?_
      refine f_getR (b := 46) dX9_check_30 xcl_9 (by decide) fl_RX9_54 (by decide) sh_0 rfl ?_
      refine x_iload_n dX9_check_33 rfl ?_
      refine x_iload_n dX9_check_34 rfl ?_
      obtain ⟨q_4, hq_4, hf⟩ := Option.bind_eq_some_iff.mp hf
      refine f_cVv mX1_settle [.int (x1), .int (x2)] [] dX9_check_35 cs_RX9_120 ⟨w_434, w_5⟩ (ci := 1) rfl (by decide) sh_46 rfl rfl (Nat.le_of_ble_eq_true rfl) (by omega) (c_X1_settle (d := d - 1) (by omega) (x1) (x2) q_3.2 q_4 hq_4) ?_
      refine x_aload_n dX9_check_38 rfl ?_
      refine f_getR (b := 1) dX9_check_39 xcl_9 (by decide) fl_RX9_12 (by decide) sh_0 rfl ?_
      refine x_iload_n dX9_check_42 rfl ?_
      refine x_iload_n dX9_check_43 rfl ?_
      obtain ⟨q_5, hq_5, hf⟩ := Option.bind_eq_some_iff.mp hf
      refine f_cVi mX2_renew [.int (x1), .int (x2)] [] dX9_check_44 cs_RX9_121 ⟨w_442, w_7⟩ (ci := 2) rfl (by decide) sh_1 rfl rfl (Nat.le_of_ble_eq_true rfl) (by omega) (c_X2_renew (d := d - 1) (by omega) (x1) (x2) q_4.2 q_5 hq_5) ?_
      refine x_if_eq 54 dX9_check_47 (by decide) (fun hc => ?_) (fun hc => ?_)
      · replace hf := x_ift hc hf
        refine x_iconst (v := 0) dX9_check_54 (by decide) ?_
        exact x_iret dX9_check_55 rfl (by cases hf; exact hR)
      · replace hf := x_iff hc hf
        refine x_iconst (v := 1) dX9_check_50 (by decide) ?_
        refine x_goto 55 dX9_check_51 (by decide) ?_
        exact x_iret dX9_check_55 rfl (by cases hf; exact hR)
    · replace hf := x_ift hc hf
      refine x_iconst (v := (-1)) dX9_check_18 (by decide) ?_
      exact x_iret dX9_check_19 rfl (by cases hf; exact hR)
theorem c_X9_check {E : xE} {d : Nat} (hd : 3 ≤ d) (x1 : Int32) (x2 : Int32) (m : xMem) (out : Int32 × xMem) (h : F_X9_check x1 x2 m = some out) : xCi E mX9_check d [.ref (xB E + 0), .int x1, .int x2] m out.1 out.2 :=
  x_enter (by decide +kernel) (Nat.le_of_ble_eq_true rfl) (pF_X9_check hd (Q := _) out ⟨rfl, rfl⟩ x1 x2 m h)
-- X10_proves
def L_X10_proves_2 (x1 : Int32) (x2 : Int32) : Nat → Int32 → xMem → Option (Int32 × xMem)
  | 0, _, _ => none
  | fk + 1, x3, m =>
    if (m.1 am fGuideBookModel_editions) ≤ x3 then (
      some (0, m))
    else (
      if xin (((60 : Int32) * x3) + x1) 600 = true then (
      if (m.1 am_asPrinted (((60 : Int32) * x3) + x1).toNatClampNeg) < 0 then (
        if xin (((60 : Int32) * x3) + x1) 600 = true then (
        if xin (((60 : Int32) * x3) + x1) 600 = true then (
        L_X10_proves_2 (x1) (x2) fk (x3 + 1) (xst m.1 am_proved (((60 : Int32) * x3) + x1).toNatClampNeg (m.1 am_proved (((60 : Int32) * x3) + x1).toNatClampNeg), m.2))
        else none)
        else none)
      else (
        if xin (((60 : Int32) * x3) + x1) 600 = true then (
        if (m.1 am_proved (((60 : Int32) * x3) + x1).toNatClampNeg) ≤ 0 then (
          if xin (((60 : Int32) * x3) + x1) 600 = true then (
          if (m.1 am_asPrinted (((60 : Int32) * x3) + x1).toNatClampNeg) = x2 then (
            if xin (((60 : Int32) * x3) + x1) 600 = true then (
            L_X10_proves_2 (x1) (x2) fk (x3 + 1) (xst m.1 am_proved (((60 : Int32) * x3) + x1).toNatClampNeg (1 : Int32), m.2))
            else none)
          else (
            if xin (((60 : Int32) * x3) + x1) 600 = true then (
            L_X10_proves_2 (x1) (x2) fk (x3 + 1) (xst m.1 am_proved (((60 : Int32) * x3) + x1).toNatClampNeg (2 : Int32), m.2))
            else none))
          else none)
        else (
          if xin (((60 : Int32) * x3) + x1) 600 = true then (
          if xin (((60 : Int32) * x3) + x1) 600 = true then (
          L_X10_proves_2 (x1) (x2) fk (x3 + 1) (xst m.1 am_proved (((60 : Int32) * x3) + x1).toNatClampNeg (m.1 am_proved (((60 : Int32) * x3) + x1).toNatClampNeg), m.2))
          else none)
          else none))
        else none))
      else none)
def F_X10_proves (x1 : Int32) (x2 : Int32) (m : xMem) : Option (Int32 × xMem) :=
  L_X10_proves_2 (x1) (x2) xfuel ((0 : Int32)) m
set_option maxHeartbeats 4000000 in
set_option maxRecDepth 100000 in
theorem pL_X10_proves_2 {E : xE} {d : Nat} {Q : Option Value → xS → Prop} (hd : 1 ≤ d) (out : Int32 × xMem) (hR : Q none (xf E out.2)) (x1 : Int32) (x2 : Int32) : ∀ (fk : Nat) (x3 : Int32) (m : xMem), L_X10_proves_2 x1 x2 fk x3 m = some out → xX E mX10_proves d 0 0 0 0 Q 2 [(0, .ref (xB E + 87)), (1, .int (x1)), (2, .int (x2)), (3, .int (x3))] [] (xf E m) := by
  intro fk
  induction fk with
  | zero => intro x3 m hf; cases hf
  | succ fk ih =>
    intro x3 m hf
    rw [L_X10_proves_2] at hf
    refine x_iload_n dX10_proves_2 rfl ?_
    refine x_aload_n dX10_proves_3 rfl ?_
    refine f_getI dX10_proves_4 xcl_10 (by decide) fl_RX10_312 (by decide) sh_87 rfl ?_
    refine x_icmp_ge 77 dX10_proves_7 (by decide) (fun hc => ?_) (fun hc => ?_)
    · replace hf := x_ift hc hf
      exact x_vret dX10_proves_77 rfl (by cases hf; exact hR)
    · replace hf := x_iff hc hf
      refine x_bipush (v := 60) dX10_proves_10 (by decide) ?_
      refine x_iload_n dX10_proves_12 rfl ?_
      refine x_imul dX10_proves_13 ?_
      refine x_iload_n dX10_proves_14 rfl ?_
      refine x_iadd dX10_proves_15 ?_
      refine x_istore (lv' := [(0, .ref (xB E + 87)), (1, .int (x1)), (2, .int (x2)), (3, .int (x3)), (4, .int (((60 : Int32) * x3) + x1))]) dX10_proves_16 [1, 2, 3, 4, 0] (by decide) rfl ?_
      refine x_aload_n dX10_proves_18 rfl ?_
      refine f_getR (b := 123) dX10_proves_19 xcl_10 (by decide) fl_RX10_146 (by decide) sh_87 rfl ?_
      refine x_iload dX10_proves_22 rfl ?_
      refine x_aload_n dX10_proves_24 rfl ?_
      refine f_getR (b := 122) dX10_proves_25 xcl_10 (by decide) fl_RX10_143 (by decide) sh_87 rfl ?_
      refine x_iload dX10_proves_28 rfl ?_
      have hg_1 := x_gd hf
      replace hf := hg_1.2
      refine f_iald dX10_proves_30 (by decide) sh_122 hg_1.1 ?_
      refine x_if_lt 44 dX10_proves_31 (by decide) (fun hc => ?_) (fun hc => ?_)
      · replace hf := x_ift hc hf
        refine x_aload_n dX10_proves_44 rfl ?_
        refine f_getR (b := 123) dX10_proves_45 xcl_10 (by decide) fl_RX10_146 (by decide) sh_87 rfl ?_
        refine x_iload dX10_proves_48 rfl ?_
        have hg_2 := x_gd hf
        replace hf := hg_2.2
        refine f_iald dX10_proves_50 (by decide) sh_123 hg_2.1 ?_
        refine x_goto 70 dX10_proves_51 (by decide) ?_
        have hg_3 := x_gd hf
        replace hf := hg_3.2
        refine f_iast dX10_proves_70 (by decide) sh_123 hg_3.1 ?_
        refine x_iinc (v := x3 + 1) (lv' := [(0, .ref (xB E + 87)), (1, .int (x1)), (2, .int (x2)), (3, .int (x3 + 1))]) dX10_proves_71 3 [1, 2, 3, 0] rfl rfl (by decide) rfl ?_
        refine x_goto 2 dX10_proves_74 (by decide) ?_
        exact ih _ _ hf
      · replace hf := x_iff hc hf
        refine x_aload_n dX10_proves_34 rfl ?_
        refine f_getR (b := 123) dX10_proves_35 xcl_10 (by decide) fl_RX10_146 (by decide) sh_87 rfl ?_
        refine x_iload dX10_proves_38 rfl ?_
        have hg_4 := x_gd hf
        replace hf := hg_4.2
        refine f_iald dX10_proves_40 (by decide) sh_123 hg_4.1 ?_
        refine x_if_le 54 dX10_proves_41 (by decide) (fun hc => ?_) (fun hc => ?_)
        · replace hf := x_ift hc hf
          refine x_aload_n dX10_proves_54 rfl ?_
          refine f_getR (b := 122) dX10_proves_55 xcl_10 (by decide) fl_RX10_143 (by decide) sh_87 rfl ?_
          refine x_iload dX10_proves_58 rfl ?_
          have hg_5 := x_gd hf
          replace hf := hg_5.2
          refine f_iald dX10_proves_60 (by decide) sh_122 hg_5.1 ?_
          refine x_iload_n dX10_proves_61 rfl ?_
          refine x_icmp_ne 69 dX10_proves_62 (by decide) (fun hc => ?_) (fun hc => ?_)
          · replace hf := x_iff hc hf
            refine x_iconst (v := 2) dX10_proves_69 (by decide) ?_
            have hg_6 := x_gd hf
            replace hf := hg_6.2
            refine f_iast dX10_proves_70 (by decide) sh_123 hg_6.1 ?_
            refine x_iinc (v := x3 + 1) (lv' := [(0, .ref (xB E + 87)), (1, .int (x1)), (2, .int (x2)), (3, .int (x3 + 1))]) dX10_proves_71 3 [1, 2, 3, 0] rfl rfl (by decide) rfl ?_
            refine x_goto 2 dX10_proves_74 (by decide) ?_
            exact ih _ _ hf
          · replace hf := x_ift hc hf
            refine x_iconst (v := 1) dX10_proves_65 (by decide) ?_
            refine x_goto 70 dX10_proves_66 (by decide) ?_
            have hg_7 := x_gd hf
            replace hf := hg_7.2
            refine f_iast dX10_proves_70 (by decide) sh_123 hg_7.1 ?_
            refine x_iinc (v := x3 + 1) (lv' := [(0, .ref (xB E + 87)), (1, .int (x1)), (2, .int (x2)), (3, .int (x3 + 1))]) dX10_proves_71 3 [1, 2, 3, 0] rfl rfl (by decide) rfl ?_
            refine x_goto 2 dX10_proves_74 (by decide) ?_
            exact ih _ _ hf
        · replace hf := x_iff hc hf
          refine x_aload_n dX10_proves_44 rfl ?_
          refine f_getR (b := 123) dX10_proves_45 xcl_10 (by decide) fl_RX10_146 (by decide) sh_87 rfl ?_
          refine x_iload dX10_proves_48 rfl ?_
          have hg_8 := x_gd hf
          replace hf := hg_8.2
          refine f_iald dX10_proves_50 (by decide) sh_123 hg_8.1 ?_
          refine x_goto 70 dX10_proves_51 (by decide) ?_
          have hg_9 := x_gd hf
          replace hf := hg_9.2
          refine f_iast dX10_proves_70 (by decide) sh_123 hg_9.1 ?_
          refine x_iinc (v := x3 + 1) (lv' := [(0, .ref (xB E + 87)), (1, .int (x1)), (2, .int (x2)), (3, .int (x3 + 1))]) dX10_proves_71 3 [1, 2, 3, 0] rfl rfl (by decide) rfl ?_
          refine x_goto 2 dX10_proves_74 (by decide) ?_
          exact ih _ _ hf
set_option maxHeartbeats 4000000 in
set_option maxRecDepth 100000 in
theorem pF_X10_proves {E : xE} {d : Nat} {Q : Option Value → xS → Prop} (hd : 1 ≤ d) (out : Int32 × xMem) (hR : Q none (xf E out.2)) (x1 : Int32) (x2 : Int32) (m : xMem) (hf : F_X10_proves x1 x2 m = some out) : xX E mX10_proves d 0 0 0 0 Q 0 [(0, .ref (xB E + 87)), (1, .int (x1)), (2, .int (x2))] [] (xf E m) := by
  unfold F_X10_proves at hf
  refine x_iconst (v := 0) dX10_proves_0 (by decide) ?_
  refine x_istore_n (lv' := [(0, .ref (xB E + 87)), (1, .int (x1)), (2, .int (x2)), (3, .int ((0 : Int32)))]) dX10_proves_1 [1, 2, 3, 0] (by decide) rfl ?_
  refine pL_X10_proves_2 hd out hR _ _ xfuel _ _ hf
theorem c_X10_proves {E : xE} {d : Nat} (hd : 1 ≤ d) (x1 : Int32) (x2 : Int32) (m : xMem) (out : Int32 × xMem) (h : F_X10_proves x1 x2 m = some out) : xCv E mX10_proves d [.ref (xB E + 87), .int x1, .int x2] m out.2 :=
  x_enter (by decide +kernel) (Nat.le_of_ble_eq_true rfl) (pF_X10_proves hd (Q := _) out ⟨rfl, rfl⟩ x1 x2 m h)
