-- X10_stars
def F_X10_stars (x1 : Int32) (m : xMem) : Option (Int32 × xMem) :=
  (F_X10_isPlace (x1) (xst m.1 am fGuideBookModel_thrown (0 : Int32), m.2)).bind fun q_1 => (
  if q_1.1 = 0 then (
    some ((-1 : Int32), q_1.2))
  else (
    (F_X10_starsOf (x1) q_1.2).bind fun q_2 => (
    some (q_2.1, q_2.2))))
set_option maxHeartbeats 4000000 in
set_option maxRecDepth 100000 in
theorem pF_X10_stars {E : xE} {d : Nat} {Q : Option Value → xS → Prop} (hd : 3 ≤ d) (out : Int32 × xMem) (hR : Q (some (.int out.1)) (xf E out.2)) (x1 : Int32) (m : xMem) (hf : F_X10_stars x1 m = some out) : xX E mX10_stars d 0 0 0 0 Q 0 [(0, .ref (xB E + 87)), (1, .int (x1))] [] (xf E m) := by
  unfold F_X10_stars at hf
  refine x_aload_n dX10_stars_0 rfl ?_
  refine x_iconst (v := 0) dX10_stars_1 (by decide) ?_
  refine f_putI dX10_stars_2 xcl_10 (by decide) fl_RX10_1 rfl rfl (by decide) sh_87 rfl ?_
  refine x_iload_n dX10_stars_5 rfl ?_
  obtain ⟨q_1, hq_1, hf⟩ := Option.bind_eq_some_iff.mp hf
  refine f_cSi mX10_isPlace [.int (x1)] [] dX10_stars_6 cs_RX10_244 w_1176 rfl rfl (Nat.le_of_ble_eq_true rfl) (by omega) (c_X10_isPlace (d := d - 1) (by omega) (x1) (xst m.1 am fGuideBookModel_thrown (0 : Int32), m.2) q_1 hq_1) ?_
  refine x_if_eq 20 dX10_stars_9 (by decide) (fun hc => ?_) (fun hc => ?_)
  · replace hf := x_ift hc hf
    refine x_iconst (v := (-1)) dX10_stars_20 (by decide) ?_
    exact x_iret dX10_stars_21 rfl (by cases hf; exact hR)
  · replace hf := x_iff hc hf
    refine x_aload_n dX10_stars_12 rfl ?_
    refine x_iload_n dX10_stars_13 rfl ?_
    obtain ⟨q_2, hq_2, hf⟩ := Option.bind_eq_some_iff.mp hf
    refine f_cVi mX10_starsOf [.int (x1)] [] dX10_stars_14 cs_RX10_300 ⟨w_1290, w_82⟩ (ci := 10) rfl (by decide) sh_87 rfl rfl (Nat.le_of_ble_eq_true rfl) (by omega) (c_X10_starsOf (d := d - 1) (by omega) (x1) q_1.2 q_2 hq_2) ?_
    refine x_goto 21 dX10_stars_17 (by decide) ?_
    exact x_iret dX10_stars_21 rfl (by cases hf; exact hR)
theorem c_X10_stars {E : xE} {d : Nat} (hd : 3 ≤ d) (x1 : Int32) (m : xMem) (out : Int32 × xMem) (h : F_X10_stars x1 m = some out) : xCi E mX10_stars d [.ref (xB E + 87), .int x1] m out.1 out.2 :=
  x_enter (by decide +kernel) (Nat.le_of_ble_eq_true rfl) (pF_X10_stars hd (Q := _) out ⟨rfl, rfl⟩ x1 m h)
-- X9_linesKept
def J_X9_linesKept_62 (rec : Int32 → xMem → Option (Int64 × xMem)) (c68 : xMem → Option (Int64 × xMem)) (x1 : Int32) (x3 : Int32) (m : xMem) : Option (Int64 × xMem) :=
  rec (x3 + (-1 : Int32)) m
def L_X9_linesKept_18 (x1 : Int32) (c68 : xMem → Option (Int64 × xMem)) : Nat → Int32 → xMem → Option (Int64 × xMem)
  | 0, _, _ => none
  | fk + 1, x3, m =>
    if x3 < 0 then (
      c68 m)
    else (
      if xin x3 60 = true then (
      if (m.1 ag_facts_place x3.toNatClampNeg) = x1 then (
        if xin x3 60 = true then (
        if xin x3 60 = true then (
        (F_X0_offer (x3) (m.1 ag_facts_length x3.toNatClampNeg) (m.1 ag_facts_worth x3.toNatClampNeg) ((1 : Int32)) m).bind fun q_5 => (
        J_X9_linesKept_62 (fun y_6 m_7 => L_X9_linesKept_18 x1 c68 fk y_6 m_7) c68 (x1) (x3) q_5.2))
        else none)
        else none)
      else (
        J_X9_linesKept_62 (fun y_8 m_9 => L_X9_linesKept_18 x1 c68 fk y_8 m_9) c68 (x1) (x3) m))
      else none)
def F_X9_linesKept (x1 : Int32) (x2 : Int32) (m : xMem) : Option (Int64 × xMem) :=
  (F_X0_open (x2) m).bind fun q_1 => (
  L_X9_linesKept_18 (x1) (fun m_10 => (
    (F_X0_picked m_10).bind fun q_11 => (
    some (q_11.1, q_11.2)))) xfuel ((q_1.2.1 ag_facts fFacts_size) - (1 : Int32)) q_1.2)
set_option maxHeartbeats 4000000 in
set_option maxRecDepth 100000 in
theorem pJ_X9_linesKept_62 {E : xE} {d : Nat} {Q : Option Value → xS → Prop} (hd : 3 ≤ d) (out : Int64 × xMem) (hR : Q (some (.long out.1)) (xf E out.2)) (rec : Int32 → xMem → Option (Int64 × xMem)) (c68 : xMem → Option (Int64 × xMem)) (x1 : Int32) (x3 : Int32) (hrec : ∀ (x3 : Int32) (m : xMem), rec x3 m = some out → xX E mX9_linesKept d 0 0 0 0 Q 18 [(0, .ref (xB E + 0)), (1, .int (x1)), (3, .int (x3))] [] (xf E m)) (hc68 : ∀ (m : xMem), c68 m = some out → xX E mX9_linesKept d 0 0 0 0 Q 68 [(0, .ref (xB E + 0))] [] (xf E m)) (m : xMem) (hf : J_X9_linesKept_62 rec c68 x1 x3 m = some out) : xX E mX9_linesKept d 0 0 0 0 Q 62 [(0, .ref (xB E + 0)), (1, .int (x1)), (3, .int (x3))] [] (xf E m) := by
  unfold J_X9_linesKept_62 at hf
  refine x_iinc (v := x3 + (-1 : Int32)) (lv' := [(0, .ref (xB E + 0)), (1, .int (x1)), (3, .int (x3 + (-1 : Int32)))]) dX9_linesKept_62 2 [1, 2, 0] rfl rfl (by decide) rfl ?_
  refine x_goto 18 dX9_linesKept_65 (by decide) ?_
  exact hrec _ _ hf
set_option maxHeartbeats 4000000 in
set_option maxRecDepth 100000 in
theorem pL_X9_linesKept_18 {E : xE} {d : Nat} {Q : Option Value → xS → Prop} (hd : 3 ≤ d) (out : Int64 × xMem) (hR : Q (some (.long out.1)) (xf E out.2)) (x1 : Int32) (c68 : xMem → Option (Int64 × xMem)) (hc68 : ∀ (m : xMem), c68 m = some out → xX E mX9_linesKept d 0 0 0 0 Q 68 [(0, .ref (xB E + 0))] [] (xf E m)) : ∀ (fk : Nat) (x3 : Int32) (m : xMem), L_X9_linesKept_18 x1 c68 fk x3 m = some out → xX E mX9_linesKept d 0 0 0 0 Q 18 [(0, .ref (xB E + 0)), (1, .int (x1)), (3, .int (x3))] [] (xf E m) := by
  intro fk
  induction fk with
  | zero => intro x3 m hf; cases hf
  | succ fk ih =>
    intro x3 m hf
    rw [L_X9_linesKept_18] at hf
    refine x_iload_n dX9_linesKept_18 rfl ?_
    refine x_if_lt 68 dX9_linesKept_19 (by decide) (fun hc => ?_) (fun hc => ?_)
    · replace hf := x_ift hc hf
      refine x_lv (lv' := [(0, .ref (xB E + 0))]) [0] rfl ?_
      exact hc68 _ hf
    · replace hf := x_iff hc hf
      refine x_aload_n dX9_linesKept_22 rfl ?_
      refine f_getR (b := 1) dX9_linesKept_23 xcl_9 (by decide) fl_RX9_12 (by decide) sh_0 rfl ?_
      refine f_getR (b := 3) dX9_linesKept_26 xcl_2 (by decide) fl_RX9_194 (by decide) sh_1 rfl ?_
      refine x_iload_n dX9_linesKept_29 rfl ?_
      have hg_2 := x_gd hf
      replace hf := hg_2.2
      refine f_iald dX9_linesKept_30 (by decide) sh_3 hg_2.1 ?_
      refine x_iload_n dX9_linesKept_31 rfl ?_
      refine x_icmp_ne 62 dX9_linesKept_32 (by decide) (fun hc => ?_) (fun hc => ?_)
      · replace hf := x_iff hc hf
        exact pJ_X9_linesKept_62 hd out hR _ _ _ _ (fun y0 m9 h9 => ih y0 m9 h9) hc68 _ hf
      · replace hf := x_ift hc hf
        refine x_aload_n dX9_linesKept_35 rfl ?_
        refine f_getR (b := 81) dX9_linesKept_36 xcl_9 (by decide) fl_RX9_61 (by decide) sh_0 rfl ?_
        refine x_iload_n dX9_linesKept_39 rfl ?_
        refine x_aload_n dX9_linesKept_40 rfl ?_
        refine f_getR (b := 1) dX9_linesKept_41 xcl_9 (by decide) fl_RX9_12 (by decide) sh_0 rfl ?_
        refine f_getR (b := 6) dX9_linesKept_44 xcl_2 (by decide) fl_RX9_110 (by decide) sh_1 rfl ?_
        refine x_iload_n dX9_linesKept_47 rfl ?_
        have hg_3 := x_gd hf
        replace hf := hg_3.2
        refine f_iald dX9_linesKept_48 (by decide) sh_6 hg_3.1 ?_
        refine x_aload_n dX9_linesKept_49 rfl ?_
        refine f_getR (b := 1) dX9_linesKept_50 xcl_9 (by decide) fl_RX9_12 (by decide) sh_0 rfl ?_
        refine f_getR (b := 7) dX9_linesKept_53 xcl_2 (by decide) fl_RX9_113 (by decide) sh_1 rfl ?_
        refine x_iload_n dX9_linesKept_56 rfl ?_
        have hg_4 := x_gd hf
        replace hf := hg_4.2
        refine f_iald dX9_linesKept_57 (by decide) sh_7 hg_4.1 ?_
        refine x_iconst (v := 1) dX9_linesKept_58 (by decide) ?_
        obtain ⟨q_5, hq_5, hf⟩ := Option.bind_eq_some_iff.mp hf
        refine f_cVv mX0_offer [.int (x3), .int (m.1 ag_facts_length x3.toNatClampNeg), .int (m.1 ag_facts_worth x3.toNatClampNeg), .int ((1 : Int32))] [] dX9_linesKept_59 cs_RX9_251 ⟨w_495, w_13⟩ (ci := 0) rfl (by decide) sh_81 rfl rfl (Nat.le_of_ble_eq_true rfl) (by omega) (c_X0_offer (d := d - 1) (by omega) (x3) (m.1 ag_facts_length x3.toNatClampNeg) (m.1 ag_facts_worth x3.toNatClampNeg) ((1 : Int32)) m q_5 hq_5) ?_
        exact pJ_X9_linesKept_62 hd out hR _ _ _ _ (fun y0 m9 h9 => ih y0 m9 h9) hc68 _ hf
set_option maxHeartbeats 4000000 in
set_option maxRecDepth 100000 in
theorem pF_X9_linesKept {E : xE} {d : Nat} {Q : Option Value → xS → Prop} (hd : 3 ≤ d) (out : Int64 × xMem) (hR : Q (some (.long out.1)) (xf E out.2)) (x1 : Int32) (x2 : Int32) (m : xMem) (hf : F_X9_linesKept x1 x2 m = some out) : xX E mX9_linesKept d 0 0 0 0 Q 0 [(0, .ref (xB E + 0)), (1, .int (x1)), (2, .int (x2))] [] (xf E m) := by
  unfold F_X9_linesKept at hf
  refine x_aload_n dX9_linesKept_0 rfl ?_
  refine f_getR (b := 81) dX9_linesKept_1 xcl_9 (by decide) fl_RX9_61 (by decide) sh_0 rfl ?_
  refine x_iload_n dX9_linesKept_4 rfl ?_
  obtain ⟨q_1, hq_1, hf⟩ := Option.bind_eq_some_iff.mp hf
  refine f_cVv mX0_open [.int (x2)] [] dX9_linesKept_5 cs_RX9_245 ⟨w_482, w_11⟩ (ci := 0) rfl (by decide) sh_81 rfl rfl (Nat.le_of_ble_eq_true rfl) (by omega) (c_X0_open (d := d - 1) (by omega) (x2) m q_1 hq_1) ?_
  refine x_aload_n dX9_linesKept_8 rfl ?_
  refine f_getR (b := 1) dX9_linesKept_9 xcl_9 (by decide) fl_RX9_12 (by decide) sh_0 rfl ?_
  refine f_getI dX9_linesKept_12 xcl_2 (by decide) fl_RX9_100 (by decide) sh_1 rfl ?_
  refine x_iconst (v := 1) dX9_linesKept_15 (by decide) ?_
  refine x_isub dX9_linesKept_16 ?_
  refine x_istore_n (lv' := [(0, .ref (xB E + 0)), (1, .int (x1)), (3, .int ((q_1.2.1 ag_facts fFacts_size) - (1 : Int32)))]) dX9_linesKept_17 [1, 2, 0] (by decide) rfl ?_
  refine pL_X9_linesKept_18 hd out hR _ _ (fun m_10 hf => ?_) xfuel _ _ hf
  refine x_aload_n dX9_linesKept_68 rfl ?_
  refine f_getR (b := 81) dX9_linesKept_69 xcl_9 (by decide) fl_RX9_61 (by decide) sh_0 rfl ?_
  obtain ⟨q_11, hq_11, hf⟩ := Option.bind_eq_some_iff.mp hf
  refine f_cVl mX0_picked [] [] dX9_linesKept_72 cs_RX9_255 ⟨w_500, w_14⟩ (ci := 0) rfl (by decide) sh_81 rfl rfl (Nat.le_of_ble_eq_true rfl) (by omega) (c_X0_picked (d := d - 1) (by omega) m_10 q_11 hq_11) ?_
  exact x_lret dX9_linesKept_75 rfl (by cases hf; exact hR)
theorem c_X9_linesKept {E : xE} {d : Nat} (hd : 3 ≤ d) (x1 : Int32) (x2 : Int32) (m : xMem) (out : Int64 × xMem) (h : F_X9_linesKept x1 x2 m = some out) : xCl' E mX9_linesKept d [.ref (xB E + 0), .int x1, .int x2] m out.1 out.2 :=
  x_enter (by decide +kernel) (Nat.le_of_ble_eq_true rfl) (pF_X9_linesKept hd (Q := _) out ⟨rfl, rfl⟩ x1 x2 m h)
-- J13_bitCount_95d88
def F_J13_bitCount_95d88 (l0 : Int64) (m : xMem) : Option (Int32 × xMem) :=
  some ((((((((((l0 - ((xushr l0 (1 : Int32)) &&& (6148914691236517205 : Int64))) &&& (3689348814741910323 : Int64)) + ((xushr (l0 - ((xushr l0 (1 : Int32)) &&& (6148914691236517205 : Int64))) (2 : Int32)) &&& (3689348814741910323 : Int64))) + (xushr (((l0 - ((xushr l0 (1 : Int32)) &&& (6148914691236517205 : Int64))) &&& (3689348814741910323 : Int64)) + ((xushr (l0 - ((xushr l0 (1 : Int32)) &&& (6148914691236517205 : Int64))) (2 : Int32)) &&& (3689348814741910323 : Int64))) (4 : Int32))) &&& (1085102592571150095 : Int64)) + (xushr (((((l0 - ((xushr l0 (1 : Int32)) &&& (6148914691236517205 : Int64))) &&& (3689348814741910323 : Int64)) + ((xushr (l0 - ((xushr l0 (1 : Int32)) &&& (6148914691236517205 : Int64))) (2 : Int32)) &&& (3689348814741910323 : Int64))) + (xushr (((l0 - ((xushr l0 (1 : Int32)) &&& (6148914691236517205 : Int64))) &&& (3689348814741910323 : Int64)) + ((xushr (l0 - ((xushr l0 (1 : Int32)) &&& (6148914691236517205 : Int64))) (2 : Int32)) &&& (3689348814741910323 : Int64))) (4 : Int32))) &&& (1085102592571150095 : Int64)) (8 : Int32))) + (xushr ((((((l0 - ((xushr l0 (1 : Int32)) &&& (6148914691236517205 : Int64))) &&& (3689348814741910323 : Int64)) + ((xushr (l0 - ((xushr l0 (1 : Int32)) &&& (6148914691236517205 : Int64))) (2 : Int32)) &&& (3689348814741910323 : Int64))) + (xushr (((l0 - ((xushr l0 (1 : Int32)) &&& (6148914691236517205 : Int64))) &&& (3689348814741910323 : Int64)) + ((xushr (l0 - ((xushr l0 (1 : Int32)) &&& (6148914691236517205 : Int64))) (2 : Int32)) &&& (3689348814741910323 : Int64))) (4 : Int32))) &&& (1085102592571150095 : Int64)) + (xushr (((((l0 - ((xushr l0 (1 : Int32)) &&& (6148914691236517205 : Int64))) &&& (3689348814741910323 : Int64)) + ((xushr (l0 - ((xushr l0 (1 : Int32)) &&& (6148914691236517205 : Int64))) (2 : Int32)) &&& (3689348814741910323 : Int64))) + (xushr (((l0 - ((xushr l0 (1 : Int32)) &&& (6148914691236517205 : Int64))) &&& (3689348814741910323 : Int64)) + ((xushr (l0 - ((xushr l0 (1 : Int32)) &&& (6148914691236517205 : Int64))) (2 : Int32)) &&& (3689348814741910323 : Int64))) (4 : Int32))) &&& (1085102592571150095 : Int64)) (8 : Int32))) (16 : Int32))) + (xushr (((((((l0 - ((xushr l0 (1 : Int32)) &&& (6148914691236517205 : Int64))) &&& (3689348814741910323 : Int64)) + ((xushr (l0 - ((xushr l0 (1 : Int32)) &&& (6148914691236517205 : Int64))) (2 : Int32)) &&& (3689348814741910323 : Int64))) + (xushr (((l0 - ((xushr l0 (1 : Int32)) &&& (6148914691236517205 : Int64))) &&& (3689348814741910323 : Int64)) + ((xushr (l0 - ((xushr l0 (1 : Int32)) &&& (6148914691236517205 : Int64))) (2 : Int32)) &&& (3689348814741910323 : Int64))) (4 : Int32))) &&& (1085102592571150095 : Int64)) + (xushr (((((l0 - ((xushr l0 (1 : Int32)) &&& (6148914691236517205 : Int64))) &&& (3689348814741910323 : Int64)) + ((xushr (l0 - ((xushr l0 (1 : Int32)) &&& (6148914691236517205 : Int64))) (2 : Int32)) &&& (3689348814741910323 : Int64))) + (xushr (((l0 - ((xushr l0 (1 : Int32)) &&& (6148914691236517205 : Int64))) &&& (3689348814741910323 : Int64)) + ((xushr (l0 - ((xushr l0 (1 : Int32)) &&& (6148914691236517205 : Int64))) (2 : Int32)) &&& (3689348814741910323 : Int64))) (4 : Int32))) &&& (1085102592571150095 : Int64)) (8 : Int32))) + (xushr ((((((l0 - ((xushr l0 (1 : Int32)) &&& (6148914691236517205 : Int64))) &&& (3689348814741910323 : Int64)) + ((xushr (l0 - ((xushr l0 (1 : Int32)) &&& (6148914691236517205 : Int64))) (2 : Int32)) &&& (3689348814741910323 : Int64))) + (xushr (((l0 - ((xushr l0 (1 : Int32)) &&& (6148914691236517205 : Int64))) &&& (3689348814741910323 : Int64)) + ((xushr (l0 - ((xushr l0 (1 : Int32)) &&& (6148914691236517205 : Int64))) (2 : Int32)) &&& (3689348814741910323 : Int64))) (4 : Int32))) &&& (1085102592571150095 : Int64)) + (xushr (((((l0 - ((xushr l0 (1 : Int32)) &&& (6148914691236517205 : Int64))) &&& (3689348814741910323 : Int64)) + ((xushr (l0 - ((xushr l0 (1 : Int32)) &&& (6148914691236517205 : Int64))) (2 : Int32)) &&& (3689348814741910323 : Int64))) + (xushr (((l0 - ((xushr l0 (1 : Int32)) &&& (6148914691236517205 : Int64))) &&& (3689348814741910323 : Int64)) + ((xushr (l0 - ((xushr l0 (1 : Int32)) &&& (6148914691236517205 : Int64))) (2 : Int32)) &&& (3689348814741910323 : Int64))) (4 : Int32))) &&& (1085102592571150095 : Int64)) (8 : Int32))) (16 : Int32))) (32 : Int32))).toInt32) &&& (127 : Int32), m)
set_option maxHeartbeats 4000000 in
set_option maxRecDepth 100000 in
theorem pF_J13_bitCount_95d88 {E : xE} {d : Nat} {Q : Option Value → xS → Prop} (hd : 1 ≤ d) (out : Int32 × xMem) (hR : Q (some (.int out.1)) (xf E out.2)) (l0 : Int64) (m : xMem) (hf : F_J13_bitCount_95d88 l0 m = some out) : xX E mJ13_bitCount_95d88 d 0 0 0 0 Q 0 [(0, .long (l0))] [] (xf E m) := by
  unfold F_J13_bitCount_95d88 at hf
  refine x_lload_n dJ13_bitCount_95d88_0 rfl ?_
  refine x_lload_n dJ13_bitCount_95d88_1 rfl ?_
  refine x_iconst (v := 1) dJ13_bitCount_95d88_2 (by decide) ?_
  refine x_lushr dJ13_bitCount_95d88_3 ?_
  refine x_ldc2 (v := 6148914691236517205) dJ13_bitCount_95d88_4 w_799 ?_
  refine x_land dJ13_bitCount_95d88_7 ?_
  refine x_lsub dJ13_bitCount_95d88_8 ?_
  refine x_lstore_n (lv' := [(0, .long (l0 - ((xushr l0 (1 : Int32)) &&& (6148914691236517205 : Int64))))]) dJ13_bitCount_95d88_9 [0] (by decide) rfl ?_
  refine x_lload_n dJ13_bitCount_95d88_10 rfl ?_
  refine x_ldc2 (v := 3689348814741910323) dJ13_bitCount_95d88_11 w_800 ?_
  refine x_land dJ13_bitCount_95d88_14 ?_
  refine x_lload_n dJ13_bitCount_95d88_15 rfl ?_
  refine x_iconst (v := 2) dJ13_bitCount_95d88_16 (by decide) ?_
  refine x_lushr dJ13_bitCount_95d88_17 ?_
  refine x_ldc2 (v := 3689348814741910323) dJ13_bitCount_95d88_18 w_800 ?_
  refine x_land dJ13_bitCount_95d88_21 ?_
  refine x_ladd dJ13_bitCount_95d88_22 ?_
  refine x_lstore_n (lv' := [(0, .long (((l0 - ((xushr l0 (1 : Int32)) &&& (6148914691236517205 : Int64))) &&& (3689348814741910323 : Int64)) + ((xushr (l0 - ((xushr l0 (1 : Int32)) &&& (6148914691236517205 : Int64))) (2 : Int32)) &&& (3689348814741910323 : Int64))))]) dJ13_bitCount_95d88_23 [0] (by decide) rfl ?_
  refine x_lload_n dJ13_bitCount_95d88_24 rfl ?_
  refine x_lload_n dJ13_bitCount_95d88_25 rfl ?_
  refine x_iconst (v := 4) dJ13_bitCount_95d88_26 (by decide) ?_
  refine x_lushr dJ13_bitCount_95d88_27 ?_
  refine x_ladd dJ13_bitCount_95d88_28 ?_
  refine x_ldc2 (v := 1085102592571150095) dJ13_bitCount_95d88_29 w_801 ?_
  refine x_land dJ13_bitCount_95d88_32 ?_
  refine x_lstore_n (lv' := [(0, .long (((((l0 - ((xushr l0 (1 : Int32)) &&& (6148914691236517205 : Int64))) &&& (3689348814741910323 : Int64)) + ((xushr (l0 - ((xushr l0 (1 : Int32)) &&& (6148914691236517205 : Int64))) (2 : Int32)) &&& (3689348814741910323 : Int64))) + (xushr (((l0 - ((xushr l0 (1 : Int32)) &&& (6148914691236517205 : Int64))) &&& (3689348814741910323 : Int64)) + ((xushr (l0 - ((xushr l0 (1 : Int32)) &&& (6148914691236517205 : Int64))) (2 : Int32)) &&& (3689348814741910323 : Int64))) (4 : Int32))) &&& (1085102592571150095 : Int64)))]) dJ13_bitCount_95d88_33 [0] (by decide) rfl ?_
  refine x_lload_n dJ13_bitCount_95d88_34 rfl ?_
  refine x_lload_n dJ13_bitCount_95d88_35 rfl ?_
  refine x_bipush (v := 8) dJ13_bitCount_95d88_36 (by decide) ?_
  refine x_lushr dJ13_bitCount_95d88_38 ?_
  refine x_ladd dJ13_bitCount_95d88_39 ?_
  refine x_lstore_n (lv' := [(0, .long ((((((l0 - ((xushr l0 (1 : Int32)) &&& (6148914691236517205 : Int64))) &&& (3689348814741910323 : Int64)) + ((xushr (l0 - ((xushr l0 (1 : Int32)) &&& (6148914691236517205 : Int64))) (2 : Int32)) &&& (3689348814741910323 : Int64))) + (xushr (((l0 - ((xushr l0 (1 : Int32)) &&& (6148914691236517205 : Int64))) &&& (3689348814741910323 : Int64)) + ((xushr (l0 - ((xushr l0 (1 : Int32)) &&& (6148914691236517205 : Int64))) (2 : Int32)) &&& (3689348814741910323 : Int64))) (4 : Int32))) &&& (1085102592571150095 : Int64)) + (xushr (((((l0 - ((xushr l0 (1 : Int32)) &&& (6148914691236517205 : Int64))) &&& (3689348814741910323 : Int64)) + ((xushr (l0 - ((xushr l0 (1 : Int32)) &&& (6148914691236517205 : Int64))) (2 : Int32)) &&& (3689348814741910323 : Int64))) + (xushr (((l0 - ((xushr l0 (1 : Int32)) &&& (6148914691236517205 : Int64))) &&& (3689348814741910323 : Int64)) + ((xushr (l0 - ((xushr l0 (1 : Int32)) &&& (6148914691236517205 : Int64))) (2 : Int32)) &&& (3689348814741910323 : Int64))) (4 : Int32))) &&& (1085102592571150095 : Int64)) (8 : Int32))))]) dJ13_bitCount_95d88_40 [0] (by decide) rfl ?_
  refine x_lload_n dJ13_bitCount_95d88_41 rfl ?_
  refine x_lload_n dJ13_bitCount_95d88_42 rfl ?_
  refine x_bipush (v := 16) dJ13_bitCount_95d88_43 (by decide) ?_
  refine x_lushr dJ13_bitCount_95d88_45 ?_
  refine x_ladd dJ13_bitCount_95d88_46 ?_
  refine x_lstore_n (lv' := [(0, .long (((((((l0 - ((xushr l0 (1 : Int32)) &&& (6148914691236517205 : Int64))) &&& (3689348814741910323 : Int64)) + ((xushr (l0 - ((xushr l0 (1 : Int32)) &&& (6148914691236517205 : Int64))) (2 : Int32)) &&& (3689348814741910323 : Int64))) + (xushr (((l0 - ((xushr l0 (1 : Int32)) &&& (6148914691236517205 : Int64))) &&& (3689348814741910323 : Int64)) + ((xushr (l0 - ((xushr l0 (1 : Int32)) &&& (6148914691236517205 : Int64))) (2 : Int32)) &&& (3689348814741910323 : Int64))) (4 : Int32))) &&& (1085102592571150095 : Int64)) + (xushr (((((l0 - ((xushr l0 (1 : Int32)) &&& (6148914691236517205 : Int64))) &&& (3689348814741910323 : Int64)) + ((xushr (l0 - ((xushr l0 (1 : Int32)) &&& (6148914691236517205 : Int64))) (2 : Int32)) &&& (3689348814741910323 : Int64))) + (xushr (((l0 - ((xushr l0 (1 : Int32)) &&& (6148914691236517205 : Int64))) &&& (3689348814741910323 : Int64)) + ((xushr (l0 - ((xushr l0 (1 : Int32)) &&& (6148914691236517205 : Int64))) (2 : Int32)) &&& (3689348814741910323 : Int64))) (4 : Int32))) &&& (1085102592571150095 : Int64)) (8 : Int32))) + (xushr ((((((l0 - ((xushr l0 (1 : Int32)) &&& (6148914691236517205 : Int64))) &&& (3689348814741910323 : Int64)) + ((xushr (l0 - ((xushr l0 (1 : Int32)) &&& (6148914691236517205 : Int64))) (2 : Int32)) &&& (3689348814741910323 : Int64))) + (xushr (((l0 - ((xushr l0 (1 : Int32)) &&& (6148914691236517205 : Int64))) &&& (3689348814741910323 : Int64)) + ((xushr (l0 - ((xushr l0 (1 : Int32)) &&& (6148914691236517205 : Int64))) (2 : Int32)) &&& (3689348814741910323 : Int64))) (4 : Int32))) &&& (1085102592571150095 : Int64)) + (xushr (((((l0 - ((xushr l0 (1 : Int32)) &&& (6148914691236517205 : Int64))) &&& (3689348814741910323 : Int64)) + ((xushr (l0 - ((xushr l0 (1 : Int32)) &&& (6148914691236517205 : Int64))) (2 : Int32)) &&& (3689348814741910323 : Int64))) + (xushr (((l0 - ((xushr l0 (1 : Int32)) &&& (6148914691236517205 : Int64))) &&& (3689348814741910323 : Int64)) + ((xushr (l0 - ((xushr l0 (1 : Int32)) &&& (6148914691236517205 : Int64))) (2 : Int32)) &&& (3689348814741910323 : Int64))) (4 : Int32))) &&& (1085102592571150095 : Int64)) (8 : Int32))) (16 : Int32))))]) dJ13_bitCount_95d88_47 [0] (by decide) rfl ?_
  refine x_lload_n dJ13_bitCount_95d88_48 rfl ?_
  refine x_lload_n dJ13_bitCount_95d88_49 rfl ?_
  refine x_bipush (v := 32) dJ13_bitCount_95d88_50 (by decide) ?_
  refine x_lushr dJ13_bitCount_95d88_52 ?_
  refine x_ladd dJ13_bitCount_95d88_53 ?_
  refine x_lstore_n (lv' := [(0, .long ((((((((l0 - ((xushr l0 (1 : Int32)) &&& (6148914691236517205 : Int64))) &&& (3689348814741910323 : Int64)) + ((xushr (l0 - ((xushr l0 (1 : Int32)) &&& (6148914691236517205 : Int64))) (2 : Int32)) &&& (3689348814741910323 : Int64))) + (xushr (((l0 - ((xushr l0 (1 : Int32)) &&& (6148914691236517205 : Int64))) &&& (3689348814741910323 : Int64)) + ((xushr (l0 - ((xushr l0 (1 : Int32)) &&& (6148914691236517205 : Int64))) (2 : Int32)) &&& (3689348814741910323 : Int64))) (4 : Int32))) &&& (1085102592571150095 : Int64)) + (xushr (((((l0 - ((xushr l0 (1 : Int32)) &&& (6148914691236517205 : Int64))) &&& (3689348814741910323 : Int64)) + ((xushr (l0 - ((xushr l0 (1 : Int32)) &&& (6148914691236517205 : Int64))) (2 : Int32)) &&& (3689348814741910323 : Int64))) + (xushr (((l0 - ((xushr l0 (1 : Int32)) &&& (6148914691236517205 : Int64))) &&& (3689348814741910323 : Int64)) + ((xushr (l0 - ((xushr l0 (1 : Int32)) &&& (6148914691236517205 : Int64))) (2 : Int32)) &&& (3689348814741910323 : Int64))) (4 : Int32))) &&& (1085102592571150095 : Int64)) (8 : Int32))) + (xushr ((((((l0 - ((xushr l0 (1 : Int32)) &&& (6148914691236517205 : Int64))) &&& (3689348814741910323 : Int64)) + ((xushr (l0 - ((xushr l0 (1 : Int32)) &&& (6148914691236517205 : Int64))) (2 : Int32)) &&& (3689348814741910323 : Int64))) + (xushr (((l0 - ((xushr l0 (1 : Int32)) &&& (6148914691236517205 : Int64))) &&& (3689348814741910323 : Int64)) + ((xushr (l0 - ((xushr l0 (1 : Int32)) &&& (6148914691236517205 : Int64))) (2 : Int32)) &&& (3689348814741910323 : Int64))) (4 : Int32))) &&& (1085102592571150095 : Int64)) + (xushr (((((l0 - ((xushr l0 (1 : Int32)) &&& (6148914691236517205 : Int64))) &&& (3689348814741910323 : Int64)) + ((xushr (l0 - ((xushr l0 (1 : Int32)) &&& (6148914691236517205 : Int64))) (2 : Int32)) &&& (3689348814741910323 : Int64))) + (xushr (((l0 - ((xushr l0 (1 : Int32)) &&& (6148914691236517205 : Int64))) &&& (3689348814741910323 : Int64)) + ((xushr (l0 - ((xushr l0 (1 : Int32)) &&& (6148914691236517205 : Int64))) (2 : Int32)) &&& (3689348814741910323 : Int64))) (4 : Int32))) &&& (1085102592571150095 : Int64)) (8 : Int32))) (16 : Int32))) + (xushr (((((((l0 - ((xushr l0 (1 : Int32)) &&& (6148914691236517205 : Int64))) &&& (3689348814741910323 : Int64)) + ((xushr (l0 - ((xushr l0 (1 : Int32)) &&& (6148914691236517205 : Int64))) (2 : Int32)) &&& (3689348814741910323 : Int64))) + (xushr (((l0 - ((xushr l0 (1 : Int32)) &&& (6148914691236517205 : Int64))) &&& (3689348814741910323 : Int64)) + ((xushr (l0 - ((xushr l0 (1 : Int32)) &&& (6148914691236517205 : Int64))) (2 : Int32)) &&& (3689348814741910323 : Int64))) (4 : Int32))) &&& (1085102592571150095 : Int64)) + (xushr (((((l0 - ((xushr l0 (1 : Int32)) &&& (6148914691236517205 : Int64))) &&& (3689348814741910323 : Int64)) + ((xushr (l0 - ((xushr l0 (1 : Int32)) &&& (6148914691236517205 : Int64))) (2 : Int32)) &&& (3689348814741910323 : Int64))) + (xushr (((l0 - ((xushr l0 (1 : Int32)) &&& (6148914691236517205 : Int64))) &&& (3689348814741910323 : Int64)) + ((xushr (l0 - ((xushr l0 (1 : Int32)) &&& (6148914691236517205 : Int64))) (2 : Int32)) &&& (3689348814741910323 : Int64))) (4 : Int32))) &&& (1085102592571150095 : Int64)) (8 : Int32))) + (xushr ((((((l0 - ((xushr l0 (1 : Int32)) &&& (6148914691236517205 : Int64))) &&& (3689348814741910323 : Int64)) + ((xushr (l0 - ((xushr l0 (1 : Int32)) &&& (6148914691236517205 : Int64))) (2 : Int32)) &&& (3689348814741910323 : Int64))) + (xushr (((l0 - ((xushr l0 (1 : Int32)) &&& (6148914691236517205 : Int64))) &&& (3689348814741910323 : Int64)) + ((xushr (l0 - ((xushr l0 (1 : Int32)) &&& (6148914691236517205 : Int64))) (2 : Int32)) &&& (3689348814741910323 : Int64))) (4 : Int32))) &&& (1085102592571150095 : Int64)) + (xushr (((((l0 - ((xushr l0 (1 : Int32)) &&& (6148914691236517205 : Int64))) &&& (3689348814741910323 : Int64)) + ((xushr (l0 - ((xushr l0 (1 : Int32)) &&& (6148914691236517205 : Int64))) (2 : Int32)) &&& (3689348814741910323 : Int64))) + (xushr (((l0 - ((xushr l0 (1 : Int32)) &&& (6148914691236517205 : Int64))) &&& (3689348814741910323 : Int64)) + ((xushr (l0 - ((xushr l0 (1 : Int32)) &&& (6148914691236517205 : Int64))) (2 : Int32)) &&& (3689348814741910323 : Int64))) (4 : Int32))) &&& (1085102592571150095 : Int64)) (8 : Int32))) (16 : Int32))) (32 : Int32))))]) dJ13_bitCount_95d88_54 [0] (by decide) rfl ?_
  refine x_lload_n dJ13_bitCount_95d88_55 rfl ?_
  refine x_l2i dJ13_bitCount_95d88_56 ?_
  refine x_bipush (v := 127) dJ13_bitCount_95d88_57 (by decide) ?_
  refine x_iand dJ13_bitCount_95d88_59 ?_
  exact x_iret dJ13_bitCount_95d88_60 rfl (by cases hf; exact hR)
theorem c_J13_bitCount_95d88 {E : xE} {d : Nat} (hd : 1 ≤ d) (l0 : Int64) (m : xMem) (out : Int32 × xMem) (h : F_J13_bitCount_95d88 l0 m = some out) : xCi E mJ13_bitCount_95d88 d [.long l0] m out.1 out.2 :=
  x_enterF (by decide +kernel) (Nat.le_of_ble_eq_true rfl) (pF_J13_bitCount_95d88 hd (Q := _) out ⟨rfl, rfl⟩ l0 m h)
-- X9_number
def F_X9_number (x1 : Int32) (x2 : Int32) (m : xMem) : Option (Int32 × xMem) :=
  (F_X2_has (x1) m).bind fun q_1 => (
  if q_1.1 = 0 then (
    some ((-1 : Int32), q_1.2))
  else (
    (F_X9_within (x2) ((99 : Int32)) q_1.2).bind fun q_2 => (
    if q_2.1 = 0 then (
      some ((-1 : Int32), q_2.2))
    else (
      if xin x1 60 = true then (
      (F_X9_linesKept (q_2.2.1 ag_facts_place x1.toNatClampNeg) (x2) q_2.2).bind fun q_4 => (
      if (lg_cmp (q_4.1 &&& ((1 : Int64) <<< (x1.toInt64 &&& 63))) (0 : Int64)) = 0 then (
        some ((0 : Int32), q_4.2))
      else (
        (F_J13_bitCount_95d88 (q_4.1 &&& (((2 : Int64) <<< (x1.toInt64 &&& 63)) - (1 : Int64))) q_4.2).bind fun q_5 => (
        some (q_5.1, q_5.2)))))
      else none))))
set_option maxHeartbeats 4000000 in
set_option maxRecDepth 100000 in
theorem pF_X9_number {E : xE} {d : Nat} {Q : Option Value → xS → Prop} (hd : 4 ≤ d) (out : Int32 × xMem) (hR : Q (some (.int out.1)) (xf E out.2)) (x1 : Int32) (x2 : Int32) (m : xMem) (hf : F_X9_number x1 x2 m = some out) : xX E mX9_number d 0 0 0 0 Q 0 [(0, .ref (xB E + 0)), (1, .int (x1)), (2, .int (x2))] [] (xf E m) := by
  unfold F_X9_number at hf
  refine x_aload_n dX9_number_0 rfl ?_
  refine f_getR (b := 1) dX9_number_1 xcl_9 (by decide) fl_RX9_12 (by decide) sh_0 rfl ?_
  refine x_iload_n dX9_number_4 rfl ?_
  obtain ⟨q_1, hq_1, hf⟩ := Option.bind_eq_some_iff.mp hf
  refine f_cVi mX2_has [.int (x1)] [] dX9_number_5 cs_RX9_107 ⟨w_414, w_1⟩ (ci := 2) rfl (by decide) sh_1 rfl rfl (Nat.le_of_ble_eq_true rfl) (by omega) (c_X2_has (d := d - 1) (by omega) (x1) m q_1 hq_1) ?_
  refine x_if_eq 20 dX9_number_8 (by decide) (fun hc => ?_) (fun hc => ?_)
  · replace hf := x_ift hc hf
    refine x_iconst (v := (-1)) dX9_number_20 (by decide) ?_
    exact x_iret dX9_number_21 rfl (by cases hf; exact hR)
  · replace hf := x_iff hc hf
    refine x_iload_n dX9_number_11 rfl ?_
    refine x_bipush (v := 99) dX9_number_12 (by decide) ?_
    obtain ⟨q_2, hq_2, hf⟩ := Option.bind_eq_some_iff.mp hf
    refine f_cSi mX9_within [.int (x2), .int ((99 : Int32))] [] dX9_number_14 cs_RX9_82 w_389 rfl rfl (Nat.le_of_ble_eq_true rfl) (by omega) (c_X9_within (d := d - 1) (by omega) (x2) ((99 : Int32)) q_1.2 q_2 hq_2) ?_
    refine x_if_ne 22 dX9_number_17 (by decide) (fun hc => ?_) (fun hc => ?_)
    · replace hf := x_iff hc hf
      refine x_aload_n dX9_number_22 rfl ?_
      refine x_aload_n dX9_number_23 rfl ?_
      refine f_getR (b := 1) dX9_number_24 xcl_9 (by decide) fl_RX9_12 (by decide) sh_0 rfl ?_
      refine f_getR (b := 3) dX9_number_27 xcl_2 (by decide) fl_RX9_194 (by decide) sh_1 rfl ?_
      refine x_iload_n dX9_number_30 rfl ?_
      have hg_3 := x_gd hf
      replace hf := hg_3.2
      refine f_iald dX9_number_31 (by decide) sh_3 hg_3.1 ?_
      refine x_iload_n dX9_number_32 rfl ?_
      obtain ⟨q_4, hq_4, hf⟩ := Option.bind_eq_some_iff.mp hf
      refine f_cVl mX9_linesKept [.int (q_2.2.1 ag_facts_place x1.toNatClampNeg), .int (x2)] [] dX9_number_33 cs_RX9_197 ⟨w_793, w_52⟩ (ci := 9) rfl (by decide) sh_0 rfl rfl (Nat.le_of_ble_eq_true rfl) (by omega) (c_X9_linesKept (d := d - 1) (by omega) (q_2.2.1 ag_facts_place x1.toNatClampNeg) (x2) q_2.2 q_4 hq_4) ?_
      refine x_lstore_n (lv' := [(1, .int (x1)), (3, .long (q_4.1))]) dX9_number_36 [2, 0] (by decide) rfl ?_
      refine x_lload_n dX9_number_37 rfl ?_
      refine x_lconst (v := 1) dX9_number_38 (by decide) ?_
      refine x_iload_n dX9_number_39 rfl ?_
      refine x_lshl dX9_number_40 ?_
      refine x_land dX9_number_41 ?_
      refine x_lconst (v := 0) dX9_number_42 (by decide) ?_
      refine x_lcmp dX9_number_43 ?_
      refine x_if_ne 49 dX9_number_44 (by decide) (fun hc => ?_) (fun hc => ?_)
      · replace hf := x_iff hc hf
        refine x_ldc2 (v := 2) dX9_number_49 w_795 ?_
        refine x_iload_n dX9_number_52 rfl ?_
        refine x_lshl dX9_number_53 ?_
        refine x_lconst (v := 1) dX9_number_54 (by decide) ?_
        refine x_lsub dX9_number_55 ?_
        refine x_lstore (lv' := [(3, .long (q_4.1)), (5, .long (((2 : Int64) <<< (x1.toInt64 &&& 63)) - (1 : Int64)))]) dX9_number_56 [2, 0] (by decide) rfl ?_
        refine x_lload_n dX9_number_58 rfl ?_
        refine x_lload dX9_number_59 rfl ?_
        refine x_land dX9_number_61 ?_
        obtain ⟨q_5, hq_5, hf⟩ := Option.bind_eq_some_iff.mp hf
        refine f_cSi mJ13_bitCount_95d88 [.long (q_4.1 &&& (((2 : Int64) <<< (x1.toInt64 &&& 63)) - (1 : Int64)))] [] dX9_number_62 cs_RX9_203 w_797 rfl rfl (Nat.le_of_ble_eq_true rfl) (by omega) (c_J13_bitCount_95d88 (d := d - 1) (by omega) (q_4.1 &&& (((2 : Int64) <<< (x1.toInt64 &&& 63)) - (1 : Int64))) q_4.2 q_5 hq_5) ?_
        exact x_iret dX9_number_65 rfl (by cases hf; exact hR)
      · replace hf := x_ift hc hf
        refine x_iconst (v := 0) dX9_number_47 (by decide) ?_
        exact x_iret dX9_number_48 rfl (by cases hf; exact hR)
    · replace hf := x_ift hc hf
      refine x_iconst (v := (-1)) dX9_number_20 (by decide) ?_
      exact x_iret dX9_number_21 rfl (by cases hf; exact hR)
theorem c_X9_number {E : xE} {d : Nat} (hd : 4 ≤ d) (x1 : Int32) (x2 : Int32) (m : xMem) (out : Int32 × xMem) (h : F_X9_number x1 x2 m = some out) : xCi E mX9_number d [.ref (xB E + 0), .int x1, .int x2] m out.1 out.2 :=
  x_enter (by decide +kernel) (Nat.le_of_ble_eq_true rfl) (pF_X9_number hd (Q := _) out ⟨rfl, rfl⟩ x1 x2 m h)
-- X10_isWith
def J_X10_isWith_114 (m : xMem) : Option (Int32 × xMem) :=
  some ((1 : Int32), m)
def F_X10_isWith (x1 : Int32) (x2 : Int32) (m : xMem) : Option (Int32 × xMem) :=
  if xin x1 60 = true then (
  if xin (m.1 am_onPage x1.toNatClampNeg) 60 = true then (
  if (m.1 am_lengths (m.1 am_onPage x1.toNatClampNeg).toNatClampNeg) ≤ x2 then (
    if xin (m.1 am_onPage x1.toNatClampNeg) 60 = true then (
    if xin (m.1 am_onPage x1.toNatClampNeg) 60 = true then (
    if xin ((((100 : Int32) * (x1 + (1 : Int32))) + x2) - (m.1 am_lengths (m.1 am_onPage x1.toNatClampNeg).toNatClampNeg)) 6100 = true then (
    if xin (m.1 am_onPage x1.toNatClampNeg) 60 = true then (
    if xin ((((100 : Int32) * (x1 + (1 : Int32))) + x2) - (m.1 am_lengths (m.1 am_onPage x1.toNatClampNeg).toNatClampNeg)) 6100 = true then (
    if xin (((100 : Int32) * (x1 + (1 : Int32))) + x2) 6100 = true then (
    if (m.1 am_most (((100 : Int32) * (x1 + (1 : Int32))) + x2).toNatClampNeg) < ((m.1 am_worths (m.1 am_onPage x1.toNatClampNeg).toNatClampNeg) + (m.1 am_most ((((100 : Int32) * (x1 + (1 : Int32))) + x2) - (m.1 am_lengths (m.1 am_onPage x1.toNatClampNeg).toNatClampNeg)).toNatClampNeg)) then (
      J_X10_isWith_114 m)
    else (
      if xin (((100 : Int32) * (x1 + (1 : Int32))) + x2) 6100 = true then (
      if ((m.1 am_worths (m.1 am_onPage x1.toNatClampNeg).toNatClampNeg) + (m.1 am_most ((((100 : Int32) * (x1 + (1 : Int32))) + x2) - (m.1 am_lengths (m.1 am_onPage x1.toNatClampNeg).toNatClampNeg)).toNatClampNeg)) = (m.1 am_most (((100 : Int32) * (x1 + (1 : Int32))) + x2).toNatClampNeg) then (
        if xin (((100 : Int32) * (x1 + (1 : Int32))) + x2) 6100 = true then (
        if (m.1 am_used (((100 : Int32) * (x1 + (1 : Int32))) + x2).toNatClampNeg) < ((m.1 am_lengths (m.1 am_onPage x1.toNatClampNeg).toNatClampNeg) + (m.1 am_used ((((100 : Int32) * (x1 + (1 : Int32))) + x2) - (m.1 am_lengths (m.1 am_onPage x1.toNatClampNeg).toNatClampNeg)).toNatClampNeg)) then (
          some ((0 : Int32), m))
        else (
          J_X10_isWith_114 m))
        else none)
      else (
        some ((0 : Int32), m)))
      else none))
    else none)
    else none)
    else none)
    else none)
    else none)
    else none)
  else (
    some ((0 : Int32), m)))
  else none)
  else none
set_option maxHeartbeats 4000000 in
set_option maxRecDepth 100000 in
theorem pJ_X10_isWith_114 {E : xE} {d : Nat} {Q : Option Value → xS → Prop} (hd : 1 ≤ d) (out : Int32 × xMem) (hR : Q (some (.int out.1)) (xf E out.2)) (m : xMem) (hf : J_X10_isWith_114 m = some out) : xX E mX10_isWith d 0 0 0 0 Q 114 [] [] (xf E m) := by
  unfold J_X10_isWith_114 at hf
  refine x_iconst (v := 1) dX10_isWith_114 (by decide) ?_
  refine x_goto 119 dX10_isWith_115 (by decide) ?_
  exact x_zret dX10_isWith_119 rfl (by decide) (by cases hf; exact hR)
set_option maxHeartbeats 4000000 in
set_option maxRecDepth 100000 in
theorem pF_X10_isWith {E : xE} {d : Nat} {Q : Option Value → xS → Prop} (hd : 1 ≤ d) (out : Int32 × xMem) (hR : Q (some (.int out.1)) (xf E out.2)) (x1 : Int32) (x2 : Int32) (m : xMem) (hf : F_X10_isWith x1 x2 m = some out) : xX E mX10_isWith d 0 0 0 0 Q 0 [(0, .ref (xB E + 87)), (1, .int (x1)), (2, .int (x2))] [] (xf E m) := by
  unfold F_X10_isWith at hf
  refine x_aload_n dX10_isWith_0 rfl ?_
  refine f_getR (b := 119) dX10_isWith_1 xcl_10 (by decide) fl_RX10_134 (by decide) sh_87 rfl ?_
  refine x_iload_n dX10_isWith_4 rfl ?_
  have hg_1 := x_gd hf
  replace hf := hg_1.2
  refine f_iald dX10_isWith_5 (by decide) sh_119 hg_1.1 ?_
  refine x_istore_n (lv' := [(0, .ref (xB E + 87)), (1, .int (x1)), (2, .int (x2)), (3, .int (m.1 am_onPage x1.toNatClampNeg))]) dX10_isWith_6 [1, 2, 3, 0] (by decide) rfl ?_
  refine x_aload_n dX10_isWith_7 rfl ?_
  refine f_getR (b := 107) dX10_isWith_8 xcl_10 (by decide) fl_RX10_97 (by decide) sh_87 rfl ?_
  refine x_iload_n dX10_isWith_11 rfl ?_
  have hg_2 := x_gd hf
  replace hf := hg_2.2
  refine f_iald dX10_isWith_12 (by decide) sh_107 hg_2.1 ?_
  refine x_iload_n dX10_isWith_13 rfl ?_
  refine x_icmp_le 19 dX10_isWith_14 (by decide) (fun hc => ?_) (fun hc => ?_)
  · replace hf := x_ift hc hf
    refine x_bipush (v := 100) dX10_isWith_19 (by decide) ?_
    refine x_iload_n dX10_isWith_21 rfl ?_
    refine x_iconst (v := 1) dX10_isWith_22 (by decide) ?_
    refine x_iadd dX10_isWith_23 ?_
    refine x_imul dX10_isWith_24 ?_
    refine x_iload_n dX10_isWith_25 rfl ?_
    refine x_iadd dX10_isWith_26 ?_
    refine x_aload_n dX10_isWith_27 rfl ?_
    refine f_getR (b := 107) dX10_isWith_28 xcl_10 (by decide) fl_RX10_97 (by decide) sh_87 rfl ?_
    refine x_iload_n dX10_isWith_31 rfl ?_
    have hg_3 := x_gd hf
    replace hf := hg_3.2
    refine f_iald dX10_isWith_32 (by decide) sh_107 hg_3.1 ?_
    refine x_isub dX10_isWith_33 ?_
    refine x_istore (lv' := [(0, .ref (xB E + 87)), (1, .int (x1)), (2, .int (x2)), (3, .int (m.1 am_onPage x1.toNatClampNeg)), (4, .int ((((100 : Int32) * (x1 + (1 : Int32))) + x2) - (m.1 am_lengths (m.1 am_onPage x1.toNatClampNeg).toNatClampNeg)))]) dX10_isWith_34 [1, 2, 3, 4, 0] (by decide) rfl ?_
    refine x_bipush (v := 100) dX10_isWith_36 (by decide) ?_
    refine x_iload_n dX10_isWith_38 rfl ?_
    refine x_iconst (v := 1) dX10_isWith_39 (by decide) ?_
    refine x_iadd dX10_isWith_40 ?_
    refine x_imul dX10_isWith_41 ?_
    refine x_iload_n dX10_isWith_42 rfl ?_
    refine x_iadd dX10_isWith_43 ?_
    refine x_istore (lv' := [(0, .ref (xB E + 87)), (3, .int (m.1 am_onPage x1.toNatClampNeg)), (4, .int ((((100 : Int32) * (x1 + (1 : Int32))) + x2) - (m.1 am_lengths (m.1 am_onPage x1.toNatClampNeg).toNatClampNeg))), (5, .int (((100 : Int32) * (x1 + (1 : Int32))) + x2))]) dX10_isWith_44 [1, 4, 5, 0] (by decide) rfl ?_
    refine x_aload_n dX10_isWith_46 rfl ?_
    refine f_getR (b := 108) dX10_isWith_47 xcl_10 (by decide) fl_RX10_100 (by decide) sh_87 rfl ?_
    refine x_iload_n dX10_isWith_50 rfl ?_
    have hg_4 := x_gd hf
    replace hf := hg_4.2
    refine f_iald dX10_isWith_51 (by decide) sh_108 hg_4.1 ?_
    refine x_aload_n dX10_isWith_52 rfl ?_
    refine f_getR (b := 120) dX10_isWith_53 xcl_10 (by decide) fl_RX10_137 (by decide) sh_87 rfl ?_
    refine x_iload dX10_isWith_56 rfl ?_
    have hg_5 := x_gd hf
    replace hf := hg_5.2
    refine f_iald dX10_isWith_58 (by decide) sh_120 hg_5.1 ?_
    refine x_iadd dX10_isWith_59 ?_
    refine x_istore (lv' := [(0, .ref (xB E + 87)), (3, .int (m.1 am_onPage x1.toNatClampNeg)), (4, .int ((((100 : Int32) * (x1 + (1 : Int32))) + x2) - (m.1 am_lengths (m.1 am_onPage x1.toNatClampNeg).toNatClampNeg))), (5, .int (((100 : Int32) * (x1 + (1 : Int32))) + x2)), (6, .int ((m.1 am_worths (m.1 am_onPage x1.toNatClampNeg).toNatClampNeg) + (m.1 am_most ((((100 : Int32) * (x1 + (1 : Int32))) + x2) - (m.1 am_lengths (m.1 am_onPage x1.toNatClampNeg).toNatClampNeg)).toNatClampNeg)))]) dX10_isWith_60 [1, 2, 3, 4, 0] (by decide) rfl ?_
    refine x_aload_n dX10_isWith_62 rfl ?_
    refine f_getR (b := 107) dX10_isWith_63 xcl_10 (by decide) fl_RX10_97 (by decide) sh_87 rfl ?_
    refine x_iload_n dX10_isWith_66 rfl ?_
    have hg_6 := x_gd hf
    replace hf := hg_6.2
    refine f_iald dX10_isWith_67 (by decide) sh_107 hg_6.1 ?_
    refine x_aload_n dX10_isWith_68 rfl ?_
    refine f_getR (b := 121) dX10_isWith_69 xcl_10 (by decide) fl_RX10_140 (by decide) sh_87 rfl ?_
    refine x_iload dX10_isWith_72 rfl ?_
    have hg_7 := x_gd hf
    replace hf := hg_7.2
    refine f_iald dX10_isWith_74 (by decide) sh_121 hg_7.1 ?_
    refine x_iadd dX10_isWith_75 ?_
    refine x_istore (lv' := [(0, .ref (xB E + 87)), (5, .int (((100 : Int32) * (x1 + (1 : Int32))) + x2)), (6, .int ((m.1 am_worths (m.1 am_onPage x1.toNatClampNeg).toNatClampNeg) + (m.1 am_most ((((100 : Int32) * (x1 + (1 : Int32))) + x2) - (m.1 am_lengths (m.1 am_onPage x1.toNatClampNeg).toNatClampNeg)).toNatClampNeg))), (7, .int ((m.1 am_lengths (m.1 am_onPage x1.toNatClampNeg).toNatClampNeg) + (m.1 am_used ((((100 : Int32) * (x1 + (1 : Int32))) + x2) - (m.1 am_lengths (m.1 am_onPage x1.toNatClampNeg).toNatClampNeg)).toNatClampNeg)))]) dX10_isWith_76 [1, 4, 5, 0] (by decide) rfl ?_
    refine x_iload dX10_isWith_78 rfl ?_
    refine x_aload_n dX10_isWith_80 rfl ?_
    refine f_getR (b := 120) dX10_isWith_81 xcl_10 (by decide) fl_RX10_137 (by decide) sh_87 rfl ?_
    refine x_iload dX10_isWith_84 rfl ?_
    have hg_8 := x_gd hf
    replace hf := hg_8.2
    refine f_iald dX10_isWith_86 (by decide) sh_120 hg_8.1 ?_
    refine x_icmp_gt 114 dX10_isWith_87 (by decide) (fun hc => ?_) (fun hc => ?_)
    · replace hf := x_ift hc hf
      refine x_lv (lv' := []) [] rfl ?_
      exact pJ_X10_isWith_114 hd out hR _ hf
    · replace hf := x_iff hc hf
      refine x_iload dX10_isWith_90 rfl ?_
      refine x_aload_n dX10_isWith_92 rfl ?_
      refine f_getR (b := 120) dX10_isWith_93 xcl_10 (by decide) fl_RX10_137 (by decide) sh_87 rfl ?_
      refine x_iload dX10_isWith_96 rfl ?_
      have hg_9 := x_gd hf
      replace hf := hg_9.2
      refine f_iald dX10_isWith_98 (by decide) sh_120 hg_9.1 ?_
      refine x_icmp_ne 118 dX10_isWith_99 (by decide) (fun hc => ?_) (fun hc => ?_)
      · replace hf := x_iff hc hf
        refine x_iconst (v := 0) dX10_isWith_118 (by decide) ?_
        exact x_zret dX10_isWith_119 rfl (by decide) (by cases hf; exact hR)
      · replace hf := x_ift hc hf
        refine x_iload dX10_isWith_102 rfl ?_
        refine x_aload_n dX10_isWith_104 rfl ?_
        refine f_getR (b := 121) dX10_isWith_105 xcl_10 (by decide) fl_RX10_140 (by decide) sh_87 rfl ?_
        refine x_iload dX10_isWith_108 rfl ?_
        have hg_10 := x_gd hf
        replace hf := hg_10.2
        refine f_iald dX10_isWith_110 (by decide) sh_121 hg_10.1 ?_
        refine x_icmp_gt 118 dX10_isWith_111 (by decide) (fun hc => ?_) (fun hc => ?_)
        · replace hf := x_ift hc hf
          refine x_iconst (v := 0) dX10_isWith_118 (by decide) ?_
          exact x_zret dX10_isWith_119 rfl (by decide) (by cases hf; exact hR)
        · replace hf := x_iff hc hf
          refine x_lv (lv' := []) [] rfl ?_
          exact pJ_X10_isWith_114 hd out hR _ hf
  · replace hf := x_iff hc hf
    refine x_iconst (v := 0) dX10_isWith_17 (by decide) ?_
    exact x_zret dX10_isWith_18 rfl (by decide) (by cases hf; exact hR)
theorem c_X10_isWith {E : xE} {d : Nat} (hd : 1 ≤ d) (x1 : Int32) (x2 : Int32) (m : xMem) (out : Int32 × xMem) (h : F_X10_isWith x1 x2 m = some out) : xCi E mX10_isWith d [.ref (xB E + 87), .int x1, .int x2] m out.1 out.2 :=
  x_enter (by decide +kernel) (Nat.le_of_ble_eq_true rfl) (pF_X10_isWith hd (Q := _) out ⟨rfl, rfl⟩ x1 x2 m h)
-- X10_laysOut
def J_X10_laysOut_45 (rec : Int32 → xMem → Option (Int32 × xMem)) (c51 : xMem → Option (Int32 × xMem)) (x1 : Int32) (x2 : Int32) (m : xMem) : Option (Int32 × xMem) :=
  rec (x2 + 1) m
def L_X10_laysOut_7 (x1 : Int32) (c51 : xMem → Option (Int32 × xMem)) : Nat → Int32 → xMem → Option (Int32 × xMem)
  | 0, _, _ => none
  | fk + 1, x2, m =>
    if (m.1 am fGuideBookModel_facts) ≤ x2 then (
      c51 m)
    else (
      if xin x2 60 = true then (
      if (m.1 am_placeOf x2.toNatClampNeg) = x1 then (
        if xin (m.1 am fGuideBookModel_many) 60 = true then (
        J_X10_laysOut_45 (fun y_3 m_4 => L_X10_laysOut_7 x1 c51 fk y_3 m_4) c51 (x1) (x2) (xst (xst m.1 am_onPage (m.1 am fGuideBookModel_many).toNatClampNeg x2) am fGuideBookModel_many (((xst m.1 am_onPage (m.1 am fGuideBookModel_many).toNatClampNeg x2) am fGuideBookModel_many) + (1 : Int32)), m.2))
        else none)
      else (
        J_X10_laysOut_45 (fun y_5 m_6 => L_X10_laysOut_7 x1 c51 fk y_5 m_6) c51 (x1) (x2) m))
      else none)
def J_X10_laysOut_245 (rec : Int32 → xMem → Option (Int32 × xMem)) (c251 : xMem → Option (Int32 × xMem)) (x2 : Int32) (x3 : Int32) (m : xMem) : Option (Int32 × xMem) :=
  rec (x3 + 1) m
def L_X10_laysOut_62 (x2 : Int32) (c251 : xMem → Option (Int32 × xMem)) : Nat → Int32 → xMem → Option (Int32 × xMem)
  | 0, _, _ => none
  | fk + 1, x3, m =>
    if (100 : Int32) ≤ x3 then (
      c251 m)
    else (
      if xin (((100 : Int32) * x2) + x3) 6100 = true then (
      if xin (((100 : Int32) * x2) + x3) 6100 = true then (
      if ((xst (xst m.1 am_most (((100 : Int32) * x2) + x3).toNatClampNeg (0 : Int32)) am_used (((100 : Int32) * x2) + x3).toNatClampNeg (0 : Int32)) am fGuideBookModel_many) ≤ x2 then (
        J_X10_laysOut_245 (fun y_24 m_25 => L_X10_laysOut_62 x2 c251 fk y_24 m_25) c251 (x2) (x3) (xst (xst m.1 am_most (((100 : Int32) * x2) + x3).toNatClampNeg (0 : Int32)) am_used (((100 : Int32) * x2) + x3).toNatClampNeg (0 : Int32), m.2))
      else (
        if xin (((100 : Int32) * (x2 + (1 : Int32))) + x3) 6100 = true then (
        if xin (((100 : Int32) * x2) + x3) 6100 = true then (
        if xin (((100 : Int32) * (x2 + (1 : Int32))) + x3) 6100 = true then (
        if xin (((100 : Int32) * x2) + x3) 6100 = true then (
        (F_X10_isWith (x2) (x3) (xst (xst (xst (xst m.1 am_most (((100 : Int32) * x2) + x3).toNatClampNeg (0 : Int32)) am_used (((100 : Int32) * x2) + x3).toNatClampNeg (0 : Int32)) am_most (((100 : Int32) * x2) + x3).toNatClampNeg ((xst (xst m.1 am_most (((100 : Int32) * x2) + x3).toNatClampNeg (0 : Int32)) am_used (((100 : Int32) * x2) + x3).toNatClampNeg (0 : Int32)) am_most (((100 : Int32) * (x2 + (1 : Int32))) + x3).toNatClampNeg)) am_used (((100 : Int32) * x2) + x3).toNatClampNeg ((xst (xst (xst m.1 am_most (((100 : Int32) * x2) + x3).toNatClampNeg (0 : Int32)) am_used (((100 : Int32) * x2) + x3).toNatClampNeg (0 : Int32)) am_most (((100 : Int32) * x2) + x3).toNatClampNeg ((xst (xst m.1 am_most (((100 : Int32) * x2) + x3).toNatClampNeg (0 : Int32)) am_used (((100 : Int32) * x2) + x3).toNatClampNeg (0 : Int32)) am_most (((100 : Int32) * (x2 + (1 : Int32))) + x3).toNatClampNeg)) am_used (((100 : Int32) * (x2 + (1 : Int32))) + x3).toNatClampNeg), m.2)).bind fun q_14 => (
        if q_14.1 = 0 then (
          J_X10_laysOut_245 (fun y_26 m_27 => L_X10_laysOut_62 x2 c251 fk y_26 m_27) c251 (x2) (x3) q_14.2)
        else (
          if xin x2 60 = true then (
          if xin (q_14.2.1 am_onPage x2.toNatClampNeg) 60 = true then (
          if xin (q_14.2.1 am_onPage x2.toNatClampNeg) 60 = true then (
          if xin ((((100 : Int32) * (x2 + (1 : Int32))) + x3) - (q_14.2.1 am_lengths (q_14.2.1 am_onPage x2.toNatClampNeg).toNatClampNeg)) 6100 = true then (
          if xin (((100 : Int32) * x2) + x3) 6100 = true then (
          if xin (q_14.2.1 am_onPage x2.toNatClampNeg) 60 = true then (
          if xin (q_14.2.1 am_onPage x2.toNatClampNeg) 60 = true then (
          if xin ((((100 : Int32) * (x2 + (1 : Int32))) + x3) - ((xst q_14.2.1 am_most (((100 : Int32) * x2) + x3).toNatClampNeg ((q_14.2.1 am_worths (q_14.2.1 am_onPage x2.toNatClampNeg).toNatClampNeg) + (q_14.2.1 am_most ((((100 : Int32) * (x2 + (1 : Int32))) + x3) - (q_14.2.1 am_lengths (q_14.2.1 am_onPage x2.toNatClampNeg).toNatClampNeg)).toNatClampNeg))) am_lengths (q_14.2.1 am_onPage x2.toNatClampNeg).toNatClampNeg)) 6100 = true then (
          if xin (((100 : Int32) * x2) + x3) 6100 = true then (
          J_X10_laysOut_245 (fun y_28 m_29 => L_X10_laysOut_62 x2 c251 fk y_28 m_29) c251 (x2) (x3) (xst (xst q_14.2.1 am_most (((100 : Int32) * x2) + x3).toNatClampNeg ((q_14.2.1 am_worths (q_14.2.1 am_onPage x2.toNatClampNeg).toNatClampNeg) + (q_14.2.1 am_most ((((100 : Int32) * (x2 + (1 : Int32))) + x3) - (q_14.2.1 am_lengths (q_14.2.1 am_onPage x2.toNatClampNeg).toNatClampNeg)).toNatClampNeg))) am_used (((100 : Int32) * x2) + x3).toNatClampNeg (((xst q_14.2.1 am_most (((100 : Int32) * x2) + x3).toNatClampNeg ((q_14.2.1 am_worths (q_14.2.1 am_onPage x2.toNatClampNeg).toNatClampNeg) + (q_14.2.1 am_most ((((100 : Int32) * (x2 + (1 : Int32))) + x3) - (q_14.2.1 am_lengths (q_14.2.1 am_onPage x2.toNatClampNeg).toNatClampNeg)).toNatClampNeg))) am_lengths (q_14.2.1 am_onPage x2.toNatClampNeg).toNatClampNeg) + ((xst q_14.2.1 am_most (((100 : Int32) * x2) + x3).toNatClampNeg ((q_14.2.1 am_worths (q_14.2.1 am_onPage x2.toNatClampNeg).toNatClampNeg) + (q_14.2.1 am_most ((((100 : Int32) * (x2 + (1 : Int32))) + x3) - (q_14.2.1 am_lengths (q_14.2.1 am_onPage x2.toNatClampNeg).toNatClampNeg)).toNatClampNeg))) am_used ((((100 : Int32) * (x2 + (1 : Int32))) + x3) - ((xst q_14.2.1 am_most (((100 : Int32) * x2) + x3).toNatClampNeg ((q_14.2.1 am_worths (q_14.2.1 am_onPage x2.toNatClampNeg).toNatClampNeg) + (q_14.2.1 am_most ((((100 : Int32) * (x2 + (1 : Int32))) + x3) - (q_14.2.1 am_lengths (q_14.2.1 am_onPage x2.toNatClampNeg).toNatClampNeg)).toNatClampNeg))) am_lengths (q_14.2.1 am_onPage x2.toNatClampNeg).toNatClampNeg)).toNatClampNeg)), q_14.2.2))
          else none)
          else none)
          else none)
          else none)
          else none)
          else none)
          else none)
          else none)
          else none)))
        else none)
        else none)
        else none)
        else none))
      else none)
      else none)
def L_X10_laysOut_56 : Nat → Int32 → xMem → Option (Int32 × xMem)
  | 0, _, _ => none
  | fk + 1, x2, m =>
    if x2 < 0 then (
      some (0, m))
    else (
      L_X10_laysOut_62 (x2) (fun m_30 => (
        L_X10_laysOut_56 fk (x2 + (-1 : Int32)) m_30)) xfuel ((0 : Int32)) m)
def F_X10_laysOut (x1 : Int32) (m : xMem) : Option (Int32 × xMem) :=
  L_X10_laysOut_7 (x1) (fun m_7 => (
    L_X10_laysOut_56 xfuel (m_7.1 am fGuideBookModel_many) m_7)) xfuel ((0 : Int32)) (xst m.1 am fGuideBookModel_many (0 : Int32), m.2)
set_option maxHeartbeats 4000000 in
set_option maxRecDepth 100000 in
theorem pJ_X10_laysOut_45 {E : xE} {d : Nat} {Q : Option Value → xS → Prop} (hd : 2 ≤ d) (out : Int32 × xMem) (hR : Q none (xf E out.2)) (rec : Int32 → xMem → Option (Int32 × xMem)) (c51 : xMem → Option (Int32 × xMem)) (x1 : Int32) (x2 : Int32) (hrec : ∀ (x2 : Int32) (m : xMem), rec x2 m = some out → xX E mX10_laysOut d 0 0 0 0 Q 7 [(0, .ref (xB E + 87)), (1, .int (x1)), (2, .int (x2))] [] (xf E m)) (hc51 : ∀ (m : xMem), c51 m = some out → xX E mX10_laysOut d 0 0 0 0 Q 51 [(0, .ref (xB E + 87))] [] (xf E m)) (m : xMem) (hf : J_X10_laysOut_45 rec c51 x1 x2 m = some out) : xX E mX10_laysOut d 0 0 0 0 Q 45 [(0, .ref (xB E + 87)), (1, .int (x1)), (2, .int (x2))] [] (xf E m) := by
  unfold J_X10_laysOut_45 at hf
  refine x_iinc (v := x2 + 1) (lv' := [(0, .ref (xB E + 87)), (1, .int (x1)), (2, .int (x2 + 1))]) dX10_laysOut_45 2 [1, 2, 0] rfl rfl (by decide) rfl ?_
  refine x_goto 7 dX10_laysOut_48 (by decide) ?_
  exact hrec _ _ hf
set_option maxHeartbeats 4000000 in
set_option maxRecDepth 100000 in
theorem pL_X10_laysOut_7 {E : xE} {d : Nat} {Q : Option Value → xS → Prop} (hd : 2 ≤ d) (out : Int32 × xMem) (hR : Q none (xf E out.2)) (x1 : Int32) (c51 : xMem → Option (Int32 × xMem)) (hc51 : ∀ (m : xMem), c51 m = some out → xX E mX10_laysOut d 0 0 0 0 Q 51 [(0, .ref (xB E + 87))] [] (xf E m)) : ∀ (fk : Nat) (x2 : Int32) (m : xMem), L_X10_laysOut_7 x1 c51 fk x2 m = some out → xX E mX10_laysOut d 0 0 0 0 Q 7 [(0, .ref (xB E + 87)), (1, .int (x1)), (2, .int (x2))] [] (xf E m) := by
  intro fk
  induction fk with
  | zero => intro x2 m hf; cases hf
  | succ fk ih =>
    intro x2 m hf
    rw [L_X10_laysOut_7] at hf
    refine x_iload_n dX10_laysOut_7 rfl ?_
    refine x_aload_n dX10_laysOut_8 rfl ?_
    refine f_getI dX10_laysOut_9 xcl_10 (by decide) fl_RX10_250 (by decide) sh_87 rfl ?_
    refine x_icmp_ge 51 dX10_laysOut_12 (by decide) (fun hc => ?_) (fun hc => ?_)
    · replace hf := x_ift hc hf
      refine x_lv (lv' := [(0, .ref (xB E + 87))]) [0] rfl ?_
      exact hc51 _ hf
    · replace hf := x_iff hc hf
      refine x_aload_n dX10_laysOut_15 rfl ?_
      refine f_getR (b := 104) dX10_laysOut_16 xcl_10 (by decide) fl_RX10_88 (by decide) sh_87 rfl ?_
      refine x_iload_n dX10_laysOut_19 rfl ?_
      have hg_1 := x_gd hf
      replace hf := hg_1.2
      refine f_iald dX10_laysOut_20 (by decide) sh_104 hg_1.1 ?_
      refine x_iload_n dX10_laysOut_21 rfl ?_
      refine x_icmp_ne 45 dX10_laysOut_22 (by decide) (fun hc => ?_) (fun hc => ?_)
      · replace hf := x_iff hc hf
        exact pJ_X10_laysOut_45 hd out hR _ _ _ _ (fun y0 m9 h9 => ih y0 m9 h9) hc51 _ hf
      · replace hf := x_ift hc hf
        refine x_aload_n dX10_laysOut_25 rfl ?_
        refine f_getR (b := 119) dX10_laysOut_26 xcl_10 (by decide) fl_RX10_134 (by decide) sh_87 rfl ?_
        refine x_aload_n dX10_laysOut_29 rfl ?_
        refine f_getI dX10_laysOut_30 xcl_10 (by decide) fl_RX10_303 (by decide) sh_87 rfl ?_
        refine x_iload_n dX10_laysOut_33 rfl ?_
        have hg_2 := x_gd hf
        replace hf := hg_2.2
        refine f_iast dX10_laysOut_34 (by decide) sh_119 hg_2.1 ?_
        refine x_aload_n dX10_laysOut_35 rfl ?_
        refine x_dup dX10_laysOut_36 rfl ?_
        refine f_getI dX10_laysOut_37 xcl_10 (by decide) fl_RX10_303 (by decide) sh_87 rfl ?_
        refine x_iconst (v := 1) dX10_laysOut_40 (by decide) ?_
        refine x_iadd dX10_laysOut_41 ?_
        refine f_putI dX10_laysOut_42 xcl_10 (by decide) fl_RX10_303 rfl rfl (by decide) sh_87 rfl ?_
        exact pJ_X10_laysOut_45 hd out hR _ _ _ _ (fun y0 m9 h9 => ih y0 m9 h9) hc51 _ hf
set_option maxHeartbeats 4000000 in
set_option maxRecDepth 100000 in
theorem pJ_X10_laysOut_245 {E : xE} {d : Nat} {Q : Option Value → xS → Prop} (hd : 2 ≤ d) (out : Int32 × xMem) (hR : Q none (xf E out.2)) (rec : Int32 → xMem → Option (Int32 × xMem)) (c251 : xMem → Option (Int32 × xMem)) (x2 : Int32) (x3 : Int32) (hrec : ∀ (x3 : Int32) (m : xMem), rec x3 m = some out → xX E mX10_laysOut d 0 0 0 0 Q 62 [(0, .ref (xB E + 87)), (2, .int (x2)), (3, .int (x3))] [] (xf E m)) (hc251 : ∀ (m : xMem), c251 m = some out → xX E mX10_laysOut d 0 0 0 0 Q 251 [(0, .ref (xB E + 87)), (2, .int (x2))] [] (xf E m)) (m : xMem) (hf : J_X10_laysOut_245 rec c251 x2 x3 m = some out) : xX E mX10_laysOut d 0 0 0 0 Q 245 [(0, .ref (xB E + 87)), (2, .int (x2)), (3, .int (x3))] [] (xf E m) := by
  unfold J_X10_laysOut_245 at hf
  refine x_iinc (v := x3 + 1) (lv' := [(0, .ref (xB E + 87)), (2, .int (x2)), (3, .int (x3 + 1))]) dX10_laysOut_245 2 [1, 2, 0] rfl rfl (by decide) rfl ?_
  refine x_goto 62 dX10_laysOut_248 (by decide) ?_
  exact hrec _ _ hf
set_option maxHeartbeats 4000000 in
set_option maxRecDepth 100000 in
theorem pL_X10_laysOut_62 {E : xE} {d : Nat} {Q : Option Value → xS → Prop} (hd : 2 ≤ d) (out : Int32 × xMem) (hR : Q none (xf E out.2)) (x2 : Int32) (c251 : xMem → Option (Int32 × xMem)) (hc251 : ∀ (m : xMem), c251 m = some out → xX E mX10_laysOut d 0 0 0 0 Q 251 [(0, .ref (xB E + 87)), (2, .int (x2))] [] (xf E m)) : ∀ (fk : Nat) (x3 : Int32) (m : xMem), L_X10_laysOut_62 x2 c251 fk x3 m = some out → xX E mX10_laysOut d 0 0 0 0 Q 62 [(0, .ref (xB E + 87)), (2, .int (x2)), (3, .int (x3))] [] (xf E m) := by
  intro fk
  induction fk with
  | zero => intro x3 m hf; cases hf
  | succ fk ih =>
    intro x3 m hf
    rw [L_X10_laysOut_62] at hf
    refine x_iload_n dX10_laysOut_62 rfl ?_
    refine x_bipush (v := 100) dX10_laysOut_63 (by decide) ?_
    refine x_icmp_ge 251 dX10_laysOut_65 (by decide) (fun hc => ?_) (fun hc => ?_)
    · replace hf := x_ift hc hf
      refine x_lv (lv' := [(0, .ref (xB E + 87)), (2, .int (x2))]) [0, 1] rfl ?_
      exact hc251 _ hf
    · replace hf := x_iff hc hf
      refine x_aload_n dX10_laysOut_68 rfl ?_
      refine f_getR (b := 120) dX10_laysOut_69 xcl_10 (by decide) fl_RX10_137 (by decide) sh_87 rfl ?_
      refine x_bipush (v := 100) dX10_laysOut_72 (by decide) ?_
      refine x_iload_n dX10_laysOut_74 rfl ?_
      refine x_imul dX10_laysOut_75 ?_
      refine x_iload_n dX10_laysOut_76 rfl ?_
      refine x_iadd dX10_laysOut_77 ?_
      refine x_iconst (v := 0) dX10_laysOut_78 (by decide) ?_
      have hg_8 := x_gd hf
      replace hf := hg_8.2
      refine f_iast dX10_laysOut_79 (by decide) sh_120 hg_8.1 ?_
      refine x_aload_n dX10_laysOut_80 rfl ?_
      refine f_getR (b := 121) dX10_laysOut_81 xcl_10 (by decide) fl_RX10_140 (by decide) sh_87 rfl ?_
      refine x_bipush (v := 100) dX10_laysOut_84 (by decide) ?_
      refine x_iload_n dX10_laysOut_86 rfl ?_
      refine x_imul dX10_laysOut_87 ?_
      refine x_iload_n dX10_laysOut_88 rfl ?_
      refine x_iadd dX10_laysOut_89 ?_
      refine x_iconst (v := 0) dX10_laysOut_90 (by decide) ?_
      have hg_9 := x_gd hf
      replace hf := hg_9.2
      refine f_iast dX10_laysOut_91 (by decide) sh_121 hg_9.1 ?_
      refine x_iload_n dX10_laysOut_92 rfl ?_
      refine x_aload_n dX10_laysOut_93 rfl ?_
      refine f_getI dX10_laysOut_94 xcl_10 (by decide) fl_RX10_303 (by decide) sh_87 rfl ?_
      refine x_icmp_ge 245 dX10_laysOut_97 (by decide) (fun hc => ?_) (fun hc => ?_)
      · replace hf := x_ift hc hf
        exact pJ_X10_laysOut_245 hd out hR _ _ _ _ (fun y0 m9 h9 => ih y0 m9 h9) hc251 _ hf
      · replace hf := x_iff hc hf
        refine x_aload_n dX10_laysOut_100 rfl ?_
        refine f_getR (b := 120) dX10_laysOut_101 xcl_10 (by decide) fl_RX10_137 (by decide) sh_87 rfl ?_
        refine x_bipush (v := 100) dX10_laysOut_104 (by decide) ?_
        refine x_iload_n dX10_laysOut_106 rfl ?_
        refine x_imul dX10_laysOut_107 ?_
        refine x_iload_n dX10_laysOut_108 rfl ?_
        refine x_iadd dX10_laysOut_109 ?_
        refine x_aload_n dX10_laysOut_110 rfl ?_
        refine f_getR (b := 120) dX10_laysOut_111 xcl_10 (by decide) fl_RX10_137 (by decide) sh_87 rfl ?_
        refine x_bipush (v := 100) dX10_laysOut_114 (by decide) ?_
        refine x_iload_n dX10_laysOut_116 rfl ?_
        refine x_iconst (v := 1) dX10_laysOut_117 (by decide) ?_
        refine x_iadd dX10_laysOut_118 ?_
        refine x_imul dX10_laysOut_119 ?_
        refine x_iload_n dX10_laysOut_120 rfl ?_
        refine x_iadd dX10_laysOut_121 ?_
        have hg_10 := x_gd hf
        replace hf := hg_10.2
        refine f_iald dX10_laysOut_122 (by decide) sh_120 hg_10.1 ?_
        have hg_11 := x_gd hf
        replace hf := hg_11.2
        refine f_iast dX10_laysOut_123 (by decide) sh_120 hg_11.1 ?_
        refine x_aload_n dX10_laysOut_124 rfl ?_
        refine f_getR (b := 121) dX10_laysOut_125 xcl_10 (by decide) fl_RX10_140 (by decide) sh_87 rfl ?_
        refine x_bipush (v := 100) dX10_laysOut_128 (by decide) ?_
        refine x_iload_n dX10_laysOut_130 rfl ?_
        refine x_imul dX10_laysOut_131 ?_
        refine x_iload_n dX10_laysOut_132 rfl ?_
        refine x_iadd dX10_laysOut_133 ?_
        refine x_aload_n dX10_laysOut_134 rfl ?_
        refine f_getR (b := 121) dX10_laysOut_135 xcl_10 (by decide) fl_RX10_140 (by decide) sh_87 rfl ?_
        refine x_bipush (v := 100) dX10_laysOut_138 (by decide) ?_
        refine x_iload_n dX10_laysOut_140 rfl ?_
        refine x_iconst (v := 1) dX10_laysOut_141 (by decide) ?_
        refine x_iadd dX10_laysOut_142 ?_
        refine x_imul dX10_laysOut_143 ?_
        refine x_iload_n dX10_laysOut_144 rfl ?_
        refine x_iadd dX10_laysOut_145 ?_
        have hg_12 := x_gd hf
        replace hf := hg_12.2
        refine f_iald dX10_laysOut_146 (by decide) sh_121 hg_12.1 ?_
        have hg_13 := x_gd hf
        replace hf := hg_13.2
        refine f_iast dX10_laysOut_147 (by decide) sh_121 hg_13.1 ?_
        refine x_aload_n dX10_laysOut_148 rfl ?_
        refine x_iload_n dX10_laysOut_149 rfl ?_
        refine x_iload_n dX10_laysOut_150 rfl ?_
        obtain ⟨q_14, hq_14, hf⟩ := Option.bind_eq_some_iff.mp hf
        refine f_cVi mX10_isWith [.int (x2), .int (x3)] [] dX10_laysOut_151 cs_RX10_306 ⟨w_1306, w_85⟩ (ci := 10) rfl (by decide) sh_87 rfl rfl (Nat.le_of_ble_eq_true rfl) (by omega) (c_X10_isWith (d := d - 1) (by omega) (x2) (x3) (xst (xst (xst (xst m.1 am_most (((100 : Int32) * x2) + x3).toNatClampNeg (0 : Int32)) am_used (((100 : Int32) * x2) + x3).toNatClampNeg (0 : Int32)) am_most (((100 : Int32) * x2) + x3).toNatClampNeg ((xst (xst m.1 am_most (((100 : Int32) * x2) + x3).toNatClampNeg (0 : Int32)) am_used (((100 : Int32) * x2) + x3).toNatClampNeg (0 : Int32)) am_most (((100 : Int32) * (x2 + (1 : Int32))) + x3).toNatClampNeg)) am_used (((100 : Int32) * x2) + x3).toNatClampNeg ((xst (xst (xst m.1 am_most (((100 : Int32) * x2) + x3).toNatClampNeg (0 : Int32)) am_used (((100 : Int32) * x2) + x3).toNatClampNeg (0 : Int32)) am_most (((100 : Int32) * x2) + x3).toNatClampNeg ((xst (xst m.1 am_most (((100 : Int32) * x2) + x3).toNatClampNeg (0 : Int32)) am_used (((100 : Int32) * x2) + x3).toNatClampNeg (0 : Int32)) am_most (((100 : Int32) * (x2 + (1 : Int32))) + x3).toNatClampNeg)) am_used (((100 : Int32) * (x2 + (1 : Int32))) + x3).toNatClampNeg), m.2) q_14 hq_14) ?_
        refine x_if_eq 245 dX10_laysOut_154 (by decide) (fun hc => ?_) (fun hc => ?_)
        · replace hf := x_ift hc hf
          exact pJ_X10_laysOut_245 hd out hR _ _ _ _ (fun y0 m9 h9 => ih y0 m9 h9) hc251 _ hf
        · replace hf := x_iff hc hf
          refine x_aload_n dX10_laysOut_157 rfl ?_
          refine f_getR (b := 119) dX10_laysOut_158 xcl_10 (by decide) fl_RX10_134 (by decide) sh_87 rfl ?_
          refine x_iload_n dX10_laysOut_161 rfl ?_
          have hg_15 := x_gd hf
          replace hf := hg_15.2
          refine f_iald dX10_laysOut_162 (by decide) sh_119 hg_15.1 ?_
          refine x_istore (lv' := [(0, .ref (xB E + 87)), (2, .int (x2)), (3, .int (x3)), (4, .int (q_14.2.1 am_onPage x2.toNatClampNeg))]) dX10_laysOut_163 [1, 2, 3, 0] (by decide) rfl ?_
          refine x_aload_n dX10_laysOut_165 rfl ?_
          refine f_getR (b := 120) dX10_laysOut_166 xcl_10 (by decide) fl_RX10_137 (by decide) sh_87 rfl ?_
          refine x_bipush (v := 100) dX10_laysOut_169 (by decide) ?_
          refine x_iload_n dX10_laysOut_171 rfl ?_
          refine x_imul dX10_laysOut_172 ?_
          refine x_iload_n dX10_laysOut_173 rfl ?_
          refine x_iadd dX10_laysOut_174 ?_
          refine x_aload_n dX10_laysOut_175 rfl ?_
          refine f_getR (b := 108) dX10_laysOut_176 xcl_10 (by decide) fl_RX10_100 (by decide) sh_87 rfl ?_
          refine x_iload dX10_laysOut_179 rfl ?_
          have hg_16 := x_gd hf
          replace hf := hg_16.2
          refine f_iald dX10_laysOut_181 (by decide) sh_108 hg_16.1 ?_
          refine x_aload_n dX10_laysOut_182 rfl ?_
          refine f_getR (b := 120) dX10_laysOut_183 xcl_10 (by decide) fl_RX10_137 (by decide) sh_87 rfl ?_
          refine x_bipush (v := 100) dX10_laysOut_186 (by decide) ?_
          refine x_iload_n dX10_laysOut_188 rfl ?_
          refine x_iconst (v := 1) dX10_laysOut_189 (by decide) ?_
          refine x_iadd dX10_laysOut_190 ?_
          refine x_imul dX10_laysOut_191 ?_
          refine x_iload_n dX10_laysOut_192 rfl ?_
          refine x_iadd dX10_laysOut_193 ?_
          refine x_aload_n dX10_laysOut_194 rfl ?_
          refine f_getR (b := 107) dX10_laysOut_195 xcl_10 (by decide) fl_RX10_97 (by decide) sh_87 rfl ?_
          refine x_iload dX10_laysOut_198 rfl ?_
          have hg_17 := x_gd hf
          replace hf := hg_17.2
          refine f_iald dX10_laysOut_200 (by decide) sh_107 hg_17.1 ?_
          refine x_isub dX10_laysOut_201 ?_
          have hg_18 := x_gd hf
          replace hf := hg_18.2
          refine f_iald dX10_laysOut_202 (by decide) sh_120 hg_18.1 ?_
          refine x_iadd dX10_laysOut_203 ?_
          have hg_19 := x_gd hf
          replace hf := hg_19.2
          refine f_iast dX10_laysOut_204 (by decide) sh_120 hg_19.1 ?_
          refine x_aload_n dX10_laysOut_205 rfl ?_
          refine f_getR (b := 121) dX10_laysOut_206 xcl_10 (by decide) fl_RX10_140 (by decide) sh_87 rfl ?_
          refine x_bipush (v := 100) dX10_laysOut_209 (by decide) ?_
          refine x_iload_n dX10_laysOut_211 rfl ?_
          refine x_imul dX10_laysOut_212 ?_
          refine x_iload_n dX10_laysOut_213 rfl ?_
          refine x_iadd dX10_laysOut_214 ?_
          refine x_aload_n dX10_laysOut_215 rfl ?_
          refine f_getR (b := 107) dX10_laysOut_216 xcl_10 (by decide) fl_RX10_97 (by decide) sh_87 rfl ?_
          refine x_iload dX10_laysOut_219 rfl ?_
          have hg_20 := x_gd hf
          replace hf := hg_20.2
          refine f_iald dX10_laysOut_221 (by decide) sh_107 hg_20.1 ?_
          refine x_aload_n dX10_laysOut_222 rfl ?_
          refine f_getR (b := 121) dX10_laysOut_223 xcl_10 (by decide) fl_RX10_140 (by decide) sh_87 rfl ?_
          refine x_bipush (v := 100) dX10_laysOut_226 (by decide) ?_
          refine x_iload_n dX10_laysOut_228 rfl ?_
          refine x_iconst (v := 1) dX10_laysOut_229 (by decide) ?_
          refine x_iadd dX10_laysOut_230 ?_
          refine x_imul dX10_laysOut_231 ?_
          refine x_iload_n dX10_laysOut_232 rfl ?_
          refine x_iadd dX10_laysOut_233 ?_
          refine x_aload_n dX10_laysOut_234 rfl ?_
          refine f_getR (b := 107) dX10_laysOut_235 xcl_10 (by decide) fl_RX10_97 (by decide) sh_87 rfl ?_
          refine x_iload dX10_laysOut_238 rfl ?_
          have hg_21 := x_gd hf
          replace hf := hg_21.2
          refine f_iald dX10_laysOut_240 (by decide) sh_107 hg_21.1 ?_
          refine x_isub dX10_laysOut_241 ?_
          have hg_22 := x_gd hf
          replace hf := hg_22.2
          refine f_iald dX10_laysOut_242 (by decide) sh_121 hg_22.1 ?_
          refine x_iadd dX10_laysOut_243 ?_
          have hg_23 := x_gd hf
          replace hf := hg_23.2
          refine f_iast dX10_laysOut_244 (by decide) sh_121 hg_23.1 ?_
          refine x_lv (lv' := [(0, .ref (xB E + 87)), (2, .int (x2)), (3, .int (x3))]) [0, 1, 2] rfl ?_
          exact pJ_X10_laysOut_245 hd out hR _ _ _ _ (fun y0 m9 h9 => ih y0 m9 h9) hc251 _ hf
set_option maxHeartbeats 4000000 in
set_option maxRecDepth 100000 in
theorem pL_X10_laysOut_56 {E : xE} {d : Nat} {Q : Option Value → xS → Prop} (hd : 2 ≤ d) (out : Int32 × xMem) (hR : Q none (xf E out.2)) : ∀ (fk : Nat) (x2 : Int32) (m : xMem), L_X10_laysOut_56 fk x2 m = some out → xX E mX10_laysOut d 0 0 0 0 Q 56 [(0, .ref (xB E + 87)), (2, .int (x2))] [] (xf E m) := by
  intro fk
  induction fk with
  | zero => intro x2 m hf; cases hf
  | succ fk ih =>
    intro x2 m hf
    rw [L_X10_laysOut_56] at hf
    refine x_iload_n dX10_laysOut_56 rfl ?_
    refine x_if_lt 257 dX10_laysOut_57 (by decide) (fun hc => ?_) (fun hc => ?_)
    · replace hf := x_ift hc hf
      exact x_vret dX10_laysOut_257 rfl (by cases hf; exact hR)
    · replace hf := x_iff hc hf
      refine x_iconst (v := 0) dX10_laysOut_60 (by decide) ?_
      refine x_istore_n (lv' := [(0, .ref (xB E + 87)), (2, .int (x2)), (3, .int ((0 : Int32)))]) dX10_laysOut_61 [1, 2, 0] (by decide) rfl ?_
      refine pL_X10_laysOut_62 hd out hR _ _ (fun m_30 hf => ?_) xfuel _ _ hf
      refine x_iinc (v := x2 + (-1 : Int32)) (lv' := [(0, .ref (xB E + 87)), (2, .int (x2 + (-1 : Int32)))]) dX10_laysOut_251 1 [1, 0] rfl rfl (by decide) rfl ?_
      refine x_goto 56 dX10_laysOut_254 (by decide) ?_
      exact ih _ _ hf
set_option maxHeartbeats 4000000 in
set_option maxRecDepth 100000 in
theorem pF_X10_laysOut {E : xE} {d : Nat} {Q : Option Value → xS → Prop} (hd : 2 ≤ d) (out : Int32 × xMem) (hR : Q none (xf E out.2)) (x1 : Int32) (m : xMem) (hf : F_X10_laysOut x1 m = some out) : xX E mX10_laysOut d 0 0 0 0 Q 0 [(0, .ref (xB E + 87)), (1, .int (x1))] [] (xf E m) := by
  unfold F_X10_laysOut at hf
  refine x_aload_n dX10_laysOut_0 rfl ?_
  refine x_iconst (v := 0) dX10_laysOut_1 (by decide) ?_
  refine f_putI dX10_laysOut_2 xcl_10 (by decide) fl_RX10_303 rfl rfl (by decide) sh_87 rfl ?_
  refine x_iconst (v := 0) dX10_laysOut_5 (by decide) ?_
  refine x_istore_n (lv' := [(0, .ref (xB E + 87)), (1, .int (x1)), (2, .int ((0 : Int32)))]) dX10_laysOut_6 [1, 2, 0] (by decide) rfl ?_
  refine pL_X10_laysOut_7 hd out hR _ _ (fun m_7 hf => ?_) xfuel _ _ hf
  refine x_aload_n dX10_laysOut_51 rfl ?_
  refine f_getI dX10_laysOut_52 xcl_10 (by decide) fl_RX10_303 (by decide) sh_87 rfl ?_
  refine x_istore_n (lv' := [(0, .ref (xB E + 87)), (2, .int (m_7.1 am fGuideBookModel_many))]) dX10_laysOut_55 [1, 0] (by decide) rfl ?_
  refine pL_X10_laysOut_56 hd out hR xfuel _ _ hf
theorem c_X10_laysOut {E : xE} {d : Nat} (hd : 2 ≤ d) (x1 : Int32) (m : xMem) (out : Int32 × xMem) (h : F_X10_laysOut x1 m = some out) : xCv E mX10_laysOut d [.ref (xB E + 87), .int x1] m out.2 :=
  x_enter (by decide +kernel) (Nat.le_of_ble_eq_true rfl) (pF_X10_laysOut hd (Q := _) out ⟨rfl, rfl⟩ x1 m h)
-- X10_number
def J_X10_number_98 (rec : Int32 → Int32 → Int32 → xMem → Option (Int32 × xMem)) (c111 : Int32 → Int32 → xMem → Option (Int32 × xMem)) (x1 : Int32) (x4 : Int32) (x5 : Int32) (x6 : Int32) (s0 : Int32) (s1 : Int32) (m : xMem) : Option (Int32 × xMem) :=
  if xin x5 60 = true then (
  if (m.1 am_onPage x5.toNatClampNeg) = x1 then (
    c111 (x4) (x6) m)
  else (
    rec (s0 - s1) (x4) (x5 + 1) m))
  else none
def J_X10_number_73 (rec : Int32 → Int32 → Int32 → xMem → Option (Int32 × xMem)) (c111 : Int32 → Int32 → xMem → Option (Int32 × xMem)) (x1 : Int32) (x3 : Int32) (x5 : Int32) (x6 : Int32) (s0 : Int32) (s1 : Int32) (m : xMem) : Option (Int32 × xMem) :=
  if x6 = 0 then (
    J_X10_number_98 rec c111 (x1) (s0 + s1) (x5) (x6) (x3) ((0 : Int32)) m)
  else (
    if xin x5 60 = true then (
    if xin (m.1 am_onPage x5.toNatClampNeg) 60 = true then (
    J_X10_number_98 rec c111 (x1) (s0 + s1) (x5) (x6) (x3) (m.1 am_lengths (m.1 am_onPage x5.toNatClampNeg).toNatClampNeg) m)
    else none)
    else none)
def L_X10_number_43 (x1 : Int32) (c111 : Int32 → Int32 → xMem → Option (Int32 × xMem)) : Nat → Int32 → Int32 → Int32 → xMem → Option (Int32 × xMem)
  | 0, _, _, _, _ => none
  | fk + 1, x3, x4, x5, m =>
    if (m.1 am fGuideBookModel_many) ≤ x5 then (
      some ((0 : Int32), m))
    else (
      (F_X10_isWith (x5) (x3) m).bind fun q_4 => (
      if q_4.1 = 0 then (
        J_X10_number_73 (fun y_16 y_17 y_18 m_19 => L_X10_number_43 x1 c111 fk y_16 y_17 y_18 m_19) c111 (x1) (x3) (x5) (q_4.1) (x4) ((0 : Int32)) q_4.2)
      else (
        J_X10_number_73 (fun y_20 y_21 y_22 m_23 => L_X10_number_43 x1 c111 fk y_20 y_21 y_22 m_23) c111 (x1) (x3) (x5) (q_4.1) (x4) ((1 : Int32)) q_4.2)))
def F_X10_number (x1 : Int32) (x2 : Int32) (m : xMem) : Option (Int32 × xMem) :=
  (F_X10_isFact (x1) (xst m.1 am fGuideBookModel_thrown (0 : Int32), m.2)).bind fun q_1 => (
  if q_1.1 = 0 then (
    some ((-1 : Int32), q_1.2))
  else (
    if x2 < 0 then (
      some ((-1 : Int32), q_1.2))
    else (
      if x2 ≤ (99 : Int32) then (
        if xin x1 60 = true then (
        (F_X10_laysOut (q_1.2.1 am_placeOf x1.toNatClampNeg) q_1.2).bind fun q_3 => (
        L_X10_number_43 (x1) (fun x4_24 x6_25 m_26 => (
          if x6_25 = 0 then (
            some ((0 : Int32), m_26))
          else (
            some (x4_24, m_26)))) xfuel (x2) ((0 : Int32)) ((0 : Int32)) q_3.2))
        else none)
      else (
        some ((-1 : Int32), q_1.2)))))
set_option maxHeartbeats 4000000 in
set_option maxRecDepth 100000 in
theorem pJ_X10_number_98 {E : xE} {d : Nat} {Q : Option Value → xS → Prop} (hd : 3 ≤ d) (out : Int32 × xMem) (hR : Q (some (.int out.1)) (xf E out.2)) (rec : Int32 → Int32 → Int32 → xMem → Option (Int32 × xMem)) (c111 : Int32 → Int32 → xMem → Option (Int32 × xMem)) (x1 : Int32) (x4 : Int32) (x5 : Int32) (x6 : Int32) (s0 : Int32) (s1 : Int32) (hrec : ∀ (x3 : Int32) (x4 : Int32) (x5 : Int32) (m : xMem), rec x3 x4 x5 m = some out → xX E mX10_number d 0 0 0 0 Q 43 [(0, .ref (xB E + 87)), (1, .int (x1)), (3, .int (x3)), (4, .int (x4)), (5, .int (x5))] [] (xf E m)) (hc111 : ∀ (x4 : Int32) (x6 : Int32) (m : xMem), c111 x4 x6 m = some out → xX E mX10_number d 0 0 0 0 Q 111 [(4, .int (x4)), (6, .int (x6))] [] (xf E m)) (m : xMem) (hf : J_X10_number_98 rec c111 x1 x4 x5 x6 s0 s1 m = some out) : xX E mX10_number d 0 0 0 0 Q 98 [(0, .ref (xB E + 87)), (1, .int (x1)), (4, .int (x4)), (5, .int (x5)), (6, .int (x6))] [.int (s1), .int (s0)] (xf E m) := by
  unfold J_X10_number_98 at hf
  refine x_isub dX10_number_98 ?_
  refine x_istore_n (lv' := [(0, .ref (xB E + 87)), (1, .int (x1)), (3, .int (s0 - s1)), (4, .int (x4)), (5, .int (x5)), (6, .int (x6))]) dX10_number_99 [1, 2, 0, 3, 4, 5] (by decide) rfl ?_
  refine x_aload_n dX10_number_100 rfl ?_
  refine f_getR (b := 119) dX10_number_101 xcl_10 (by decide) fl_RX10_134 (by decide) sh_87 rfl ?_
  refine x_iload dX10_number_104 rfl ?_
  have hg_5 := x_gd hf
  replace hf := hg_5.2
  refine f_iald dX10_number_106 (by decide) sh_119 hg_5.1 ?_
  refine x_iload_n dX10_number_107 rfl ?_
  refine x_icmp_ne 123 dX10_number_108 (by decide) (fun hc => ?_) (fun hc => ?_)
  · replace hf := x_iff hc hf
    refine x_iinc (v := x5 + 1) (lv' := [(0, .ref (xB E + 87)), (1, .int (x1)), (3, .int (s0 - s1)), (4, .int (x4)), (5, .int (x5 + 1))]) dX10_number_123 4 [1, 2, 3, 4, 0] rfl rfl (by decide) rfl ?_
    refine x_goto 43 dX10_number_126 (by decide) ?_
    exact hrec _ _ _ _ hf
  · replace hf := x_ift hc hf
    refine x_lv (lv' := [(4, .int (x4)), (6, .int (x6))]) [3, 5] rfl ?_
    exact hc111 _ _ _ hf
set_option maxHeartbeats 4000000 in
set_option maxRecDepth 100000 in
theorem pJ_X10_number_73 {E : xE} {d : Nat} {Q : Option Value → xS → Prop} (hd : 3 ≤ d) (out : Int32 × xMem) (hR : Q (some (.int out.1)) (xf E out.2)) (rec : Int32 → Int32 → Int32 → xMem → Option (Int32 × xMem)) (c111 : Int32 → Int32 → xMem → Option (Int32 × xMem)) (x1 : Int32) (x3 : Int32) (x5 : Int32) (x6 : Int32) (s0 : Int32) (s1 : Int32) (hrec : ∀ (x3 : Int32) (x4 : Int32) (x5 : Int32) (m : xMem), rec x3 x4 x5 m = some out → xX E mX10_number d 0 0 0 0 Q 43 [(0, .ref (xB E + 87)), (1, .int (x1)), (3, .int (x3)), (4, .int (x4)), (5, .int (x5))] [] (xf E m)) (hc111 : ∀ (x4 : Int32) (x6 : Int32) (m : xMem), c111 x4 x6 m = some out → xX E mX10_number d 0 0 0 0 Q 111 [(4, .int (x4)), (6, .int (x6))] [] (xf E m)) (m : xMem) (hf : J_X10_number_73 rec c111 x1 x3 x5 x6 s0 s1 m = some out) : xX E mX10_number d 0 0 0 0 Q 73 [(0, .ref (xB E + 87)), (1, .int (x1)), (3, .int (x3)), (5, .int (x5)), (6, .int (x6))] [.int (s1), .int (s0)] (xf E m) := by
  unfold J_X10_number_73 at hf
  refine x_iadd dX10_number_73 ?_
  refine x_istore (lv' := [(0, .ref (xB E + 87)), (1, .int (x1)), (3, .int (x3)), (4, .int (s0 + s1)), (5, .int (x5)), (6, .int (x6))]) dX10_number_74 [1, 2, 3, 0, 4, 5] (by decide) rfl ?_
  refine x_iload_n dX10_number_76 rfl ?_
  refine x_iload dX10_number_77 rfl ?_
  refine x_if_eq 97 dX10_number_79 (by decide) (fun hc => ?_) (fun hc => ?_)
  · replace hf := x_ift hc hf
    refine x_iconst (v := 0) dX10_number_97 (by decide) ?_
    refine x_lv (lv' := [(0, .ref (xB E + 87)), (1, .int (x1)), (4, .int (s0 + s1)), (5, .int (x5)), (6, .int (x6))]) [0, 1, 3, 4, 5] rfl ?_
    exact pJ_X10_number_98 hd out hR _ _ _ _ _ _ _ _ hrec hc111 _ hf
  · replace hf := x_iff hc hf
    refine x_aload_n dX10_number_82 rfl ?_
    refine f_getR (b := 107) dX10_number_83 xcl_10 (by decide) fl_RX10_97 (by decide) sh_87 rfl ?_
    refine x_aload_n dX10_number_86 rfl ?_
    refine f_getR (b := 119) dX10_number_87 xcl_10 (by decide) fl_RX10_134 (by decide) sh_87 rfl ?_
    refine x_iload dX10_number_90 rfl ?_
    have hg_6 := x_gd hf
    replace hf := hg_6.2
    refine f_iald dX10_number_92 (by decide) sh_119 hg_6.1 ?_
    have hg_7 := x_gd hf
    replace hf := hg_7.2
    refine f_iald dX10_number_93 (by decide) sh_107 hg_7.1 ?_
    refine x_goto 98 dX10_number_94 (by decide) ?_
    refine x_lv (lv' := [(0, .ref (xB E + 87)), (1, .int (x1)), (4, .int (s0 + s1)), (5, .int (x5)), (6, .int (x6))]) [0, 1, 3, 4, 5] rfl ?_
    exact pJ_X10_number_98 hd out hR _ _ _ _ _ _ _ _ hrec hc111 _ hf
set_option maxHeartbeats 4000000 in
set_option maxRecDepth 100000 in
theorem pL_X10_number_43 {E : xE} {d : Nat} {Q : Option Value → xS → Prop} (hd : 3 ≤ d) (out : Int32 × xMem) (hR : Q (some (.int out.1)) (xf E out.2)) (x1 : Int32) (c111 : Int32 → Int32 → xMem → Option (Int32 × xMem)) (hc111 : ∀ (x4 : Int32) (x6 : Int32) (m : xMem), c111 x4 x6 m = some out → xX E mX10_number d 0 0 0 0 Q 111 [(4, .int (x4)), (6, .int (x6))] [] (xf E m)) : ∀ (fk : Nat) (x3 : Int32) (x4 : Int32) (x5 : Int32) (m : xMem), L_X10_number_43 x1 c111 fk x3 x4 x5 m = some out → xX E mX10_number d 0 0 0 0 Q 43 [(0, .ref (xB E + 87)), (1, .int (x1)), (3, .int (x3)), (4, .int (x4)), (5, .int (x5))] [] (xf E m) := by
  intro fk
  induction fk with
  | zero => intro x3 x4 x5 m hf; cases hf
  | succ fk ih =>
    intro x3 x4 x5 m hf
    rw [L_X10_number_43] at hf
    refine x_iload dX10_number_43 rfl ?_
    refine x_aload_n dX10_number_45 rfl ?_
    refine f_getI dX10_number_46 xcl_10 (by decide) fl_RX10_303 (by decide) sh_87 rfl ?_
    refine x_icmp_ge 129 dX10_number_49 (by decide) (fun hc => ?_) (fun hc => ?_)
    · replace hf := x_ift hc hf
      refine x_iconst (v := 0) dX10_number_129 (by decide) ?_
      exact x_iret dX10_number_130 rfl (by cases hf; exact hR)
    · replace hf := x_iff hc hf
      refine x_aload_n dX10_number_52 rfl ?_
      refine x_iload dX10_number_53 rfl ?_
      refine x_iload_n dX10_number_55 rfl ?_
      obtain ⟨q_4, hq_4, hf⟩ := Option.bind_eq_some_iff.mp hf
      refine f_cVi mX10_isWith [.int (x5), .int (x3)] [] dX10_number_56 cs_RX10_306 ⟨w_1306, w_85⟩ (ci := 10) rfl (by decide) sh_87 rfl rfl (Nat.le_of_ble_eq_true rfl) (by omega) (c_X10_isWith (d := d - 1) (by omega) (x5) (x3) m q_4 hq_4) ?_
      refine x_istore (lv' := [(0, .ref (xB E + 87)), (1, .int (x1)), (3, .int (x3)), (4, .int (x4)), (5, .int (x5)), (6, .int (q_4.1))]) dX10_number_59 [1, 2, 3, 4, 5, 0] (by decide) rfl ?_
      refine x_iload dX10_number_61 rfl ?_
      refine x_iload dX10_number_63 rfl ?_
      refine x_if_eq 72 dX10_number_65 (by decide) (fun hc => ?_) (fun hc => ?_)
      · replace hf := x_ift hc hf
        refine x_iconst (v := 0) dX10_number_72 (by decide) ?_
        refine x_lv (lv' := [(0, .ref (xB E + 87)), (1, .int (x1)), (3, .int (x3)), (5, .int (x5)), (6, .int (q_4.1))]) [0, 1, 2, 4, 5] rfl ?_
        exact pJ_X10_number_73 hd out hR _ _ _ _ _ _ _ _ (fun y0 y1 y2 m9 h9 => ih y0 y1 y2 m9 h9) hc111 _ hf
      · replace hf := x_iff hc hf
        refine x_iconst (v := 1) dX10_number_68 (by decide) ?_
        refine x_goto 73 dX10_number_69 (by decide) ?_
        refine x_lv (lv' := [(0, .ref (xB E + 87)), (1, .int (x1)), (3, .int (x3)), (5, .int (x5)), (6, .int (q_4.1))]) [0, 1, 2, 4, 5] rfl ?_
        exact pJ_X10_number_73 hd out hR _ _ _ _ _ _ _ _ (fun y0 y1 y2 m9 h9 => ih y0 y1 y2 m9 h9) hc111 _ hf
set_option maxHeartbeats 4000000 in
set_option maxRecDepth 100000 in
theorem pF_X10_number {E : xE} {d : Nat} {Q : Option Value → xS → Prop} (hd : 3 ≤ d) (out : Int32 × xMem) (hR : Q (some (.int out.1)) (xf E out.2)) (x1 : Int32) (x2 : Int32) (m : xMem) (hf : F_X10_number x1 x2 m = some out) : xX E mX10_number d 0 0 0 0 Q 0 [(0, .ref (xB E + 87)), (1, .int (x1)), (2, .int (x2))] [] (xf E m) := by
  unfold F_X10_number at hf
  refine x_aload_n dX10_number_0 rfl ?_
  refine x_iconst (v := 0) dX10_number_1 (by decide) ?_
  refine f_putI dX10_number_2 xcl_10 (by decide) fl_RX10_1 rfl rfl (by decide) sh_87 rfl ?_
  refine x_aload_n dX10_number_5 rfl ?_
  refine x_iload_n dX10_number_6 rfl ?_
  obtain ⟨q_1, hq_1, hf⟩ := Option.bind_eq_some_iff.mp hf
  refine f_cVi mX10_isFact [.int (x1)] [] dX10_number_7 cs_RX10_253 ⟨w_1187, w_71⟩ (ci := 10) rfl (by decide) sh_87 rfl rfl (Nat.le_of_ble_eq_true rfl) (by omega) (c_X10_isFact (d := d - 1) (by omega) (x1) (xst m.1 am fGuideBookModel_thrown (0 : Int32), m.2) q_1 hq_1) ?_
  refine x_if_eq 23 dX10_number_10 (by decide) (fun hc => ?_) (fun hc => ?_)
  · replace hf := x_ift hc hf
    refine x_iconst (v := (-1)) dX10_number_23 (by decide) ?_
    exact x_iret dX10_number_24 rfl (by cases hf; exact hR)
  · replace hf := x_iff hc hf
    refine x_iload_n dX10_number_13 rfl ?_
    refine x_if_lt 23 dX10_number_14 (by decide) (fun hc => ?_) (fun hc => ?_)
    · replace hf := x_ift hc hf
      refine x_iconst (v := (-1)) dX10_number_23 (by decide) ?_
      exact x_iret dX10_number_24 rfl (by cases hf; exact hR)
    · replace hf := x_iff hc hf
      refine x_iload_n dX10_number_17 rfl ?_
      refine x_bipush (v := 99) dX10_number_18 (by decide) ?_
      refine x_icmp_le 25 dX10_number_20 (by decide) (fun hc => ?_) (fun hc => ?_)
      · replace hf := x_ift hc hf
        refine x_aload_n dX10_number_25 rfl ?_
        refine x_aload_n dX10_number_26 rfl ?_
        refine f_getR (b := 104) dX10_number_27 xcl_10 (by decide) fl_RX10_88 (by decide) sh_87 rfl ?_
        refine x_iload_n dX10_number_30 rfl ?_
        have hg_2 := x_gd hf
        replace hf := hg_2.2
        refine f_iald dX10_number_31 (by decide) sh_104 hg_2.1 ?_
        obtain ⟨q_3, hq_3, hf⟩ := Option.bind_eq_some_iff.mp hf
        refine f_cVv mX10_laysOut [.int (q_1.2.1 am_placeOf x1.toNatClampNeg)] [] dX10_number_32 cs_RX10_309 ⟨w_1302, w_84⟩ (ci := 10) rfl (by decide) sh_87 rfl rfl (Nat.le_of_ble_eq_true rfl) (by omega) (c_X10_laysOut (d := d - 1) (by omega) (q_1.2.1 am_placeOf x1.toNatClampNeg) q_1.2 q_3 hq_3) ?_
        refine x_iload_n dX10_number_35 rfl ?_
        refine x_istore_n (lv' := [(0, .ref (xB E + 87)), (1, .int (x1)), (3, .int (x2))]) dX10_number_36 [1, 2, 0] (by decide) rfl ?_
        refine x_iconst (v := 0) dX10_number_37 (by decide) ?_
        refine x_istore (lv' := [(0, .ref (xB E + 87)), (1, .int (x1)), (3, .int (x2)), (4, .int ((0 : Int32)))]) dX10_number_38 [1, 2, 3, 0] (by decide) rfl ?_
        refine x_iconst (v := 0) dX10_number_40 (by decide) ?_
        refine x_istore (lv' := [(0, .ref (xB E + 87)), (1, .int (x1)), (3, .int (x2)), (4, .int ((0 : Int32))), (5, .int ((0 : Int32)))]) dX10_number_41 [1, 2, 3, 4, 0] (by decide) rfl ?_
        refine pL_X10_number_43 hd out hR _ _ (fun x4_24 x6_25 m_26 hf => ?_) xfuel _ _ _ _ hf
        refine x_iload dX10_number_111 rfl ?_
        refine x_if_eq 121 dX10_number_113 (by decide) (fun hc => ?_) (fun hc => ?_)
        · replace hf := x_ift hc hf
          refine x_iconst (v := 0) dX10_number_121 (by decide) ?_
          exact x_iret dX10_number_122 rfl (by cases hf; exact hR)
        · replace hf := x_iff hc hf
          refine x_iload dX10_number_116 rfl ?_
          refine x_goto 122 dX10_number_118 (by decide) ?_
          exact x_iret dX10_number_122 rfl (by cases hf; exact hR)
      · replace hf := x_iff hc hf
        refine x_iconst (v := (-1)) dX10_number_23 (by decide) ?_
        exact x_iret dX10_number_24 rfl (by cases hf; exact hR)
theorem c_X10_number {E : xE} {d : Nat} (hd : 3 ≤ d) (x1 : Int32) (x2 : Int32) (m : xMem) (out : Int32 × xMem) (h : F_X10_number x1 x2 m = some out) : xCi E mX10_number d [.ref (xB E + 87), .int x1, .int x2] m out.1 out.2 :=
  x_enter (by decide +kernel) (Nat.le_of_ble_eq_true rfl) (pF_X10_number hd (Q := _) out ⟨rfl, rfl⟩ x1 x2 m h)
-- X1_start
def F_X1_start (x1 : Int32) (m : xMem) : Option (Int32 × xMem) :=
  if xin (m.1 ag_editions fEditions_size) 10 = true then (
  some (m.1 ag_editions fEditions_size, (xst (xst m.1 ag_editions_facts (m.1 ag_editions fEditions_size).toNatClampNeg x1) ag_editions fEditions_size (((xst m.1 ag_editions_facts (m.1 ag_editions fEditions_size).toNatClampNeg x1) ag_editions fEditions_size) + (1 : Int32)), m.2)))
  else none
set_option maxHeartbeats 4000000 in
set_option maxRecDepth 100000 in
theorem pF_X1_start {E : xE} {d : Nat} {Q : Option Value → xS → Prop} (hd : 1 ≤ d) (out : Int32 × xMem) (hR : Q (some (.int out.1)) (xf E out.2)) (x1 : Int32) (m : xMem) (hf : F_X1_start x1 m = some out) : xX E mX1_start d 0 0 0 0 Q 0 [(0, .ref (xB E + 46)), (1, .int (x1))] [] (xf E m) := by
  unfold F_X1_start at hf
  refine x_aload_n dX1_start_0 rfl ?_
  refine f_getI dX1_start_1 xcl_1 (by decide) fl_RX1_26 (by decide) sh_46 rfl ?_
  refine x_istore_n (lv' := [(0, .ref (xB E + 46)), (1, .int (x1)), (2, .int (m.1 ag_editions fEditions_size))]) dX1_start_4 [1, 2, 0] (by decide) rfl ?_
  refine x_aload_n dX1_start_5 rfl ?_
  refine f_getR (b := 80) dX1_start_6 xcl_1 (by decide) fl_RX1_22 (by decide) sh_46 rfl ?_
  refine x_iload_n dX1_start_9 rfl ?_
  refine x_iload_n dX1_start_10 rfl ?_
  have hg_1 := x_gd hf
  replace hf := hg_1.2
  refine f_iast dX1_start_11 (by decide) sh_80 hg_1.1 ?_
  refine x_aload_n dX1_start_12 rfl ?_
  refine x_dup dX1_start_13 rfl ?_
  refine f_getI dX1_start_14 xcl_1 (by decide) fl_RX1_26 (by decide) sh_46 rfl ?_
  refine x_iconst (v := 1) dX1_start_17 (by decide) ?_
  refine x_iadd dX1_start_18 ?_
  refine f_putI dX1_start_19 xcl_1 (by decide) fl_RX1_26 rfl rfl (by decide) sh_46 rfl ?_
  refine x_iload_n dX1_start_22 rfl ?_
  exact x_iret dX1_start_23 rfl (by cases hf; exact hR)
theorem c_X1_start {E : xE} {d : Nat} (hd : 1 ≤ d) (x1 : Int32) (m : xMem) (out : Int32 × xMem) (h : F_X1_start x1 m = some out) : xCi E mX1_start d [.ref (xB E + 46), .int x1] m out.1 out.2 :=
  x_enter (by decide +kernel) (Nat.le_of_ble_eq_true rfl) (pF_X1_start hd (Q := _) out ⟨rfl, rfl⟩ x1 m h)
-- X9_edition
def L_X9_edition_31 (x1 : Int32) (c64 : xMem → Option (Int32 × xMem)) : Nat → Int32 → xMem → Option (Int32 × xMem)
  | 0, _, _ => none
  | fk + 1, x2, m =>
    if (m.1 ag_facts fFacts_size) ≤ x2 then (
      c64 m)
    else (
      if xin x1 10 = true then (
      (F_X9_beliefOf (x2) m).bind fun q_3 => (
      if xin x2 60 = true then (
      L_X9_edition_31 (x1) c64 fk (x2 + 1) (xst q_3.2.1 (48 + (x1).toNatClampNeg) x2.toNatClampNeg q_3.1, q_3.2.2))
      else none))
      else none)
def L_X9_edition_66 (x1 : Int32) : Nat → Int32 → xMem → Option (Int32 × xMem)
  | 0, _, _ => none
  | fk + 1, x2, m =>
    if (10 : Int32) ≤ x2 then (
      some (x1, m))
    else (
      if xin x1 10 = true then (
      (F_X9_starsOf (x2) m).bind fun q_7 => (
      if xin x2 10 = true then (
      L_X9_edition_66 (x1) fk (x2 + 1) (xst q_7.2.1 (70 + (x1).toNatClampNeg) x2.toNatClampNeg q_7.1, q_7.2.2))
      else none))
      else none)
def F_X9_edition (m : xMem) : Option (Int32 × xMem) :=
  if (m.1 ag_editions fEditions_size) < (10 : Int32) then (
    (F_X1_start (m.1 ag_facts fFacts_size) m).bind fun q_1 => (
    L_X9_edition_31 (q_1.1) (fun m_5 => (
      L_X9_edition_66 (q_1.1) xfuel ((0 : Int32)) m_5)) xfuel ((0 : Int32)) q_1.2))
  else (
    some ((-1 : Int32), m))
set_option maxHeartbeats 4000000 in
set_option maxRecDepth 100000 in
theorem pL_X9_edition_31 {E : xE} {d : Nat} {Q : Option Value → xS → Prop} (hd : 6 ≤ d) (out : Int32 × xMem) (hR : Q (some (.int out.1)) (xf E out.2)) (x1 : Int32) (c64 : xMem → Option (Int32 × xMem)) (hc64 : ∀ (m : xMem), c64 m = some out → xX E mX9_edition d 0 0 0 0 Q 64 [(0, .ref (xB E + 0)), (1, .int (x1))] [] (xf E m)) : ∀ (fk : Nat) (x2 : Int32) (m : xMem), L_X9_edition_31 x1 c64 fk x2 m = some out → xX E mX9_edition d 0 0 0 0 Q 31 [(0, .ref (xB E + 0)), (1, .int (x1)), (2, .int (x2))] [] (xf E m) := by
  intro fk
  induction fk with
  | zero => intro x2 m hf; cases hf
  | succ fk ih =>
    intro x2 m hf
    rw [L_X9_edition_31] at hf
    refine x_iload_n dX9_edition_31 rfl ?_
    refine x_aload_n dX9_edition_32 rfl ?_
    refine f_getR (b := 1) dX9_edition_33 xcl_9 (by decide) fl_RX9_12 (by decide) sh_0 rfl ?_
    refine f_getI dX9_edition_36 xcl_2 (by decide) fl_RX9_100 (by decide) sh_1 rfl ?_
    refine x_icmp_ge 64 dX9_edition_39 (by decide) (fun hc => ?_) (fun hc => ?_)
    · replace hf := x_ift hc hf
      refine x_lv (lv' := [(0, .ref (xB E + 0)), (1, .int (x1))]) [0, 1] rfl ?_
      exact hc64 _ hf
    · replace hf := x_iff hc hf
      refine x_aload_n dX9_edition_42 rfl ?_
      refine f_getR (b := 46) dX9_edition_43 xcl_9 (by decide) fl_RX9_54 (by decide) sh_0 rfl ?_
      refine f_getR (b := 47) dX9_edition_46 xcl_1 (by decide) fl_RX9_212 (by decide) sh_46 rfl ?_
      refine x_iload_n dX9_edition_49 rfl ?_
      have hg_2 := x_gd hf
      replace hf := hg_2.2
      refine f_aald dX9_edition_50 (by decide) sh_47 hg_2.1 ?_
      refine x_iload_n dX9_edition_51 rfl ?_
      refine x_aload_n dX9_edition_52 rfl ?_
      refine x_iload_n dX9_edition_53 rfl ?_
      obtain ⟨q_3, hq_3, hf⟩ := Option.bind_eq_some_iff.mp hf
      refine f_cVi mX9_beliefOf [.int (x2)] [.int (x2), .ref (xB E + (48 + (x1).toNatClampNeg))] dX9_edition_54 cs_RX9_147 ⟨w_532, w_18⟩ (ci := 9) rfl (by decide) sh_0 rfl rfl (Nat.le_of_ble_eq_true rfl) (by omega) (c_X9_beliefOf (d := d - 1) (by omega) (x2) m q_3 hq_3) ?_
      have hg_4 := x_gd hf
      replace hf := hg_4.2
      refine f_iast dX9_edition_57 (shn_47 _ (xin_lt hg_2.1)) (shr_47 _ (xin_lt hg_2.1)) hg_4.1 ?_
      refine x_iinc (v := x2 + 1) (lv' := [(0, .ref (xB E + 0)), (1, .int (x1)), (2, .int (x2 + 1))]) dX9_edition_58 2 [1, 2, 0] rfl rfl (by decide) rfl ?_
      refine x_goto 31 dX9_edition_61 (by decide) ?_
      exact ih _ _ hf
set_option maxHeartbeats 4000000 in
set_option maxRecDepth 100000 in
theorem pL_X9_edition_66 {E : xE} {d : Nat} {Q : Option Value → xS → Prop} (hd : 6 ≤ d) (out : Int32 × xMem) (hR : Q (some (.int out.1)) (xf E out.2)) (x1 : Int32) : ∀ (fk : Nat) (x2 : Int32) (m : xMem), L_X9_edition_66 x1 fk x2 m = some out → xX E mX9_edition d 0 0 0 0 Q 66 [(0, .ref (xB E + 0)), (1, .int (x1)), (2, .int (x2))] [] (xf E m) := by
  intro fk
  induction fk with
  | zero => intro x2 m hf; cases hf
  | succ fk ih =>
    intro x2 m hf
    rw [L_X9_edition_66] at hf
    refine x_iload_n dX9_edition_66 rfl ?_
    refine x_bipush (v := 10) dX9_edition_67 (by decide) ?_
    refine x_icmp_ge 94 dX9_edition_69 (by decide) (fun hc => ?_) (fun hc => ?_)
    · replace hf := x_ift hc hf
      refine x_iload_n dX9_edition_94 rfl ?_
      exact x_iret dX9_edition_95 rfl (by cases hf; exact hR)
    · replace hf := x_iff hc hf
      refine x_aload_n dX9_edition_72 rfl ?_
      refine f_getR (b := 46) dX9_edition_73 xcl_9 (by decide) fl_RX9_54 (by decide) sh_0 rfl ?_
      refine f_getR (b := 69) dX9_edition_76 xcl_1 (by decide) fl_RX9_215 (by decide) sh_46 rfl ?_
      refine x_iload_n dX9_edition_79 rfl ?_
      have hg_6 := x_gd hf
      replace hf := hg_6.2
      refine f_aald dX9_edition_80 (by decide) sh_69 hg_6.1 ?_
      refine x_iload_n dX9_edition_81 rfl ?_
      refine x_aload_n dX9_edition_82 rfl ?_
      refine x_iload_n dX9_edition_83 rfl ?_
      obtain ⟨q_7, hq_7, hf⟩ := Option.bind_eq_some_iff.mp hf
      refine f_cVi mX9_starsOf [.int (x2)] [.int (x2), .ref (xB E + (70 + (x1).toNatClampNeg))] dX9_edition_84 cs_RX9_191 ⟨w_752, w_45⟩ (ci := 9) rfl (by decide) sh_0 rfl rfl (Nat.le_of_ble_eq_true rfl) (by omega) (c_X9_starsOf (d := d - 1) (by omega) (x2) m q_7 hq_7) ?_
      have hg_8 := x_gd hf
      replace hf := hg_8.2
      refine f_iast dX9_edition_87 (shn_69 _ (xin_lt hg_6.1)) (shr_69 _ (xin_lt hg_6.1)) hg_8.1 ?_
      refine x_iinc (v := x2 + 1) (lv' := [(0, .ref (xB E + 0)), (1, .int (x1)), (2, .int (x2 + 1))]) dX9_edition_88 2 [1, 2, 0] rfl rfl (by decide) rfl ?_
      refine x_goto 66 dX9_edition_91 (by decide) ?_
      exact ih _ _ hf
set_option maxHeartbeats 4000000 in
set_option maxRecDepth 100000 in
theorem pF_X9_edition {E : xE} {d : Nat} {Q : Option Value → xS → Prop} (hd : 6 ≤ d) (out : Int32 × xMem) (hR : Q (some (.int out.1)) (xf E out.2)) (m : xMem) (hf : F_X9_edition m = some out) : xX E mX9_edition d 0 0 0 0 Q 0 [(0, .ref (xB E + 0))] [] (xf E m) := by
  unfold F_X9_edition at hf
  refine x_aload_n dX9_edition_0 rfl ?_
  refine f_getR (b := 46) dX9_edition_1 xcl_9 (by decide) fl_RX9_54 (by decide) sh_0 rfl ?_
  refine f_getI dX9_edition_4 xcl_1 (by decide) fl_RX9_208 (by decide) sh_46 rfl ?_
  refine x_bipush (v := 10) dX9_edition_7 (by decide) ?_
  refine x_icmp_lt 14 dX9_edition_9 (by decide) (fun hc => ?_) (fun hc => ?_)
  · replace hf := x_ift hc hf
    refine x_aload_n dX9_edition_14 rfl ?_
    refine f_getR (b := 46) dX9_edition_15 xcl_9 (by decide) fl_RX9_54 (by decide) sh_0 rfl ?_
    refine x_aload_n dX9_edition_18 rfl ?_
    refine f_getR (b := 1) dX9_edition_19 xcl_9 (by decide) fl_RX9_12 (by decide) sh_0 rfl ?_
    refine f_getI dX9_edition_22 xcl_2 (by decide) fl_RX9_100 (by decide) sh_1 rfl ?_
    obtain ⟨q_1, hq_1, hf⟩ := Option.bind_eq_some_iff.mp hf
    refine f_cVi mX1_start [.int (m.1 ag_facts fFacts_size)] [] dX9_edition_25 cs_RX9_209 ⟨w_808, w_53⟩ (ci := 1) rfl (by decide) sh_46 rfl rfl (Nat.le_of_ble_eq_true rfl) (by omega) (c_X1_start (d := d - 1) (by omega) (m.1 ag_facts fFacts_size) m q_1 hq_1) ?_
    refine x_istore_n (lv' := [(0, .ref (xB E + 0)), (1, .int (q_1.1))]) dX9_edition_28 [1, 0] (by decide) rfl ?_
    refine x_iconst (v := 0) dX9_edition_29 (by decide) ?_
    refine x_istore_n (lv' := [(0, .ref (xB E + 0)), (1, .int (q_1.1)), (2, .int ((0 : Int32)))]) dX9_edition_30 [1, 2, 0] (by decide) rfl ?_
    refine pL_X9_edition_31 hd out hR _ _ (fun m_5 hf => ?_) xfuel _ _ hf
    refine x_iconst (v := 0) dX9_edition_64 (by decide) ?_
    refine x_istore_n (lv' := [(0, .ref (xB E + 0)), (1, .int (q_1.1)), (2, .int ((0 : Int32)))]) dX9_edition_65 [1, 2, 0] (by decide) rfl ?_
    refine pL_X9_edition_66 hd out hR _ xfuel _ _ hf
  · replace hf := x_iff hc hf
    refine x_iconst (v := (-1)) dX9_edition_12 (by decide) ?_
    exact x_iret dX9_edition_13 rfl (by cases hf; exact hR)
theorem c_X9_edition {E : xE} {d : Nat} (hd : 6 ≤ d) (m : xMem) (out : Int32 × xMem) (h : F_X9_edition m = some out) : xCi E mX9_edition d [.ref (xB E + 0)] m out.1 out.2 :=
  x_enter (by decide +kernel) (Nat.le_of_ble_eq_true rfl) (pF_X9_edition hd (Q := _) out ⟨rfl, rfl⟩ m h)
-- X10_edition
def L_X10_edition_18 (c76 : xMem → Option (Int32 × xMem)) : Nat → Int32 → xMem → Option (Int32 × xMem)
  | 0, _, _ => none
  | fk + 1, x1, m =>
    if (60 : Int32) ≤ x1 then (
      c76 m)
    else (
      if (m.1 am fGuideBookModel_facts) ≤ x1 then (
        if xin (((60 : Int32) * (m.1 am fGuideBookModel_editions)) + x1) 600 = true then (
        if xin (((60 : Int32) * ((xst m.1 am_asPrinted (((60 : Int32) * (m.1 am fGuideBookModel_editions)) + x1).toNatClampNeg (-1 : Int32)) am fGuideBookModel_editions)) + x1) 600 = true then (
        L_X10_edition_18 c76 fk (x1 + 1) (xst (xst m.1 am_asPrinted (((60 : Int32) * (m.1 am fGuideBookModel_editions)) + x1).toNatClampNeg (-1 : Int32)) am_proved (((60 : Int32) * ((xst m.1 am_asPrinted (((60 : Int32) * (m.1 am fGuideBookModel_editions)) + x1).toNatClampNeg (-1 : Int32)) am fGuideBookModel_editions)) + x1).toNatClampNeg (0 : Int32), m.2))
        else none)
        else none)
      else (
        (F_X10_believes (x1) m).bind fun q_3 => (
        if xin (((60 : Int32) * (m.1 am fGuideBookModel_editions)) + x1) 600 = true then (
        if xin (((60 : Int32) * ((xst q_3.2.1 am_asPrinted (((60 : Int32) * (m.1 am fGuideBookModel_editions)) + x1).toNatClampNeg q_3.1) am fGuideBookModel_editions)) + x1) 600 = true then (
        L_X10_edition_18 c76 fk (x1 + 1) (xst (xst q_3.2.1 am_asPrinted (((60 : Int32) * (m.1 am fGuideBookModel_editions)) + x1).toNatClampNeg q_3.1) am_proved (((60 : Int32) * ((xst q_3.2.1 am_asPrinted (((60 : Int32) * (m.1 am fGuideBookModel_editions)) + x1).toNatClampNeg q_3.1) am fGuideBookModel_editions)) + x1).toNatClampNeg (0 : Int32), q_3.2.2))
        else none)
        else none)))
def L_X10_edition_78 (c109 : xMem → Option (Int32 × xMem)) : Nat → Int32 → xMem → Option (Int32 × xMem)
  | 0, _, _ => none
  | fk + 1, x1, m =>
    if (10 : Int32) ≤ x1 then (
      c109 m)
    else (
      (F_X10_starsOf (x1) m).bind fun q_7 => (
      if xin (((10 : Int32) * (m.1 am fGuideBookModel_editions)) + x1) 100 = true then (
      L_X10_edition_78 c109 fk (x1 + 1) (xst q_7.2.1 am_starred (((10 : Int32) * (m.1 am fGuideBookModel_editions)) + x1).toNatClampNeg q_7.1, q_7.2.2))
      else none))
def F_X10_edition (m : xMem) : Option (Int32 × xMem) :=
  if ((xst m.1 am fGuideBookModel_thrown (0 : Int32)) am fGuideBookModel_editions) = (10 : Int32) then (
    some ((-1 : Int32), (xst m.1 am fGuideBookModel_thrown (0 : Int32), m.2)))
  else (
    L_X10_edition_18 (fun m_6 => (
      L_X10_edition_78 (fun m_9 => (
        some (((xst m_9.1 am fGuideBookModel_editions ((m_9.1 am fGuideBookModel_editions) + (1 : Int32))) am fGuideBookModel_editions) - (1 : Int32), (xst m_9.1 am fGuideBookModel_editions ((m_9.1 am fGuideBookModel_editions) + (1 : Int32)), m_9.2)))) xfuel ((0 : Int32)) m_6)) xfuel ((0 : Int32)) (xst m.1 am fGuideBookModel_thrown (0 : Int32), m.2))
set_option maxHeartbeats 4000000 in
set_option maxRecDepth 100000 in
theorem pL_X10_edition_18 {E : xE} {d : Nat} {Q : Option Value → xS → Prop} (hd : 5 ≤ d) (out : Int32 × xMem) (hR : Q (some (.int out.1)) (xf E out.2)) (c76 : xMem → Option (Int32 × xMem)) (hc76 : ∀ (m : xMem), c76 m = some out → xX E mX10_edition d 0 0 0 0 Q 76 [(0, .ref (xB E + 87))] [] (xf E m)) : ∀ (fk : Nat) (x1 : Int32) (m : xMem), L_X10_edition_18 c76 fk x1 m = some out → xX E mX10_edition d 0 0 0 0 Q 18 [(0, .ref (xB E + 87)), (1, .int (x1))] [] (xf E m) := by
  intro fk
  induction fk with
  | zero => intro x1 m hf; cases hf
  | succ fk ih =>
    intro x1 m hf
    rw [L_X10_edition_18] at hf
    refine x_iload_n dX10_edition_18 rfl ?_
    refine x_bipush (v := 60) dX10_edition_19 (by decide) ?_
    refine x_icmp_ge 76 dX10_edition_21 (by decide) (fun hc => ?_) (fun hc => ?_)
    · replace hf := x_ift hc hf
      refine x_lv (lv' := [(0, .ref (xB E + 87))]) [0] rfl ?_
      exact hc76 _ hf
    · replace hf := x_iff hc hf
      refine x_aload_n dX10_edition_24 rfl ?_
      refine f_getR (b := 122) dX10_edition_25 xcl_10 (by decide) fl_RX10_143 (by decide) sh_87 rfl ?_
      refine x_bipush (v := 60) dX10_edition_28 (by decide) ?_
      refine x_aload_n dX10_edition_30 rfl ?_
      refine f_getI dX10_edition_31 xcl_10 (by decide) fl_RX10_312 (by decide) sh_87 rfl ?_
      refine x_imul dX10_edition_34 ?_
      refine x_iload_n dX10_edition_35 rfl ?_
      refine x_iadd dX10_edition_36 ?_
      refine x_iload_n dX10_edition_37 rfl ?_
      refine x_aload_n dX10_edition_38 rfl ?_
      refine f_getI dX10_edition_39 xcl_10 (by decide) fl_RX10_250 (by decide) sh_87 rfl ?_
      refine x_icmp_ge 53 dX10_edition_42 (by decide) (fun hc => ?_) (fun hc => ?_)
      · replace hf := x_ift hc hf
        refine x_iconst (v := (-1)) dX10_edition_53 (by decide) ?_
        have hg_1 := x_gd hf
        replace hf := hg_1.2
        refine f_iast dX10_edition_54 (by decide) sh_122 hg_1.1 ?_
        refine x_aload_n dX10_edition_55 rfl ?_
        refine f_getR (b := 123) dX10_edition_56 xcl_10 (by decide) fl_RX10_146 (by decide) sh_87 rfl ?_
        refine x_bipush (v := 60) dX10_edition_59 (by decide) ?_
        refine x_aload_n dX10_edition_61 rfl ?_
        refine f_getI dX10_edition_62 xcl_10 (by decide) fl_RX10_312 (by decide) sh_87 rfl ?_
        refine x_imul dX10_edition_65 ?_
        refine x_iload_n dX10_edition_66 rfl ?_
        refine x_iadd dX10_edition_67 ?_
        refine x_iconst (v := 0) dX10_edition_68 (by decide) ?_
        have hg_2 := x_gd hf
        replace hf := hg_2.2
        refine f_iast dX10_edition_69 (by decide) sh_123 hg_2.1 ?_
        refine x_iinc (v := x1 + 1) (lv' := [(0, .ref (xB E + 87)), (1, .int (x1 + 1))]) dX10_edition_70 1 [1, 0] rfl rfl (by decide) rfl ?_
        refine x_goto 18 dX10_edition_73 (by decide) ?_
        exact ih _ _ hf
      · replace hf := x_iff hc hf
        refine x_aload_n dX10_edition_45 rfl ?_
        refine x_iload_n dX10_edition_46 rfl ?_
        obtain ⟨q_3, hq_3, hf⟩ := Option.bind_eq_some_iff.mp hf
        refine f_cVi mX10_believes [.int (x1)] [.int (((60 : Int32) * (m.1 am fGuideBookModel_editions)) + x1), .ref (xB E + 122)] dX10_edition_47 cs_RX10_291 ⟨w_1250, w_78⟩ (ci := 10) rfl (by decide) sh_87 rfl rfl (Nat.le_of_ble_eq_true rfl) (by omega) (c_X10_believes (d := d - 1) (by omega) (x1) m q_3 hq_3) ?_
        refine x_goto 54 dX10_edition_50 (by decide) ?_
        have hg_4 := x_gd hf
        replace hf := hg_4.2
        refine f_iast dX10_edition_54 (by decide) sh_122 hg_4.1 ?_
        refine x_aload_n dX10_edition_55 rfl ?_
        refine f_getR (b := 123) dX10_edition_56 xcl_10 (by decide) fl_RX10_146 (by decide) sh_87 rfl ?_
        refine x_bipush (v := 60) dX10_edition_59 (by decide) ?_
        refine x_aload_n dX10_edition_61 rfl ?_
        refine f_getI dX10_edition_62 xcl_10 (by decide) fl_RX10_312 (by decide) sh_87 rfl ?_
        refine x_imul dX10_edition_65 ?_
        refine x_iload_n dX10_edition_66 rfl ?_
        refine x_iadd dX10_edition_67 ?_
        refine x_iconst (v := 0) dX10_edition_68 (by decide) ?_
        have hg_5 := x_gd hf
        replace hf := hg_5.2
        refine f_iast dX10_edition_69 (by decide) sh_123 hg_5.1 ?_
        refine x_iinc (v := x1 + 1) (lv' := [(0, .ref (xB E + 87)), (1, .int (x1 + 1))]) dX10_edition_70 1 [1, 0] rfl rfl (by decide) rfl ?_
        refine x_goto 18 dX10_edition_73 (by decide) ?_
        exact ih _ _ hf
set_option maxHeartbeats 4000000 in
set_option maxRecDepth 100000 in
theorem pL_X10_edition_78 {E : xE} {d : Nat} {Q : Option Value → xS → Prop} (hd : 5 ≤ d) (out : Int32 × xMem) (hR : Q (some (.int out.1)) (xf E out.2)) (c109 : xMem → Option (Int32 × xMem)) (hc109 : ∀ (m : xMem), c109 m = some out → xX E mX10_edition d 0 0 0 0 Q 109 [(0, .ref (xB E + 87))] [] (xf E m)) : ∀ (fk : Nat) (x1 : Int32) (m : xMem), L_X10_edition_78 c109 fk x1 m = some out → xX E mX10_edition d 0 0 0 0 Q 78 [(0, .ref (xB E + 87)), (1, .int (x1))] [] (xf E m) := by
  intro fk
  induction fk with
  | zero => intro x1 m hf; cases hf
  | succ fk ih =>
    intro x1 m hf
    rw [L_X10_edition_78] at hf
    refine x_iload_n dX10_edition_78 rfl ?_
    refine x_bipush (v := 10) dX10_edition_79 (by decide) ?_
    refine x_icmp_ge 109 dX10_edition_81 (by decide) (fun hc => ?_) (fun hc => ?_)
    · replace hf := x_ift hc hf
      refine x_lv (lv' := [(0, .ref (xB E + 87))]) [0] rfl ?_
      exact hc109 _ hf
    · replace hf := x_iff hc hf
      refine x_aload_n dX10_edition_84 rfl ?_
      refine f_getR (b := 124) dX10_edition_85 xcl_10 (by decide) fl_RX10_149 (by decide) sh_87 rfl ?_
      refine x_bipush (v := 10) dX10_edition_88 (by decide) ?_
      refine x_aload_n dX10_edition_90 rfl ?_
      refine f_getI dX10_edition_91 xcl_10 (by decide) fl_RX10_312 (by decide) sh_87 rfl ?_
      refine x_imul dX10_edition_94 ?_
      refine x_iload_n dX10_edition_95 rfl ?_
      refine x_iadd dX10_edition_96 ?_
      refine x_aload_n dX10_edition_97 rfl ?_
      refine x_iload_n dX10_edition_98 rfl ?_
      obtain ⟨q_7, hq_7, hf⟩ := Option.bind_eq_some_iff.mp hf
      refine f_cVi mX10_starsOf [.int (x1)] [.int (((10 : Int32) * (m.1 am fGuideBookModel_editions)) + x1), .ref (xB E + 124)] dX10_edition_99 cs_RX10_300 ⟨w_1290, w_82⟩ (ci := 10) rfl (by decide) sh_87 rfl rfl (Nat.le_of_ble_eq_true rfl) (by omega) (c_X10_starsOf (d := d - 1) (by omega) (x1) m q_7 hq_7) ?_
      have hg_8 := x_gd hf
      replace hf := hg_8.2
      refine f_iast dX10_edition_102 (by decide) sh_124 hg_8.1 ?_
      refine x_iinc (v := x1 + 1) (lv' := [(0, .ref (xB E + 87)), (1, .int (x1 + 1))]) dX10_edition_103 1 [1, 0] rfl rfl (by decide) rfl ?_
      refine x_goto 78 dX10_edition_106 (by decide) ?_
      exact ih _ _ hf
set_option maxHeartbeats 4000000 in
set_option maxRecDepth 100000 in
theorem pF_X10_edition {E : xE} {d : Nat} {Q : Option Value → xS → Prop} (hd : 5 ≤ d) (out : Int32 × xMem) (hR : Q (some (.int out.1)) (xf E out.2)) (m : xMem) (hf : F_X10_edition m = some out) : xX E mX10_edition d 0 0 0 0 Q 0 [(0, .ref (xB E + 87))] [] (xf E m) := by
  unfold F_X10_edition at hf
  refine x_aload_n dX10_edition_0 rfl ?_
  refine x_iconst (v := 0) dX10_edition_1 (by decide) ?_
  refine f_putI dX10_edition_2 xcl_10 (by decide) fl_RX10_1 rfl rfl (by decide) sh_87 rfl ?_
  refine x_aload_n dX10_edition_5 rfl ?_
  refine f_getI dX10_edition_6 xcl_10 (by decide) fl_RX10_312 (by decide) sh_87 rfl ?_
  refine x_bipush (v := 10) dX10_edition_9 (by decide) ?_
  refine x_icmp_ne 16 dX10_edition_11 (by decide) (fun hc => ?_) (fun hc => ?_)
  · replace hf := x_iff hc hf
    refine x_iconst (v := 0) dX10_edition_16 (by decide) ?_
    refine x_istore_n (lv' := [(0, .ref (xB E + 87)), (1, .int ((0 : Int32)))]) dX10_edition_17 [1, 0] (by decide) rfl ?_
    refine pL_X10_edition_18 hd out hR _ (fun m_6 hf => ?_) xfuel _ _ hf
    refine x_iconst (v := 0) dX10_edition_76 (by decide) ?_
    refine x_istore_n (lv' := [(0, .ref (xB E + 87)), (1, .int ((0 : Int32)))]) dX10_edition_77 [1, 0] (by decide) rfl ?_
    refine pL_X10_edition_78 hd out hR _ (fun m_9 hf => ?_) xfuel _ _ hf
    refine x_aload_n dX10_edition_109 rfl ?_
    refine x_dup dX10_edition_110 rfl ?_
    refine f_getI dX10_edition_111 xcl_10 (by decide) fl_RX10_312 (by decide) sh_87 rfl ?_
    refine x_iconst (v := 1) dX10_edition_114 (by decide) ?_
    refine x_iadd dX10_edition_115 ?_
    refine f_putI dX10_edition_116 xcl_10 (by decide) fl_RX10_312 rfl rfl (by decide) sh_87 rfl ?_
    refine x_aload_n dX10_edition_119 rfl ?_
    refine f_getI dX10_edition_120 xcl_10 (by decide) fl_RX10_312 (by decide) sh_87 rfl ?_
    refine x_iconst (v := 1) dX10_edition_123 (by decide) ?_
    refine x_isub dX10_edition_124 ?_
    exact x_iret dX10_edition_125 rfl (by cases hf; exact hR)
  · replace hf := x_ift hc hf
    refine x_iconst (v := (-1)) dX10_edition_14 (by decide) ?_
    exact x_iret dX10_edition_15 rfl (by cases hf; exact hR)
theorem c_X10_edition {E : xE} {d : Nat} (hd : 5 ≤ d) (m : xMem) (out : Int32 × xMem) (h : F_X10_edition m = some out) : xCi E mX10_edition d [.ref (xB E + 87)] m out.1 out.2 :=
  x_enter (by decide +kernel) (Nat.le_of_ble_eq_true rfl) (pF_X10_edition hd (Q := _) out ⟨rfl, rfl⟩ m h)
-- X1_has
def F_X1_has (x1 : Int32) (m : xMem) : Option (Int32 × xMem) :=
  if x1 < 0 then (
    some ((0 : Int32), m))
  else (
    if (m.1 ag_editions fEditions_size) ≤ x1 then (
      some ((0 : Int32), m))
    else (
      some ((1 : Int32), m)))
set_option maxHeartbeats 4000000 in
set_option maxRecDepth 100000 in
theorem pF_X1_has {E : xE} {d : Nat} {Q : Option Value → xS → Prop} (hd : 1 ≤ d) (out : Int32 × xMem) (hR : Q (some (.int out.1)) (xf E out.2)) (x1 : Int32) (m : xMem) (hf : F_X1_has x1 m = some out) : xX E mX1_has d 0 0 0 0 Q 0 [(0, .ref (xB E + 46)), (1, .int (x1))] [] (xf E m) := by
  unfold F_X1_has at hf
  refine x_iload_n dX1_has_0 rfl ?_
  refine x_if_lt 16 dX1_has_1 (by decide) (fun hc => ?_) (fun hc => ?_)
  · replace hf := x_ift hc hf
    refine x_iconst (v := 0) dX1_has_16 (by decide) ?_
    exact x_zret dX1_has_17 rfl (by decide) (by cases hf; exact hR)
  · replace hf := x_iff hc hf
    refine x_iload_n dX1_has_4 rfl ?_
    refine x_aload_n dX1_has_5 rfl ?_
    refine f_getI dX1_has_6 xcl_1 (by decide) fl_RX1_26 (by decide) sh_46 rfl ?_
    refine x_icmp_ge 16 dX1_has_9 (by decide) (fun hc => ?_) (fun hc => ?_)
    · replace hf := x_ift hc hf
      refine x_iconst (v := 0) dX1_has_16 (by decide) ?_
      exact x_zret dX1_has_17 rfl (by decide) (by cases hf; exact hR)
    · replace hf := x_iff hc hf
      refine x_iconst (v := 1) dX1_has_12 (by decide) ?_
      refine x_goto 17 dX1_has_13 (by decide) ?_
      exact x_zret dX1_has_17 rfl (by decide) (by cases hf; exact hR)
theorem c_X1_has {E : xE} {d : Nat} (hd : 1 ≤ d) (x1 : Int32) (m : xMem) (out : Int32 × xMem) (h : F_X1_has x1 m = some out) : xCi E mX1_has d [.ref (xB E + 46), .int x1] m out.1 out.2 :=
  x_enter (by decide +kernel) (Nat.le_of_ble_eq_true rfl) (pF_X1_has hd (Q := _) out ⟨rfl, rfl⟩ x1 m h)
-- X9_printed
def J_X9_printed_41 (x1 : Int32) (x2 : Int32) (x3 : Int32) (m : xMem) : Option (Int32 × xMem) :=
  if x2 = (1 : Int32) then (
    (F_X9_isPlace (x3) m).bind fun q_2 => (
    if q_2.1 = 0 then (
      some ((-1 : Int32), q_2.2))
    else (
      if xin x1 10 = true then (
      if xin x3 10 = true then (
      some (q_2.2.1 (70 + (x1).toNatClampNeg) x3.toNatClampNeg, q_2.2))
      else none)
      else none)))
  else (
    some ((-1 : Int32), m))
def F_X9_printed (x1 : Int32) (x2 : Int32) (x3 : Int32) (m : xMem) : Option (Int32 × xMem) :=
  (F_X1_has (x1) m).bind fun q_1 => (
  if q_1.1 = 0 then (
    some ((-1 : Int32), q_1.2))
  else (
    if x2 = 0 then (
      (F_X1_hasFact (x1) (x3) q_1.2).bind fun q_5 => (
      if q_5.1 = 0 then (
        J_X9_printed_41 (x1) (x2) (x3) q_5.2)
      else (
        if xin x1 10 = true then (
        if xin x3 60 = true then (
        some (q_5.2.1 (48 + (x1).toNatClampNeg) x3.toNatClampNeg, q_5.2))
        else none)
        else none)))
    else (
      J_X9_printed_41 (x1) (x2) (x3) q_1.2)))
set_option maxHeartbeats 4000000 in
set_option maxRecDepth 100000 in
theorem pJ_X9_printed_41 {E : xE} {d : Nat} {Q : Option Value → xS → Prop} (hd : 3 ≤ d) (out : Int32 × xMem) (hR : Q (some (.int out.1)) (xf E out.2)) (x1 : Int32) (x2 : Int32) (x3 : Int32) (m : xMem) (hf : J_X9_printed_41 x1 x2 x3 m = some out) : xX E mX9_printed d 0 0 0 0 Q 41 [(0, .ref (xB E + 0)), (1, .int (x1)), (2, .int (x2)), (3, .int (x3))] [] (xf E m) := by
  unfold J_X9_printed_41 at hf
  refine x_iload_n dX9_printed_41 rfl ?_
  refine x_iconst (v := 1) dX9_printed_42 (by decide) ?_
  refine x_icmp_ne 65 dX9_printed_43 (by decide) (fun hc => ?_) (fun hc => ?_)
  · replace hf := x_iff hc hf
    refine x_iconst (v := (-1)) dX9_printed_65 (by decide) ?_
    exact x_iret dX9_printed_66 rfl (by cases hf; exact hR)
  · replace hf := x_ift hc hf
    refine x_iload_n dX9_printed_46 rfl ?_
    obtain ⟨q_2, hq_2, hf⟩ := Option.bind_eq_some_iff.mp hf
    refine f_cSi mX9_isPlace [.int (x3)] [] dX9_printed_47 cs_RX9_94 w_399 rfl rfl (Nat.le_of_ble_eq_true rfl) (by omega) (c_X9_isPlace (d := d - 1) (by omega) (x3) m q_2 hq_2) ?_
    refine x_if_eq 65 dX9_printed_50 (by decide) (fun hc => ?_) (fun hc => ?_)
    · replace hf := x_ift hc hf
      refine x_iconst (v := (-1)) dX9_printed_65 (by decide) ?_
      exact x_iret dX9_printed_66 rfl (by cases hf; exact hR)
    · replace hf := x_iff hc hf
      refine x_aload_n dX9_printed_53 rfl ?_
      refine f_getR (b := 46) dX9_printed_54 xcl_9 (by decide) fl_RX9_54 (by decide) sh_0 rfl ?_
      refine f_getR (b := 69) dX9_printed_57 xcl_1 (by decide) fl_RX9_215 (by decide) sh_46 rfl ?_
      refine x_iload_n dX9_printed_60 rfl ?_
      have hg_3 := x_gd hf
      replace hf := hg_3.2
      refine f_aald dX9_printed_61 (by decide) sh_69 hg_3.1 ?_
      refine x_iload_n dX9_printed_62 rfl ?_
      have hg_4 := x_gd hf
      replace hf := hg_4.2
      refine f_iald dX9_printed_63 (shn_69 _ (xin_lt hg_3.1)) (shr_69 _ (xin_lt hg_3.1)) hg_4.1 ?_
      exact x_iret dX9_printed_64 rfl (by cases hf; exact hR)
set_option maxHeartbeats 4000000 in
set_option maxRecDepth 100000 in
theorem pF_X9_printed {E : xE} {d : Nat} {Q : Option Value → xS → Prop} (hd : 3 ≤ d) (out : Int32 × xMem) (hR : Q (some (.int out.1)) (xf E out.2)) (x1 : Int32) (x2 : Int32) (x3 : Int32) (m : xMem) (hf : F_X9_printed x1 x2 x3 m = some out) : xX E mX9_printed d 0 0 0 0 Q 0 [(0, .ref (xB E + 0)), (1, .int (x1)), (2, .int (x2)), (3, .int (x3))] [] (xf E m) := by
  unfold F_X9_printed at hf
  refine x_aload_n dX9_printed_0 rfl ?_
  refine f_getR (b := 46) dX9_printed_1 xcl_9 (by decide) fl_RX9_54 (by decide) sh_0 rfl ?_
  refine x_iload_n dX9_printed_4 rfl ?_
  obtain ⟨q_1, hq_1, hf⟩ := Option.bind_eq_some_iff.mp hf
  refine f_cVi mX1_has [.int (x1)] [] dX9_printed_5 cs_RX9_218 ⟨w_816, w_54⟩ (ci := 1) rfl (by decide) sh_46 rfl rfl (Nat.le_of_ble_eq_true rfl) (by omega) (c_X1_has (d := d - 1) (by omega) (x1) m q_1 hq_1) ?_
  refine x_if_ne 13 dX9_printed_8 (by decide) (fun hc => ?_) (fun hc => ?_)
  · replace hf := x_iff hc hf
    refine x_iload_n dX9_printed_13 rfl ?_
    refine x_if_ne 41 dX9_printed_14 (by decide) (fun hc => ?_) (fun hc => ?_)
    · replace hf := x_iff hc hf
      exact pJ_X9_printed_41 hd out hR _ _ _ _ hf
    · replace hf := x_ift hc hf
      refine x_aload_n dX9_printed_17 rfl ?_
      refine f_getR (b := 46) dX9_printed_18 xcl_9 (by decide) fl_RX9_54 (by decide) sh_0 rfl ?_
      refine x_iload_n dX9_printed_21 rfl ?_
      refine x_iload_n dX9_printed_22 rfl ?_
      obtain ⟨q_5, hq_5, hf⟩ := Option.bind_eq_some_iff.mp hf
      refine f_cVi mX1_hasFact [.int (x1), .int (x3)] [] dX9_printed_23 cs_RX9_219 ⟨w_438, w_6⟩ (ci := 1) rfl (by decide) sh_46 rfl rfl (Nat.le_of_ble_eq_true rfl) (by omega) (c_X1_hasFact (d := d - 1) (by omega) (x1) (x3) q_1.2 q_5 hq_5) ?_
      refine x_if_eq 41 dX9_printed_26 (by decide) (fun hc => ?_) (fun hc => ?_)
      · replace hf := x_ift hc hf
        exact pJ_X9_printed_41 hd out hR _ _ _ _ hf
      · replace hf := x_iff hc hf
        refine x_aload_n dX9_printed_29 rfl ?_
        refine f_getR (b := 46) dX9_printed_30 xcl_9 (by decide) fl_RX9_54 (by decide) sh_0 rfl ?_
        refine f_getR (b := 47) dX9_printed_33 xcl_1 (by decide) fl_RX9_212 (by decide) sh_46 rfl ?_
        refine x_iload_n dX9_printed_36 rfl ?_
        have hg_6 := x_gd hf
        replace hf := hg_6.2
        refine f_aald dX9_printed_37 (by decide) sh_47 hg_6.1 ?_
        refine x_iload_n dX9_printed_38 rfl ?_
        have hg_7 := x_gd hf
        replace hf := hg_7.2
        refine f_iald dX9_printed_39 (shn_47 _ (xin_lt hg_6.1)) (shr_47 _ (xin_lt hg_6.1)) hg_7.1 ?_
        exact x_iret dX9_printed_40 rfl (by cases hf; exact hR)
  · replace hf := x_ift hc hf
    refine x_iconst (v := (-1)) dX9_printed_11 (by decide) ?_
    exact x_iret dX9_printed_12 rfl (by cases hf; exact hR)
theorem c_X9_printed {E : xE} {d : Nat} (hd : 3 ≤ d) (x1 : Int32) (x2 : Int32) (x3 : Int32) (m : xMem) (out : Int32 × xMem) (h : F_X9_printed x1 x2 x3 m = some out) : xCi E mX9_printed d [.ref (xB E + 0), .int x1, .int x2, .int x3] m out.1 out.2 :=
  x_enter (by decide +kernel) (Nat.le_of_ble_eq_true rfl) (pF_X9_printed hd (Q := _) out ⟨rfl, rfl⟩ x1 x2 x3 m h)
-- X10_printed
def J_X10_printed_42 (x1 : Int32) (x2 : Int32) (x3 : Int32) (s0 : Int32) (s1 : Int32) (m : xMem) : Option (Int32 × xMem) :=
  if s0 < s1 then (
    if x2 = 0 then (
      if xin (((60 : Int32) * x1) + x3) 600 = true then (
      some (m.1 am_asPrinted (((60 : Int32) * x1) + x3).toNatClampNeg, m))
      else none)
    else (
      if xin (((10 : Int32) * x1) + x3) 100 = true then (
      some (m.1 am_starred (((10 : Int32) * x1) + x3).toNatClampNeg, m))
      else none))
  else (
    some ((-1 : Int32), m))
def F_X10_printed (x1 : Int32) (x2 : Int32) (x3 : Int32) (m : xMem) : Option (Int32 × xMem) :=
  if x1 < 0 then (
    some ((-1 : Int32), (xst m.1 am fGuideBookModel_thrown (0 : Int32), m.2)))
  else (
    if ((xst m.1 am fGuideBookModel_thrown (0 : Int32)) am fGuideBookModel_editions) ≤ x1 then (
      some ((-1 : Int32), (xst m.1 am fGuideBookModel_thrown (0 : Int32), m.2)))
    else (
      if x2 < 0 then (
        some ((-1 : Int32), (xst m.1 am fGuideBookModel_thrown (0 : Int32), m.2)))
      else (
        if (1 : Int32) < x2 then (
          some ((-1 : Int32), (xst m.1 am fGuideBookModel_thrown (0 : Int32), m.2)))
        else (
          if x3 < 0 then (
            some ((-1 : Int32), (xst m.1 am fGuideBookModel_thrown (0 : Int32), m.2)))
          else (
            if x2 = 0 then (
              J_X10_printed_42 (x1) (x2) (x3) (x3) ((60 : Int32)) (xst m.1 am fGuideBookModel_thrown (0 : Int32), m.2))
            else (
              J_X10_printed_42 (x1) (x2) (x3) (x3) ((10 : Int32)) (xst m.1 am fGuideBookModel_thrown (0 : Int32), m.2)))))))
set_option maxHeartbeats 4000000 in
set_option maxRecDepth 100000 in
theorem pJ_X10_printed_42 {E : xE} {d : Nat} {Q : Option Value → xS → Prop} (hd : 1 ≤ d) (out : Int32 × xMem) (hR : Q (some (.int out.1)) (xf E out.2)) (x1 : Int32) (x2 : Int32) (x3 : Int32) (s0 : Int32) (s1 : Int32) (m : xMem) (hf : J_X10_printed_42 x1 x2 x3 s0 s1 m = some out) : xX E mX10_printed d 0 0 0 0 Q 42 [(0, .ref (xB E + 87)), (1, .int (x1)), (2, .int (x2)), (3, .int (x3))] [.int (s1), .int (s0)] (xf E m) := by
  unfold J_X10_printed_42 at hf
  refine x_icmp_lt 47 dX10_printed_42 (by decide) (fun hc => ?_) (fun hc => ?_)
  · replace hf := x_ift hc hf
    refine x_iload_n dX10_printed_47 rfl ?_
    refine x_if_ne 65 dX10_printed_48 (by decide) (fun hc => ?_) (fun hc => ?_)
    · replace hf := x_iff hc hf
      refine x_aload_n dX10_printed_65 rfl ?_
      refine f_getR (b := 124) dX10_printed_66 xcl_10 (by decide) fl_RX10_149 (by decide) sh_87 rfl ?_
      refine x_bipush (v := 10) dX10_printed_69 (by decide) ?_
      refine x_iload_n dX10_printed_71 rfl ?_
      refine x_imul dX10_printed_72 ?_
      refine x_iload_n dX10_printed_73 rfl ?_
      refine x_iadd dX10_printed_74 ?_
      have hg_1 := x_gd hf
      replace hf := hg_1.2
      refine f_iald dX10_printed_75 (by decide) sh_124 hg_1.1 ?_
      exact x_iret dX10_printed_76 rfl (by cases hf; exact hR)
    · replace hf := x_ift hc hf
      refine x_aload_n dX10_printed_51 rfl ?_
      refine f_getR (b := 122) dX10_printed_52 xcl_10 (by decide) fl_RX10_143 (by decide) sh_87 rfl ?_
      refine x_bipush (v := 60) dX10_printed_55 (by decide) ?_
      refine x_iload_n dX10_printed_57 rfl ?_
      refine x_imul dX10_printed_58 ?_
      refine x_iload_n dX10_printed_59 rfl ?_
      refine x_iadd dX10_printed_60 ?_
      have hg_2 := x_gd hf
      replace hf := hg_2.2
      refine f_iald dX10_printed_61 (by decide) sh_122 hg_2.1 ?_
      refine x_goto 76 dX10_printed_62 (by decide) ?_
      exact x_iret dX10_printed_76 rfl (by cases hf; exact hR)
  · replace hf := x_iff hc hf
    refine x_iconst (v := (-1)) dX10_printed_45 (by decide) ?_
    exact x_iret dX10_printed_46 rfl (by cases hf; exact hR)
set_option maxHeartbeats 4000000 in
set_option maxRecDepth 100000 in
theorem pF_X10_printed {E : xE} {d : Nat} {Q : Option Value → xS → Prop} (hd : 1 ≤ d) (out : Int32 × xMem) (hR : Q (some (.int out.1)) (xf E out.2)) (x1 : Int32) (x2 : Int32) (x3 : Int32) (m : xMem) (hf : F_X10_printed x1 x2 x3 m = some out) : xX E mX10_printed d 0 0 0 0 Q 0 [(0, .ref (xB E + 87)), (1, .int (x1)), (2, .int (x2)), (3, .int (x3))] [] (xf E m) := by
  unfold F_X10_printed at hf
  refine x_aload_n dX10_printed_0 rfl ?_
  refine x_iconst (v := 0) dX10_printed_1 (by decide) ?_
  refine f_putI dX10_printed_2 xcl_10 (by decide) fl_RX10_1 rfl rfl (by decide) sh_87 rfl ?_
  refine x_iload_n dX10_printed_5 rfl ?_
  refine x_if_lt 45 dX10_printed_6 (by decide) (fun hc => ?_) (fun hc => ?_)
  · replace hf := x_ift hc hf
    refine x_iconst (v := (-1)) dX10_printed_45 (by decide) ?_
    exact x_iret dX10_printed_46 rfl (by cases hf; exact hR)
  · replace hf := x_iff hc hf
    refine x_iload_n dX10_printed_9 rfl ?_
    refine x_aload_n dX10_printed_10 rfl ?_
    refine f_getI dX10_printed_11 xcl_10 (by decide) fl_RX10_312 (by decide) sh_87 rfl ?_
    refine x_icmp_ge 45 dX10_printed_14 (by decide) (fun hc => ?_) (fun hc => ?_)
    · replace hf := x_ift hc hf
      refine x_iconst (v := (-1)) dX10_printed_45 (by decide) ?_
      exact x_iret dX10_printed_46 rfl (by cases hf; exact hR)
    · replace hf := x_iff hc hf
      refine x_iload_n dX10_printed_17 rfl ?_
      refine x_if_lt 45 dX10_printed_18 (by decide) (fun hc => ?_) (fun hc => ?_)
      · replace hf := x_ift hc hf
        refine x_iconst (v := (-1)) dX10_printed_45 (by decide) ?_
        exact x_iret dX10_printed_46 rfl (by cases hf; exact hR)
      · replace hf := x_iff hc hf
        refine x_iload_n dX10_printed_21 rfl ?_
        refine x_iconst (v := 1) dX10_printed_22 (by decide) ?_
        refine x_icmp_gt 45 dX10_printed_23 (by decide) (fun hc => ?_) (fun hc => ?_)
        · replace hf := x_ift hc hf
          refine x_iconst (v := (-1)) dX10_printed_45 (by decide) ?_
          exact x_iret dX10_printed_46 rfl (by cases hf; exact hR)
        · replace hf := x_iff hc hf
          refine x_iload_n dX10_printed_26 rfl ?_
          refine x_if_lt 45 dX10_printed_27 (by decide) (fun hc => ?_) (fun hc => ?_)
          · replace hf := x_ift hc hf
            refine x_iconst (v := (-1)) dX10_printed_45 (by decide) ?_
            exact x_iret dX10_printed_46 rfl (by cases hf; exact hR)
          · replace hf := x_iff hc hf
            refine x_iload_n dX10_printed_30 rfl ?_
            refine x_iload_n dX10_printed_31 rfl ?_
            refine x_if_ne 40 dX10_printed_32 (by decide) (fun hc => ?_) (fun hc => ?_)
            · replace hf := x_iff hc hf
              refine x_bipush (v := 10) dX10_printed_40 (by decide) ?_
              exact pJ_X10_printed_42 hd out hR _ _ _ _ _ _ hf
            · replace hf := x_ift hc hf
              refine x_bipush (v := 60) dX10_printed_35 (by decide) ?_
              refine x_goto 42 dX10_printed_37 (by decide) ?_
              exact pJ_X10_printed_42 hd out hR _ _ _ _ _ _ hf
theorem c_X10_printed {E : xE} {d : Nat} (hd : 1 ≤ d) (x1 : Int32) (x2 : Int32) (x3 : Int32) (m : xMem) (out : Int32 × xMem) (h : F_X10_printed x1 x2 x3 m = some out) : xCi E mX10_printed d [.ref (xB E + 87), .int x1, .int x2, .int x3] m out.1 out.2 :=
  x_enter (by decide +kernel) (Nat.le_of_ble_eq_true rfl) (pF_X10_printed hd (Q := _) out ⟨rfl, rfl⟩ x1 x2 x3 m h)
